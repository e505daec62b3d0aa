set_option maxRecDepth 20000 in
theorem ggL_law_X9_trace_p0 : GoodIn wsL_law [Cond.fieldLink RX9 88 "HalfLadders" "traced" "J"] := goodIn_r _ [54] (by decide +kernel) (by decide +kernel)
set_option maxRecDepth 20000 in
theorem ggL_law_X9_trace_wsX90 : GoodIn wsL_law wsX90 := goodIn_sub inlX9 (by decide +kernel)
set_option maxRecDepth 20000 in
theorem ggL_law_X9_trace : GoodIn wsL_law wsX9_trace := fun w h => (List.mem_cons.mp h).elim (fun e => ggL_law_X9_trace_h w (List.mem_cons.mpr (Or.inl e))) (fun h => (goodIn_app (show GoodIn wsL_law [Cond.fieldLink RX9 88 "HalfLadders" "traced" "J"] from ggL_law_X9_trace_p0) ggL_law_X9_trace_wsX90) w h)
set_option maxRecDepth 20000 in
theorem gL_law_X9_trace : GoodIn wsL_law (wsV RL 112 RX9 yX9_trace wsX9_trace) := goodIn_app (goodIn_of _ (by decide +kernel)) ggL_law_X9_trace
set_option maxRecDepth 20000 in
theorem ggL_law_X10_trace_h : GoodIn wsL_law [Cond.code yX10_trace cX10_trace 1 (some .long)] := goodIn_r _ [915] (by decide +kernel) (by decide +kernel)
set_option maxRecDepth 20000 in
theorem ggL_law_X10_trace_p0 : GoodIn wsL_law [Cond.fieldLink RX10 201 "HalfLaddersModel" "trace" "J"] := goodIn_r _ [869] (by decide +kernel) (by decide +kernel)
set_option maxRecDepth 20000 in
theorem ggL_law_X10_trace_wsX100 : GoodIn wsL_law wsX100 := goodIn_sub inlX10 (by decide +kernel)
set_option maxRecDepth 20000 in
theorem ggL_law_X10_trace : GoodIn wsL_law wsX10_trace := fun w h => (List.mem_cons.mp h).elim (fun e => ggL_law_X10_trace_h w (List.mem_cons.mpr (Or.inl e))) (fun h => (goodIn_app (show GoodIn wsL_law [Cond.fieldLink RX10 201 "HalfLaddersModel" "trace" "J"] from ggL_law_X10_trace_p0) ggL_law_X10_trace_wsX100) w h)
set_option maxRecDepth 20000 in
theorem gL_law_X10_trace : GoodIn wsL_law (wsV RL 116 RX10 yX10_trace wsX10_trace) := goodIn_app (goodIn_of _ (by decide +kernel)) ggL_law_X10_trace
