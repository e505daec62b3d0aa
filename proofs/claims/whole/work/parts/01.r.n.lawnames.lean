theorem ggL_law_X9_best_wsX30 : GoodIn wsL_law wsX30 := goodIn_sub inlX3 (by decide +kernel)
theorem ggL_law_X9_best_wsX40 : GoodIn wsL_law wsX40 := goodIn_sub inlX4 (by decide +kernel)
theorem ggL_law_X9_best_wsX20 : GoodIn wsL_law wsX20 := goodIn_sub inlX2 (by decide +kernel)
theorem ggL_law_X9_best : GoodIn wsL_law wsX9_best := fun w h => (List.mem_cons.mp h).elim (fun e => ggL_law_X9_best_h w (List.mem_cons.mpr (Or.inl e))) (fun h => (goodIn_app (goodIn_app (goodIn_app (goodIn_app (goodIn_app ((goodIn_app ggL_law_X9_best_r1 (goodIn_app ggL_law_X9_best_r2 (goodIn_app ggL_law_X9_best_r3 (ggL_law_X9_best_r4))))) ggL_law_X9_best_wsX90) ggL_law_X9_best_wsX50) ggL_law_X9_best_wsX30) ggL_law_X9_best_wsX40) ggL_law_X9_best_wsX20) w h)
