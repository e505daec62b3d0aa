set_option maxRecDepth 20000 in
theorem ggL_law_X9_orchard_r14 : GoodIn wsL_law wsX9_orchard_r14 := goodIn_r _ [253, 254, 48, 255, 126, 127, 128, 129, 130, 256, 257, 258, 259, 260, 132, 261] (by decide +kernel) (by decide +kernel)
theorem ggL_law_X9_orchard_wsX90 : GoodIn wsL_law wsX90 := goodIn_sub inlX9 (by decide +kernel)
theorem ggL_law_X9_orchard_wsX80 : GoodIn wsL_law wsX80 := goodIn_sub inlX8 (by decide +kernel)
theorem ggL_law_X9_orchard_wsX60 : GoodIn wsL_law wsX60 := goodIn_sub inlX6 (by decide +kernel)
theorem ggL_law_X9_orchard_wsX30 : GoodIn wsL_law wsX30 := goodIn_sub inlX3 (by decide +kernel)
theorem ggL_law_X9_orchard_wsX40 : GoodIn wsL_law wsX40 := goodIn_sub inlX4 (by decide +kernel)
theorem ggL_law_X9_orchard_wsX70 : GoodIn wsL_law wsX70 := goodIn_sub inlX7 (by decide +kernel)
