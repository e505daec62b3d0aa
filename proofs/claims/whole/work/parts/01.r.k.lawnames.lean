set_option maxRecDepth 20000 in
theorem gL_law_X10_fit : GoodIn wsL_law (wsV RL 41 RX10 yX10_fit wsX10_fit) := goodIn_app (goodIn_of _ (by decide +kernel)) ggL_law_X10_fit
set_option maxRecDepth 20000 in
theorem ggL_law_X9_climb : GoodIn wsL_law wsX9_climb := goodIn_r _ [554, 24, 29, 49, 555, 538, 539, 540, 2, 541, 504, 163, 164, 23, 165, 77, 522, 523, 524, 525, 78, 556, 557, 558, 28, 559, 90, 94, 560, 561, 562, 48, 563, 126, 128, 127, 564, 565, 566, 567, 132, 568, 150, 151, 152, 569, 570, 571, 572, 85, 573, 574, 575, 576, 577, 129, 916, 917, 918, 919, 920, 921, 922, 923, 924, 925, 926, 927, 928, 929, 976, 977, 978, 979, 980, 981, 982, 983, 966, 967, 968, 969, 970, 971, 972, 973, 974, 975, 995, 996, 997, 998, 999, 1000, 1001] (by decide +kernel) (by decide +kernel)
set_option maxRecDepth 20000 in
theorem gL_law_X9_climb : GoodIn wsL_law (wsV RL 42 RX9 yX9_climb wsX9_climb) := goodIn_app (goodIn_of _ (by decide +kernel)) ggL_law_X9_climb
set_option maxRecDepth 20000 in
theorem ggL_law_X10_climb : GoodIn wsL_law wsX10_climb := goodIn_r _ [581, 509, 510, 511, 5, 512, 267, 305, 306, 307, 530, 531, 532, 533, 273, 582, 583, 584, 585, 277, 275, 274, 547, 548, 549, 550, 268, 269, 272, 586, 587, 588, 589, 270, 590, 591, 592, 593, 594, 595, 596, 597, 271, 930, 931, 932, 933, 934, 935, 936, 937, 938, 939, 940, 941, 942, 943, 944, 945, 946, 947, 948, 949, 950, 951, 952, 953, 954, 955, 956] (by decide +kernel) (by decide +kernel)
set_option maxRecDepth 20000 in
theorem gL_law_X10_climb : GoodIn wsL_law (wsV RL 46 RX10 yX10_climb wsX10_climb) := goodIn_app (goodIn_of _ (by decide +kernel)) ggL_law_X10_climb
set_option maxRecDepth 20000 in
theorem ggL_law_X9_ends : GoodIn wsL_law wsX9_ends := goodIn_r _ [601, 49, 602, 24, 603, 604, 605, 48, 606, 126, 127, 128, 260, 607, 132, 130, 916, 917, 918, 919, 920, 921, 922, 923, 924, 925, 926, 927, 928, 929, 995, 996, 997, 998, 999, 1000, 1001, 966, 967, 968, 969, 970, 971, 972, 973, 974, 975] (by decide +kernel) (by decide +kernel)
set_option maxRecDepth 20000 in
theorem gL_law_X9_ends : GoodIn wsL_law (wsV RL 47 RX9 yX9_ends wsX9_ends) := goodIn_app (goodIn_of _ (by decide +kernel)) ggL_law_X9_ends
set_option maxRecDepth 20000 in
theorem ggL_law_X10_ends : GoodIn wsL_law wsX10_ends := goodIn_r _ [611, 277, 612, 613, 614, 5, 615, 273, 275, 930, 931, 932, 933, 934, 935, 936, 937, 938, 939, 940, 941, 942, 943, 944, 945, 946, 947, 948, 949, 950, 951, 952, 953, 954, 955, 956] (by decide +kernel) (by decide +kernel)
set_option maxRecDepth 20000 in
theorem gL_law_X10_ends : GoodIn wsL_law (wsV RL 50 RX10 yX10_ends wsX10_ends) := goodIn_app (goodIn_of _ (by decide +kernel)) ggL_law_X10_ends
set_option maxRecDepth 20000 in
theorem ggL_law_X9_now : GoodIn wsL_law wsX9_now := goodIn_r _ [619, 49, 602, 620, 621, 24, 503, 622, 623, 624, 48, 625, 260, 132, 916, 917, 918, 919, 920, 921, 922, 923, 924, 925, 926, 927, 928, 929, 995, 996, 997, 998, 999, 1000, 1001, 966, 967, 968, 969, 970, 971, 972, 973, 974, 975] (by decide +kernel) (by decide +kernel)
set_option maxRecDepth 20000 in
theorem gL_law_X9_now : GoodIn wsL_law (wsV RL 51 RX9 yX9_now wsX9_now) := goodIn_app (goodIn_of _ (by decide +kernel)) ggL_law_X9_now
set_option maxRecDepth 20000 in
theorem ggL_law_X10_now : GoodIn wsL_law wsX10_now := goodIn_r _ [629, 273, 277, 930, 931, 932, 933, 934, 935, 936, 937, 938, 939, 940, 941, 942, 943, 944, 945, 946, 947, 948, 949, 950, 951, 952, 953, 954, 955, 956] (by decide +kernel) (by decide +kernel)
set_option maxRecDepth 20000 in
theorem gL_law_X10_now : GoodIn wsL_law (wsV RL 55 RX10 yX10_now wsX10_now) := goodIn_app (goodIn_of _ (by decide +kernel)) ggL_law_X10_now
set_option maxRecDepth 20000 in
theorem ggL_law_X9_year : GoodIn wsL_law wsX9_year := goodIn_r _ [633, 49, 24, 252, 253, 254, 48, 255, 126, 127, 128, 129, 130, 634, 635, 636, 637, 260, 131, 638, 132, 261, 622, 623, 624, 625, 916, 917, 918, 919, 920, 921, 922, 923, 924, 925, 926, 927, 928, 929, 995, 996, 997, 998, 999, 1000, 1001, 966, 967, 968, 969, 970, 971, 972, 973, 974, 975] (by decide +kernel) (by decide +kernel)
