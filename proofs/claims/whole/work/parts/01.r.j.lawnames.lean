set_option maxRecDepth 20000 in
theorem gL_law_X9_orchard : GoodIn wsL_law (wsV RL 25 RX9 yX9_orchard wsX9_orchard) := goodIn_app (goodIn_of _ (by decide +kernel)) ggL_law_X9_orchard
set_option maxRecDepth 20000 in
theorem ggL_law_X10_orchard : GoodIn wsL_law wsX10_orchard := goodIn_r _ [461, 462, 463, 267, 273, 272, 464, 268, 269, 270, 271, 274, 275, 276, 277, 278, 303, 465, 466, 467, 5, 468, 469, 470, 471, 472, 473, 474, 266, 305, 306, 307, 475, 476, 477, 478, 479, 480, 481, 482, 483, 484, 485, 486, 487, 488, 489, 490, 491, 492, 493, 494, 930, 931, 932, 933, 934, 935, 936, 937, 938, 939, 940, 941, 942, 943, 944, 945, 946, 947, 948, 949, 950, 951, 952, 953, 954, 955, 956] (by decide +kernel) (by decide +kernel)
set_option maxRecDepth 20000 in
theorem gL_law_X10_orchard : GoodIn wsL_law (wsV RL 28 RX10 yX10_orchard wsX10_orchard) := goodIn_app (goodIn_of _ (by decide +kernel)) ggL_law_X10_orchard
set_option maxRecDepth 20000 in
theorem ggL_law_X9_half : GoodIn wsL_law wsX9_half := goodIn_r _ [498, 24, 499, 500, 501, 502, 49, 503, 504, 163, 164, 23, 165, 77, 916, 917, 918, 919, 920, 921, 922, 923, 924, 925, 926, 927, 928, 929, 966, 967, 968, 969, 970, 971, 972, 973, 974, 975, 995, 996, 997, 998, 999, 1000, 1001] (by decide +kernel) (by decide +kernel)
set_option maxRecDepth 20000 in
theorem gL_law_X9_half : GoodIn wsL_law (wsV RL 29 RX9 yX9_half wsX9_half) := goodIn_app (goodIn_of _ (by decide +kernel)) ggL_law_X9_half
set_option maxRecDepth 20000 in
theorem ggL_law_X10_half : GoodIn wsL_law wsX10_half := goodIn_r _ [508, 268, 269, 270, 271, 277, 509, 510, 511, 5, 512, 267, 305, 306, 307, 930, 931, 932, 933, 934, 935, 936, 937, 938, 939, 940, 941, 942, 943, 944, 945, 946, 947, 948, 949, 950, 951, 952, 953, 954, 955, 956] (by decide +kernel) (by decide +kernel)
set_option maxRecDepth 20000 in
theorem gL_law_X10_half : GoodIn wsL_law (wsV RL 33 RX10 yX10_half wsX10_half) := goodIn_app (goodIn_of _ (by decide +kernel)) ggL_law_X10_half
set_option maxRecDepth 20000 in
theorem ggL_law_X9_tree : GoodIn wsL_law wsX9_tree := goodIn_r _ [516, 24, 517, 518, 519, 49, 520, 521, 522, 523, 524, 23, 525, 78, 916, 917, 918, 919, 920, 921, 922, 923, 924, 925, 926, 927, 928, 929, 966, 967, 968, 969, 970, 971, 972, 973, 974, 975, 995, 996, 997, 998, 999, 1000, 1001] (by decide +kernel) (by decide +kernel)
set_option maxRecDepth 20000 in
theorem gL_law_X9_tree : GoodIn wsL_law (wsV RL 34 RX9 yX9_tree wsX9_tree) := goodIn_app (goodIn_of _ (by decide +kernel)) ggL_law_X9_tree
set_option maxRecDepth 20000 in
theorem ggL_law_X10_tree : GoodIn wsL_law wsX10_tree := goodIn_r _ [529, 274, 275, 276, 277, 530, 531, 532, 5, 533, 273, 305, 306, 307, 930, 931, 932, 933, 934, 935, 936, 937, 938, 939, 940, 941, 942, 943, 944, 945, 946, 947, 948, 949, 950, 951, 952, 953, 954, 955, 956] (by decide +kernel) (by decide +kernel)
set_option maxRecDepth 20000 in
theorem gL_law_X10_tree : GoodIn wsL_law (wsV RL 37 RX10 yX10_tree wsX10_tree) := goodIn_app (goodIn_of _ (by decide +kernel)) ggL_law_X10_tree
set_option maxRecDepth 20000 in
theorem ggL_law_X9_fit : GoodIn wsL_law wsX9_fit := goodIn_r _ [537, 24, 538, 539, 540, 2, 541, 504, 163, 164, 23, 165, 77, 542, 155, 156, 157, 80, 158, 159, 160, 161, 79, 83, 162, 916, 917, 918, 919, 920, 921, 922, 923, 924, 925, 926, 927, 928, 929, 966, 967, 968, 969, 970, 971, 972, 973, 974, 975] (by decide +kernel) (by decide +kernel)
set_option maxRecDepth 20000 in
theorem gL_law_X9_fit : GoodIn wsL_law (wsV RL 38 RX9 yX9_fit wsX9_fit) := goodIn_app (goodIn_of _ (by decide +kernel)) ggL_law_X9_fit
set_option maxRecDepth 20000 in
theorem ggL_law_X10_fit : GoodIn wsL_law wsX10_fit := goodIn_r _ [546, 509, 510, 511, 5, 512, 267, 305, 306, 307, 547, 548, 549, 550, 268, 269, 272, 930, 931, 932, 933, 934, 935, 936, 937, 938, 939, 940, 941, 942, 943, 944, 945, 946, 947, 948, 949, 950, 951, 952, 953, 954, 955, 956] (by decide +kernel) (by decide +kernel)
