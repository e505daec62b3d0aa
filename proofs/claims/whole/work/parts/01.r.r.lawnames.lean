set_option maxRecDepth 20000 in
theorem gL_law_X9_season : GoodIn wsL_law (wsV RL 68 RX9 yX9_season wsX9_season) := goodIn_app (goodIn_of _ (by decide +kernel)) ggL_law_X9_season
set_option maxRecDepth 20000 in
theorem ggL_law_X10_season : GoodIn wsL_law wsX10_season := goodIn_r _ [728, 279, 273, 280, 277, 305, 306, 5, 307, 729, 730, 731, 732, 701, 702, 703, 704, 705, 706, 707, 708, 268, 509, 510, 511, 512, 267, 582, 583, 584, 585, 275, 274, 547, 548, 549, 550, 269, 272, 586, 587, 588, 589, 270, 709, 710, 711, 594, 595, 596, 597, 271, 590, 591, 592, 593, 612, 613, 614, 615, 930, 931, 932, 933, 934, 935, 936, 937, 938, 939, 940, 941, 942, 943, 944, 945, 946, 947, 948, 949, 950, 951, 952, 953, 954, 955, 956] (by decide +kernel) (by decide +kernel)
set_option maxRecDepth 20000 in
theorem gL_law_X10_season : GoodIn wsL_law (wsV RL 71 RX10 yX10_season wsX10_season) := goodIn_app (goodIn_of _ (by decide +kernel)) ggL_law_X10_season
set_option maxRecDepth 20000 in
theorem ggL_law_X9_whole : GoodIn wsL_law wsX9_whole := goodIn_r _ [736, 33, 737, 24, 738, 171, 172, 23, 173, 77, 916, 917, 918, 919, 920, 921, 922, 923, 924, 925, 926, 927, 928, 929, 984, 966, 967, 968, 969, 970, 971, 972, 973, 974, 975] (by decide +kernel) (by decide +kernel)
set_option maxRecDepth 20000 in
theorem gL_law_X9_whole : GoodIn wsL_law (wsV RL 72 RX9 yX9_whole wsX9_whole) := goodIn_app (goodIn_of _ (by decide +kernel)) ggL_law_X9_whole
set_option maxRecDepth 20000 in
theorem ggL_law_X10_whole : GoodIn wsL_law wsX10_whole := goodIn_r _ [742, 281, 267, 743, 744, 745, 5, 746, 271, 547, 548, 549, 550, 268, 269, 272, 930, 931, 932, 933, 934, 935, 936, 937, 938, 939, 940, 941, 942, 943, 944, 945, 946, 947, 948, 949, 950, 951, 952, 953, 954, 955, 956] (by decide +kernel) (by decide +kernel)
set_option maxRecDepth 20000 in
theorem gL_law_X10_whole : GoodIn wsL_law (wsV RL 75 RX10 yX10_whole wsX10_whole) := goodIn_app (goodIn_of _ (by decide +kernel)) ggL_law_X10_whole
set_option maxRecDepth 20000 in
theorem ggL_law_X9_worth : GoodIn wsL_law wsX9_worth := goodIn_r _ [750, 24, 751, 752, 33, 504, 163, 164, 23, 165, 77, 753, 754, 755, 32, 756, 101, 757, 213, 204, 214, 215, 216, 217, 758, 759, 2, 760, 916, 917, 918, 919, 920, 921, 922, 923, 924, 925, 926, 927, 928, 929, 966, 967, 968, 969, 970, 971, 972, 973, 974, 975, 984] (by decide +kernel) (by decide +kernel)
set_option maxRecDepth 20000 in
theorem gL_law_X9_worth : GoodIn wsL_law (wsV RL 76 RX9 yX9_worth wsX9_worth) := goodIn_app (goodIn_of _ (by decide +kernel)) ggL_law_X9_worth
set_option maxRecDepth 20000 in
theorem ggL_law_X10_worth : GoodIn wsL_law wsX10_worth := goodIn_r _ [764, 267, 281, 509, 510, 511, 5, 512, 305, 306, 307, 743, 744, 745, 746, 271, 547, 548, 549, 550, 268, 269, 272, 765, 766, 767, 768, 769, 770, 771, 772, 773, 930, 931, 932, 933, 934, 935, 936, 937, 938, 939, 940, 941, 942, 943, 944, 945, 946, 947, 948, 949, 950, 951, 952, 953, 954, 955, 956] (by decide +kernel) (by decide +kernel)
set_option maxRecDepth 20000 in
theorem gL_law_X10_worth : GoodIn wsL_law (wsV RL 79 RX10 yX10_worth wsX10_worth) := goodIn_app (goodIn_of _ (by decide +kernel)) ggL_law_X10_worth
set_option maxRecDepth 20000 in
theorem ggL_law_X9_asked : GoodIn wsL_law wsX9_asked := goodIn_r _ [777, 24, 41, 778, 504, 163, 164, 23, 165, 77, 916, 917, 918, 919, 920, 921, 922, 923, 924, 925, 926, 927, 928, 929, 987, 988, 989, 990, 991, 966, 967, 968, 969, 970, 971, 972, 973, 974, 975] (by decide +kernel) (by decide +kernel)
set_option maxRecDepth 20000 in
theorem gL_law_X9_asked : GoodIn wsL_law (wsV RL 80 RX9 yX9_asked wsX9_asked) := goodIn_app (goodIn_of _ (by decide +kernel)) ggL_law_X9_asked
set_option maxRecDepth 20000 in
theorem ggL_law_X10_asked : GoodIn wsL_law wsX10_asked := goodIn_r _ [782, 282, 509, 510, 511, 5, 512, 267, 305, 306, 307, 783, 784, 785, 786, 283, 268, 787, 788, 789, 790, 547, 548, 549, 550, 269, 272, 791, 792, 793, 794, 271, 586, 587, 588, 589, 270, 930, 931, 932, 933, 934, 935, 936, 937, 938, 939, 940, 941, 942, 943, 944, 945, 946, 947, 948, 949, 950, 951, 952, 953, 954, 955, 956] (by decide +kernel) (by decide +kernel)
