set_option maxRecDepth 20000 in
theorem gL_law_X10_asked : GoodIn wsL_law (wsV RL 83 RX10 yX10_asked wsX10_asked) := goodIn_app (goodIn_of _ (by decide +kernel)) ggL_law_X10_asked
set_option maxRecDepth 20000 in
theorem ggL_law_X9_rests : GoodIn wsL_law wsX9_rests := goodIn_r _ [798, 41, 799, 916, 917, 918, 919, 920, 921, 922, 923, 924, 925, 926, 927, 928, 929, 987, 988, 989, 990, 991] (by decide +kernel) (by decide +kernel)
set_option maxRecDepth 20000 in
theorem gL_law_X9_rests : GoodIn wsL_law (wsV RL 84 RX9 yX9_rests wsX9_rests) := goodIn_app (goodIn_of _ (by decide +kernel)) ggL_law_X9_rests
set_option maxRecDepth 20000 in
theorem ggL_law_X10_rests : GoodIn wsL_law wsX10_rests := goodIn_r _ [803, 267, 268, 804, 805, 806, 5, 807, 282, 808, 809, 810, 811, 547, 548, 549, 550, 269, 272, 812, 813, 814, 815, 791, 792, 793, 794, 271, 586, 587, 588, 589, 270, 930, 931, 932, 933, 934, 935, 936, 937, 938, 939, 940, 941, 942, 943, 944, 945, 946, 947, 948, 949, 950, 951, 952, 953, 954, 955, 956] (by decide +kernel) (by decide +kernel)
set_option maxRecDepth 20000 in
theorem gL_law_X10_rests : GoodIn wsL_law (wsV RL 87 RX10 yX10_rests wsX10_rests) := goodIn_app (goodIn_of _ (by decide +kernel)) ggL_law_X10_rests
set_option maxRecDepth 20000 in
theorem ggL_law_X9_cuts : GoodIn wsL_law wsX9_cuts := goodIn_r _ [819, 37, 820, 916, 917, 918, 919, 920, 921, 922, 923, 924, 925, 926, 927, 928, 929, 985, 986] (by decide +kernel) (by decide +kernel)
set_option maxRecDepth 20000 in
theorem gL_law_X9_cuts : GoodIn wsL_law (wsV RL 88 RX9 yX9_cuts wsX9_cuts) := goodIn_app (goodIn_of _ (by decide +kernel)) ggL_law_X9_cuts
set_option maxRecDepth 20000 in
theorem ggL_law_X10_cuts : GoodIn wsL_law wsX10_cuts := goodIn_r _ [824, 284, 267, 268, 285, 305, 306, 5, 307, 825, 826, 827, 828, 272, 269, 930, 931, 932, 933, 934, 935, 936, 937, 938, 939, 940, 941, 942, 943, 944, 945, 946, 947, 948, 949, 950, 951, 952, 953, 954, 955, 956] (by decide +kernel) (by decide +kernel)
set_option maxRecDepth 20000 in
theorem gL_law_X10_cuts : GoodIn wsL_law (wsV RL 91 RX10 yX10_cuts wsX10_cuts) := goodIn_app (goodIn_of _ (by decide +kernel)) ggL_law_X10_cuts
set_option maxRecDepth 20000 in
theorem ggL_law_X9_whose : GoodIn wsL_law wsX9_whose := goodIn_r _ [832, 29, 833, 834, 835, 28, 836, 90, 837, 838, 839, 840, 95, 96, 841, 842, 843, 844, 845, 694, 695, 696, 92, 93, 916, 917, 918, 919, 920, 921, 922, 923, 924, 925, 926, 927, 928, 929, 976, 977, 978, 979, 980, 981, 982, 983] (by decide +kernel) (by decide +kernel)
set_option maxRecDepth 20000 in
theorem gL_law_X9_whose : GoodIn wsL_law (wsV RL 92 RX9 yX9_whose wsX9_whose) := goodIn_app (goodIn_of _ (by decide +kernel)) ggL_law_X9_whose
set_option maxRecDepth 20000 in
theorem ggL_law_X10_whose : GoodIn wsL_law wsX10_whose := goodIn_r _ [849, 267, 268, 269, 305, 306, 5, 307, 547, 548, 549, 550, 272, 586, 587, 588, 589, 270, 930, 931, 932, 933, 934, 935, 936, 937, 938, 939, 940, 941, 942, 943, 944, 945, 946, 947, 948, 949, 950, 951, 952, 953, 954, 955, 956] (by decide +kernel) (by decide +kernel)
set_option maxRecDepth 20000 in
theorem gL_law_X10_whose : GoodIn wsL_law (wsV RL 95 RX10 yX10_whose wsX10_whose) := goodIn_app (goodIn_of _ (by decide +kernel)) ggL_law_X10_whose
set_option maxRecDepth 20000 in
theorem ggL_law_X9_mark : GoodIn wsL_law wsX9_mark := goodIn_r _ [853, 24, 854, 504, 163, 164, 23, 165, 77, 855, 856, 2, 857, 54, 858, 501, 859, 500, 502, 29, 49, 602, 860, 861, 862, 28, 863, 90, 94, 916, 917, 918, 919, 920, 921, 922, 923, 924, 925, 926, 927, 928, 929, 966, 967, 968, 969, 970, 971, 972, 973, 974, 975, 995, 996, 997, 998, 999, 1000, 1001, 976, 977, 978, 979, 980, 981, 982, 983] (by decide +kernel) (by decide +kernel)
