set_option maxRecDepth 20000 in
theorem ggL_law_X9_orchard_r7 : GoodIn wsL_law wsX9_orchard_r7 := goodIn_r _ [440, 79, 80, 81, 82, 83, 441, 442, 443, 444, 445, 446, 447, 448, 162, 163, 164, 165, 449, 450, 451, 452, 453, 454] (by decide +kernel) (by decide +kernel)
set_option maxRecDepth 20000 in
theorem ggL_law_X9_orchard_r8 : GoodIn wsL_law wsX9_orchard_r8 := goodIn_r _ [455, 456, 457, 84, 85, 86, 133, 134, 135, 2, 136, 29, 33, 37, 41, 49, 53, 137, 138, 139, 28, 140, 90, 91] (by decide +kernel) (by decide +kernel)
set_option maxRecDepth 20000 in
theorem ggL_law_X9_orchard_r9 : GoodIn wsL_law wsX9_orchard_r9 := goodIn_r _ [141, 142, 143, 144, 145, 146, 92, 93, 94, 95, 147, 96, 148, 149, 97, 153, 154, 155, 156, 157, 158, 159, 160, 161] (by decide +kernel) (by decide +kernel)
set_option maxRecDepth 20000 in
theorem ggL_law_X9_orchard_r10 : GoodIn wsL_law wsX9_orchard_r10 := goodIn_r _ [166, 167, 168, 32, 169, 101, 170, 171, 172, 173, 174, 175, 176, 177, 178, 179, 180, 181, 184, 185, 186, 36, 187, 105] (by decide +kernel) (by decide +kernel)
set_option maxRecDepth 20000 in
theorem ggL_law_X9_orchard_r11 : GoodIn wsL_law wsX9_orchard_r11 := goodIn_r _ [106, 188, 189, 190, 191, 192, 193, 194, 195, 196, 197, 198, 199, 200, 201, 202, 203, 204, 205, 206, 207, 208, 209, 210] (by decide +kernel) (by decide +kernel)
set_option maxRecDepth 20000 in
theorem ggL_law_X9_orchard_r12 : GoodIn wsL_law wsX9_orchard_r12 := goodIn_r _ [211, 212, 213, 214, 215, 216, 217, 218, 219, 220, 40, 221, 111, 222, 223, 224, 225, 226, 113, 112, 115, 227, 228, 229] (by decide +kernel) (by decide +kernel)
set_option maxRecDepth 20000 in
theorem ggL_law_X9_orchard_r13 : GoodIn wsL_law wsX9_orchard_r13 := goodIn_r _ [230, 231, 114, 232, 233, 234, 235, 236, 237, 238, 239, 240, 241, 242, 243, 244, 245, 246, 247, 248, 249, 250, 251, 252] (by decide +kernel) (by decide +kernel)
