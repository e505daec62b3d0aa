theorem ggL_law_X9_orchard_h : GoodIn wsL_law [Cond.code yX9_orchard cX9_orchard 3 (some .int)] := goodIn_r _ [319] (by decide +kernel) (by decide +kernel)
set_option maxRecDepth 20000 in
theorem ggL_law_X9_orchard_r1 : GoodIn wsL_law wsX9_orchard_r1 := goodIn_r _ [20, 25, 24, 16, 290, 320, 321, 322, 19, 323, 73, 70, 71, 324, 325, 326, 327, 15, 328, 61, 64, 63, 65, 329] (by decide +kernel) (by decide +kernel)
set_option maxRecDepth 20000 in
theorem ggL_law_X9_orchard_r2 : GoodIn wsL_law wsX9_orchard_r2 := goodIn_r _ [182, 151, 183, 330, 331, 332, 333, 60, 334, 335, 336, 337, 338, 339, 340, 341, 342, 343, 344, 345, 346, 347, 348, 349] (by decide +kernel) (by decide +kernel)
set_option maxRecDepth 20000 in
theorem ggL_law_X9_orchard_r3 : GoodIn wsL_law wsX9_orchard_r3 := goodIn_r _ [350, 351, 352, 353, 354, 355, 356, 357, 358, 359, 360, 361, 362, 363, 364, 365, 366, 367, 368, 369, 370, 371, 372, 373] (by decide +kernel) (by decide +kernel)
set_option maxRecDepth 20000 in
theorem ggL_law_X9_orchard_r4 : GoodIn wsL_law wsX9_orchard_r4 := goodIn_r _ [374, 375, 376, 377, 378, 379, 380, 381, 382, 383, 384, 385, 386, 387, 388, 389, 390, 391, 392, 393, 394, 395, 396, 397] (by decide +kernel) (by decide +kernel)
set_option maxRecDepth 20000 in
theorem ggL_law_X9_orchard_r5 : GoodIn wsL_law wsX9_orchard_r5 := goodIn_r _ [398, 399, 400, 401, 402, 403, 404, 405, 406, 407, 23, 408, 77, 78, 409, 410, 411, 412, 413, 150, 152, 414, 415, 72] (by decide +kernel) (by decide +kernel)
set_option maxRecDepth 20000 in
theorem ggL_law_X9_orchard_r6 : GoodIn wsL_law wsX9_orchard_r6 := goodIn_r _ [416, 417, 418, 419, 420, 421, 422, 423, 424, 425, 426, 427, 428, 429, 430, 431, 432, 433, 434, 435, 436, 437, 438, 439] (by decide +kernel) (by decide +kernel)
