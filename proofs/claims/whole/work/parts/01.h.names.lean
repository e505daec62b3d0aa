theorem dX9_clear_9 : decode cX9_clear 9 = .ok (.getfield 12, 3) := by decide +kernel
theorem dX9_clear_12 : decode cX9_clear 12 = .ok (.iconst 0, 1) := by decide +kernel
theorem dX9_clear_13 : decode cX9_clear 13 = .ok (.putfield 107, 3) := by decide +kernel
theorem dX9_clear_16 : decode cX9_clear 16 = .ok (.iload_n 1, 1) := by decide +kernel
theorem dX9_clear_17 : decode cX9_clear 17 = .ok (.ireturn, 1) := by decide +kernel
set_option maxRecDepth 20000 in
theorem ggX9_orchard_X6_readAll : GoodIn wsX9_orchard wsX6_readAll := goodIn_r _ [10, 11, 12, 13, 14, 15, 16, 17, 18, 19, 20, 21, 22, 23, 24, 25, 26, 27, 28, 29, 30, 31, 32, 33, 34, 35, 36, 37, 38, 39, 40, 41, 42, 43, 44, 45, 46, 47, 48, 49, 50, 51, 52, 53, 54, 55, 56, 57, 58, 59, 60, 61, 62, 63, 64, 65, 66, 67, 68, 69, 70, 71, 72, 73, 74, 75, 76, 77, 78, 79, 80, 81, 82, 83, 84, 85, 86, 87, 88, 89, 90, 91, 92, 93, 94, 95, 96, 97, 98, 99, 100, 101, 102, 103, 104, 105, 106, 107, 108, 109, 110, 111, 112, 113, 9, 114, 115, 116, 117, 118, 119, 120, 121, 122, 123, 124, 125, 126, 127, 128, 129, 130, 131, 132, 133, 134, 135, 136, 137, 138, 139, 140, 141, 142, 143, 144, 145, 146, 147, 148, 149, 150, 151, 152, 153, 154, 155, 156, 157, 158, 159, 160, 161, 162, 163, 164, 165, 166, 167, 168, 169, 170, 171, 172, 173, 174, 348, 349, 350, 351, 343, 344, 345, 346, 347, 352, 353, 354, 355, 356, 357, 358, 359, 360, 361] (by decide +kernel) (by decide +kernel)
set_option maxRecDepth 20000 in
theorem gX9_orchard_X6_readAll : GoodIn wsX9_orchard (wsV RX9 110 RX6 yX6_readAll wsX6_readAll) := goodIn_app (goodIn_of _ (by decide +kernel)) ggX9_orchard_X6_readAll
set_option maxRecDepth 20000 in
theorem ggX9_orchard_X9_startAnew : GoodIn wsX9_orchard wsX9_startAnew := goodIn_r _ [179, 180, 3, 181, 182, 183, 184, 185, 186, 187, 188, 189, 190, 191, 192, 193, 194, 195, 196, 197, 198, 199, 200, 201, 202, 203, 204, 205, 206, 116, 26, 117, 207, 208, 209, 210, 211, 107, 212, 147, 213, 214, 215, 216, 146, 150, 159, 160, 161, 162, 109, 217, 218, 219, 220, 221, 222, 223, 224, 225, 226, 227, 228, 229, 230, 231, 232, 233, 234, 25, 27, 235, 236, 237, 238, 239, 240, 241, 242, 243, 244, 245, 246, 247, 248, 249, 250, 251, 252, 253, 254, 255, 256, 257, 258, 259, 260, 261, 262, 263, 264, 265, 266, 267, 268, 269, 270, 271, 272, 273, 274, 275, 276, 277, 278, 279, 280, 281, 282, 283, 284, 285, 286, 287, 288, 289, 290, 291, 292, 293, 294, 295, 296, 297, 298, 299, 300, 301, 178, 302, 303, 304, 305, 306, 307, 308, 309, 310, 311, 312, 313, 314, 315, 316, 317, 318, 319, 320, 321, 322, 323, 324, 325, 326, 327, 328, 329, 330, 331, 332, 333, 334, 335, 336, 337, 338, 339, 340, 341, 342, 362, 363, 364, 365, 366, 367, 368, 369, 352, 353, 354, 355, 356, 357, 358, 359, 360, 361, 370, 371, 372, 373, 374, 375, 376, 377, 378, 379, 380, 381, 382, 383, 384] (by decide +kernel) (by decide +kernel)
set_option maxRecDepth 20000 in
theorem gX9_orchard_X9_startAnew : GoodIn wsX9_orchard (wsV RX9 96 RX9 yX9_startAnew wsX9_startAnew) := goodIn_app (goodIn_of _ (by decide +kernel)) ggX9_orchard_X9_startAnew
theorem dX9_orchard_0 : decode cX9_orchard 0 = .ok (.aload_n 0, 1) := by decide +kernel
theorem dX9_orchard_1 : decode cX9_orchard 1 = .ok (.getfield 21, 3) := by decide +kernel
theorem dX9_orchard_4 : decode cX9_orchard 4 = .ok (.aload_n 0, 1) := by decide +kernel
theorem dX9_orchard_5 : decode cX9_orchard 5 = .ok (.getfield 32, 3) := by decide +kernel
theorem dX9_orchard_8 : decode cX9_orchard 8 = .ok (.invokevirtual 110, 3) := by decide +kernel
theorem dX9_orchard_11 : decode cX9_orchard 11 = .ok (.istore_n 1, 1) := by decide +kernel
theorem dX9_orchard_12 : decode cX9_orchard 12 = .ok (.iload_n 1, 1) := by decide +kernel
theorem dX9_orchard_13 : decode cX9_orchard 13 = .ok (.ifCond .ge 5, 3) := by decide +kernel
theorem dX9_orchard_16 : decode cX9_orchard 16 = .ok (.iload_n 1, 1) := by decide +kernel
theorem dX9_orchard_17 : decode cX9_orchard 17 = .ok (.ireturn, 1) := by decide +kernel
theorem dX9_orchard_18 : decode cX9_orchard 18 = .ok (.aload_n 0, 1) := by decide +kernel
theorem dX9_orchard_19 : decode cX9_orchard 19 = .ok (.getfield 28, 3) := by decide +kernel
theorem dX9_orchard_22 : decode cX9_orchard 22 = .ok (.astore_n 2, 1) := by decide +kernel
theorem dX9_orchard_23 : decode cX9_orchard 23 = .ok (.aload_n 0, 1) := by decide +kernel
theorem dX9_orchard_24 : decode cX9_orchard 24 = .ok (.aload_n 0, 1) := by decide +kernel
theorem dX9_orchard_25 : decode cX9_orchard 25 = .ok (.getfield 32, 3) := by decide +kernel
theorem dX9_orchard_28 : decode cX9_orchard 28 = .ok (.putfield 28, 3) := by decide +kernel
theorem dX9_orchard_31 : decode cX9_orchard 31 = .ok (.aload_n 0, 1) := by decide +kernel
theorem dX9_orchard_32 : decode cX9_orchard 32 = .ok (.aload_n 2, 1) := by decide +kernel
theorem dX9_orchard_33 : decode cX9_orchard 33 = .ok (.putfield 32, 3) := by decide +kernel
theorem dX9_orchard_36 : decode cX9_orchard 36 = .ok (.aload_n 0, 1) := by decide +kernel
theorem dX9_orchard_37 : decode cX9_orchard 37 = .ok (.getfield 12, 3) := by decide +kernel
theorem dX9_orchard_40 : decode cX9_orchard 40 = .ok (.iconst 0, 1) := by decide +kernel
theorem dX9_orchard_41 : decode cX9_orchard 41 = .ok (.putfield 107, 3) := by decide +kernel
theorem dX9_orchard_44 : decode cX9_orchard 44 = .ok (.aload_n 0, 1) := by decide +kernel
theorem dX9_orchard_45 : decode cX9_orchard 45 = .ok (.invokevirtual 96, 3) := by decide +kernel
theorem dX9_orchard_48 : decode cX9_orchard 48 = .ok (.iload_n 1, 1) := by decide +kernel
theorem dX9_orchard_49 : decode cX9_orchard 49 = .ok (.ireturn, 1) := by decide +kernel
set_option maxRecDepth 20000 in
theorem ggX9_half_X3_hasHalf : GoodIn wsX9_half wsX3_hasHalf := goodIn_r _ [12, 13, 28, 29, 30, 31, 32, 33, 34, 35, 36, 37] (by decide +kernel) (by decide +kernel)
set_option maxRecDepth 20000 in
theorem gX9_half_X3_hasHalf : GoodIn wsX9_half (wsV RX9 114 RX3 yX3_hasHalf wsX3_hasHalf) := goodIn_app (goodIn_of _ (by decide +kernel)) ggX9_half_X3_hasHalf
theorem dX9_half_0 : decode cX9_half 0 = .ok (.aload_n 0, 1) := by decide +kernel
theorem dX9_half_1 : decode cX9_half 1 = .ok (.getfield 28, 3) := by decide +kernel
theorem dX9_half_4 : decode cX9_half 4 = .ok (.iload_n 1, 1) := by decide +kernel
theorem dX9_half_5 : decode cX9_half 5 = .ok (.invokevirtual 114, 3) := by decide +kernel
theorem dX9_half_8 : decode cX9_half 8 = .ok (.ifCond .ne 5, 3) := by decide +kernel
theorem dX9_half_11 : decode cX9_half 11 = .ok (.iconst (-1), 1) := by decide +kernel
theorem dX9_half_12 : decode cX9_half 12 = .ok (.ireturn, 1) := by decide +kernel
theorem dX9_half_13 : decode cX9_half 13 = .ok (.iload_n 2, 1) := by decide +kernel
theorem dX9_half_14 : decode cX9_half 14 = .ok (.tableswitch 86 0 4 #[34, 44, 54, 64, 74], 34) := by decide +kernel
theorem dX9_half_48 : decode cX9_half 48 = .ok (.aload_n 0, 1) := by decide +kernel
theorem dX9_half_49 : decode cX9_half 49 = .ok (.getfield 28, 3) := by decide +kernel
theorem dX9_half_52 : decode cX9_half 52 = .ok (.getfield 118, 3) := by decide +kernel
theorem dX9_half_55 : decode cX9_half 55 = .ok (.iload_n 1, 1) := by decide +kernel
theorem dX9_half_56 : decode cX9_half 56 = .ok (.iaload, 1) := by decide +kernel
theorem dX9_half_57 : decode cX9_half 57 = .ok (.ireturn, 1) := by decide +kernel
theorem dX9_half_58 : decode cX9_half 58 = .ok (.aload_n 0, 1) := by decide +kernel
theorem dX9_half_59 : decode cX9_half 59 = .ok (.getfield 28, 3) := by decide +kernel
theorem dX9_half_62 : decode cX9_half 62 = .ok (.getfield 122, 3) := by decide +kernel
theorem dX9_half_65 : decode cX9_half 65 = .ok (.iload_n 1, 1) := by decide +kernel
theorem dX9_half_66 : decode cX9_half 66 = .ok (.iaload, 1) := by decide +kernel
theorem dX9_half_67 : decode cX9_half 67 = .ok (.ireturn, 1) := by decide +kernel
theorem dX9_half_68 : decode cX9_half 68 = .ok (.aload_n 0, 1) := by decide +kernel
theorem dX9_half_69 : decode cX9_half 69 = .ok (.getfield 28, 3) := by decide +kernel
theorem dX9_half_72 : decode cX9_half 72 = .ok (.getfield 125, 3) := by decide +kernel
theorem dX9_half_75 : decode cX9_half 75 = .ok (.iload_n 1, 1) := by decide +kernel
theorem dX9_half_76 : decode cX9_half 76 = .ok (.iaload, 1) := by decide +kernel
theorem dX9_half_77 : decode cX9_half 77 = .ok (.ireturn, 1) := by decide +kernel
theorem dX9_half_78 : decode cX9_half 78 = .ok (.aload_n 0, 1) := by decide +kernel
theorem dX9_half_79 : decode cX9_half 79 = .ok (.getfield 28, 3) := by decide +kernel
theorem dX9_half_82 : decode cX9_half 82 = .ok (.getfield 128, 3) := by decide +kernel
theorem dX9_half_85 : decode cX9_half 85 = .ok (.iload_n 1, 1) := by decide +kernel
theorem dX9_half_86 : decode cX9_half 86 = .ok (.iaload, 1) := by decide +kernel
theorem dX9_half_87 : decode cX9_half 87 = .ok (.ireturn, 1) := by decide +kernel
theorem dX9_half_88 : decode cX9_half 88 = .ok (.aload_n 0, 1) := by decide +kernel
theorem dX9_half_89 : decode cX9_half 89 = .ok (.getfield 73, 3) := by decide +kernel
theorem dX9_half_92 : decode cX9_half 92 = .ok (.getfield 131, 3) := by decide +kernel
theorem dX9_half_95 : decode cX9_half 95 = .ok (.iload_n 1, 1) := by decide +kernel
theorem dX9_half_96 : decode cX9_half 96 = .ok (.ishr, 1) := by decide +kernel
theorem dX9_half_97 : decode cX9_half 97 = .ok (.iconst 1, 1) := by decide +kernel
theorem dX9_half_98 : decode cX9_half 98 = .ok (.iand, 1) := by decide +kernel
theorem dX9_half_99 : decode cX9_half 99 = .ok (.ireturn, 1) := by decide +kernel
theorem dX9_half_100 : decode cX9_half 100 = .ok (.iconst (-1), 1) := by decide +kernel
theorem dX9_half_101 : decode cX9_half 101 = .ok (.ireturn, 1) := by decide +kernel
set_option maxRecDepth 20000 in
theorem ggX9_tree_X3_hasTree : GoodIn wsX9_tree wsX3_hasTree := goodIn_r _ [12, 13, 28, 29, 30, 31, 32, 33, 34, 35, 36, 37] (by decide +kernel) (by decide +kernel)
set_option maxRecDepth 20000 in
theorem gX9_tree_X3_hasTree : GoodIn wsX9_tree (wsV RX9 134 RX3 yX3_hasTree wsX3_hasTree) := goodIn_app (goodIn_of _ (by decide +kernel)) ggX9_tree_X3_hasTree
theorem dX9_tree_0 : decode cX9_tree 0 = .ok (.aload_n 0, 1) := by decide +kernel
theorem dX9_tree_1 : decode cX9_tree 1 = .ok (.getfield 28, 3) := by decide +kernel
theorem dX9_tree_4 : decode cX9_tree 4 = .ok (.iload_n 1, 1) := by decide +kernel
theorem dX9_tree_5 : decode cX9_tree 5 = .ok (.invokevirtual 134, 3) := by decide +kernel
theorem dX9_tree_8 : decode cX9_tree 8 = .ok (.ifCond .ne 5, 3) := by decide +kernel
theorem dX9_tree_11 : decode cX9_tree 11 = .ok (.iconst (-1), 1) := by decide +kernel
theorem dX9_tree_12 : decode cX9_tree 12 = .ok (.ireturn, 1) := by decide +kernel
theorem dX9_tree_13 : decode cX9_tree 13 = .ok (.iload_n 2, 1) := by decide +kernel
theorem dX9_tree_14 : decode cX9_tree 14 = .ok (.tableswitch 86 0 4 #[34, 44, 54, 64, 74], 34) := by decide +kernel
theorem dX9_tree_48 : decode cX9_tree 48 = .ok (.aload_n 0, 1) := by decide +kernel
theorem dX9_tree_49 : decode cX9_tree 49 = .ok (.getfield 28, 3) := by decide +kernel
theorem dX9_tree_52 : decode cX9_tree 52 = .ok (.getfield 137, 3) := by decide +kernel
theorem dX9_tree_55 : decode cX9_tree 55 = .ok (.iload_n 1, 1) := by decide +kernel
theorem dX9_tree_56 : decode cX9_tree 56 = .ok (.iaload, 1) := by decide +kernel
theorem dX9_tree_57 : decode cX9_tree 57 = .ok (.ireturn, 1) := by decide +kernel
theorem dX9_tree_58 : decode cX9_tree 58 = .ok (.aload_n 0, 1) := by decide +kernel
theorem dX9_tree_59 : decode cX9_tree 59 = .ok (.getfield 28, 3) := by decide +kernel
theorem dX9_tree_62 : decode cX9_tree 62 = .ok (.getfield 140, 3) := by decide +kernel
theorem dX9_tree_65 : decode cX9_tree 65 = .ok (.iload_n 1, 1) := by decide +kernel
theorem dX9_tree_66 : decode cX9_tree 66 = .ok (.iaload, 1) := by decide +kernel
theorem dX9_tree_67 : decode cX9_tree 67 = .ok (.ireturn, 1) := by decide +kernel
theorem dX9_tree_68 : decode cX9_tree 68 = .ok (.aload_n 0, 1) := by decide +kernel
theorem dX9_tree_69 : decode cX9_tree 69 = .ok (.getfield 28, 3) := by decide +kernel
theorem dX9_tree_72 : decode cX9_tree 72 = .ok (.getfield 143, 3) := by decide +kernel
theorem dX9_tree_75 : decode cX9_tree 75 = .ok (.iload_n 1, 1) := by decide +kernel
theorem dX9_tree_76 : decode cX9_tree 76 = .ok (.iaload, 1) := by decide +kernel
theorem dX9_tree_77 : decode cX9_tree 77 = .ok (.ireturn, 1) := by decide +kernel
theorem dX9_tree_78 : decode cX9_tree 78 = .ok (.aload_n 0, 1) := by decide +kernel
theorem dX9_tree_79 : decode cX9_tree 79 = .ok (.getfield 73, 3) := by decide +kernel
theorem dX9_tree_82 : decode cX9_tree 82 = .ok (.getfield 146, 3) := by decide +kernel
theorem dX9_tree_85 : decode cX9_tree 85 = .ok (.iload_n 1, 1) := by decide +kernel
theorem dX9_tree_86 : decode cX9_tree 86 = .ok (.iaload, 1) := by decide +kernel
theorem dX9_tree_87 : decode cX9_tree 87 = .ok (.ireturn, 1) := by decide +kernel
theorem dX9_tree_88 : decode cX9_tree 88 = .ok (.aload_n 0, 1) := by decide +kernel
theorem dX9_tree_89 : decode cX9_tree 89 = .ok (.getfield 73, 3) := by decide +kernel
theorem dX9_tree_92 : decode cX9_tree 92 = .ok (.getfield 149, 3) := by decide +kernel
theorem dX9_tree_95 : decode cX9_tree 95 = .ok (.iload_n 1, 1) := by decide +kernel
theorem dX9_tree_96 : decode cX9_tree 96 = .ok (.ishr, 1) := by decide +kernel
theorem dX9_tree_97 : decode cX9_tree 97 = .ok (.iconst 1, 1) := by decide +kernel
theorem dX9_tree_98 : decode cX9_tree 98 = .ok (.iand, 1) := by decide +kernel
theorem dX9_tree_99 : decode cX9_tree 99 = .ok (.ireturn, 1) := by decide +kernel
theorem dX9_tree_100 : decode cX9_tree 100 = .ok (.iconst (-1), 1) := by decide +kernel
theorem dX9_tree_101 : decode cX9_tree 101 = .ok (.ireturn, 1) := by decide +kernel
set_option maxRecDepth 20000 in
theorem ggX9_fit_X9_areTwo : GoodIn wsX9_fit wsX9_areTwo := goodIn_r _ [6, 1, 7, 8, 9, 10, 11, 12, 25, 26, 27, 28, 29, 30, 31, 32, 33, 34, 35, 36, 37, 38, 39, 40, 41, 42, 43, 44, 45, 46, 47, 48] (by decide +kernel) (by decide +kernel)
set_option maxRecDepth 20000 in
theorem gX9_fit_X9_areTwo : GoodIn wsX9_fit (wsV RX9 152 RX9 yX9_areTwo wsX9_areTwo) := goodIn_app (goodIn_of _ (by decide +kernel)) ggX9_fit_X9_areTwo
set_option maxRecDepth 20000 in
theorem ggX9_fit_X3_fits : GoodIn wsX9_fit wsX3_fits := goodIn_r _ [16, 17, 18, 19, 20, 10, 21, 22, 23, 24, 8, 9, 11, 12, 39, 40, 41, 42, 43, 44, 45, 46, 47, 48] (by decide +kernel) (by decide +kernel)
set_option maxRecDepth 20000 in
theorem gX9_fit_X3_fits : GoodIn wsX9_fit (wsV RX9 156 RX3 yX3_fits wsX3_fits) := goodIn_app (goodIn_of _ (by decide +kernel)) ggX9_fit_X3_fits
theorem dX9_fit_0 : decode cX9_fit 0 = .ok (.aload_n 0, 1) := by decide +kernel
theorem dX9_fit_1 : decode cX9_fit 1 = .ok (.iload_n 1, 1) := by decide +kernel
theorem dX9_fit_2 : decode cX9_fit 2 = .ok (.iload_n 2, 1) := by decide +kernel
theorem dX9_fit_3 : decode cX9_fit 3 = .ok (.invokevirtual 152, 3) := by decide +kernel
theorem dX9_fit_6 : decode cX9_fit 6 = .ok (.ifCond .ne 5, 3) := by decide +kernel
theorem dX9_fit_9 : decode cX9_fit 9 = .ok (.iconst (-1), 1) := by decide +kernel
theorem dX9_fit_10 : decode cX9_fit 10 = .ok (.ireturn, 1) := by decide +kernel
theorem dX9_fit_11 : decode cX9_fit 11 = .ok (.aload_n 0, 1) := by decide +kernel
theorem dX9_fit_12 : decode cX9_fit 12 = .ok (.getfield 28, 3) := by decide +kernel
theorem dX9_fit_15 : decode cX9_fit 15 = .ok (.iload_n 1, 1) := by decide +kernel
theorem dX9_fit_16 : decode cX9_fit 16 = .ok (.iload_n 2, 1) := by decide +kernel
theorem dX9_fit_17 : decode cX9_fit 17 = .ok (.invokevirtual 156, 3) := by decide +kernel
theorem dX9_fit_20 : decode cX9_fit 20 = .ok (.ifCond .eq 7, 3) := by decide +kernel
theorem dX9_fit_23 : decode cX9_fit 23 = .ok (.iconst 1, 1) := by decide +kernel
theorem dX9_fit_24 : decode cX9_fit 24 = .ok (.goto 4, 3) := by decide +kernel
theorem dX9_fit_27 : decode cX9_fit 27 = .ok (.iconst 0, 1) := by decide +kernel
theorem dX9_fit_28 : decode cX9_fit 28 = .ok (.ireturn, 1) := by decide +kernel
set_option maxRecDepth 20000 in
theorem ggX9_climb_X9_areTwo : GoodIn wsX9_climb wsX9_areTwo := goodIn_r _ [9, 1, 10, 11, 12, 13, 14, 15, 56, 57, 58, 59, 60, 61, 62, 63, 64, 65, 66, 67, 68, 69, 78, 79, 80, 81, 82, 83, 84, 85, 86, 87] (by decide +kernel) (by decide +kernel)
set_option maxRecDepth 20000 in
theorem gX9_climb_X9_areTwo : GoodIn wsX9_climb (wsV RX9 152 RX9 yX9_areTwo wsX9_areTwo) := goodIn_app (goodIn_of _ (by decide +kernel)) ggX9_climb_X9_areTwo
set_option maxRecDepth 20000 in
theorem ggX9_climb_X3_hasTree : GoodIn wsX9_climb wsX3_hasTree := goodIn_r _ [19, 20, 78, 79, 80, 81, 82, 83, 84, 85, 86, 87] (by decide +kernel) (by decide +kernel)
set_option maxRecDepth 20000 in
theorem gX9_climb_X3_hasTree : GoodIn wsX9_climb (wsV RX9 134 RX3 yX3_hasTree wsX3_hasTree) := goodIn_app (goodIn_of _ (by decide +kernel)) ggX9_climb_X3_hasTree
set_option maxRecDepth 20000 in
theorem ggX9_climb_X4_indexOf : GoodIn wsX9_climb wsX4_indexOf := goodIn_r _ [25, 26, 27, 70, 71, 72, 73, 74, 75, 76, 77] (by decide +kernel) (by decide +kernel)
set_option maxRecDepth 20000 in
theorem gX9_climb_X4_indexOf : GoodIn wsX9_climb (wsV RX9 159 RX4 yX4_indexOf wsX4_indexOf) := goodIn_app (goodIn_of _ (by decide +kernel)) ggX9_climb_X4_indexOf
set_option maxRecDepth 20000 in
theorem ggX9_climb_X2_pickable : GoodIn wsX9_climb wsX2_pickable := goodIn_r _ [32, 33, 34, 35, 36, 37, 38, 39, 40, 41, 42, 43, 44, 45, 46, 47, 13, 48, 49, 50, 17, 18, 19, 20, 88, 89, 90, 91, 92, 93, 94, 70, 71, 72, 73, 74, 75, 76, 77, 78, 79, 80, 81, 82, 83, 84, 85, 86, 87] (by decide +kernel) (by decide +kernel)
set_option maxRecDepth 20000 in
theorem gX9_climb_X2_pickable : GoodIn wsX9_climb (wsV RX9 163 RX2 yX2_pickable wsX2_pickable) := goodIn_app (goodIn_of _ (by decide +kernel)) ggX9_climb_X2_pickable
set_option maxRecDepth 20000 in
theorem ggX9_climb_X2_pick : GoodIn wsX9_climb wsX2_pick := goodIn_r _ [54, 35, 34, 40, 55, 88, 89, 90, 91, 92, 93, 94] (by decide +kernel) (by decide +kernel)
set_option maxRecDepth 20000 in
theorem gX9_climb_X2_pick : GoodIn wsX9_climb (wsV RX9 170 RX2 yX2_pick wsX2_pick) := goodIn_app (goodIn_of _ (by decide +kernel)) ggX9_climb_X2_pick
theorem dX9_climb_0 : decode cX9_climb 0 = .ok (.aload_n 0, 1) := by decide +kernel
theorem dX9_climb_1 : decode cX9_climb 1 = .ok (.iload_n 1, 1) := by decide +kernel
theorem dX9_climb_2 : decode cX9_climb 2 = .ok (.iload_n 2, 1) := by decide +kernel
theorem dX9_climb_3 : decode cX9_climb 3 = .ok (.invokevirtual 152, 3) := by decide +kernel
theorem dX9_climb_6 : decode cX9_climb 6 = .ok (.ifCond .eq 14, 3) := by decide +kernel
theorem dX9_climb_9 : decode cX9_climb 9 = .ok (.aload_n 0, 1) := by decide +kernel
theorem dX9_climb_10 : decode cX9_climb 10 = .ok (.getfield 28, 3) := by decide +kernel
theorem dX9_climb_13 : decode cX9_climb 13 = .ok (.iload_n 3, 1) := by decide +kernel
theorem dX9_climb_14 : decode cX9_climb 14 = .ok (.invokevirtual 134, 3) := by decide +kernel
theorem dX9_climb_17 : decode cX9_climb 17 = .ok (.ifCond .ne 5, 3) := by decide +kernel
theorem dX9_climb_20 : decode cX9_climb 20 = .ok (.iconst (-1), 1) := by decide +kernel
theorem dX9_climb_21 : decode cX9_climb 21 = .ok (.ireturn, 1) := by decide +kernel
theorem dX9_climb_22 : decode cX9_climb 22 = .ok (.aload_n 0, 1) := by decide +kernel
theorem dX9_climb_23 : decode cX9_climb 23 = .ok (.getfield 38, 3) := by decide +kernel
theorem dX9_climb_26 : decode cX9_climb 26 = .ok (.iconst 1, 1) := by decide +kernel
theorem dX9_climb_27 : decode cX9_climb 27 = .ok (.iload_n 1, 1) := by decide +kernel
theorem dX9_climb_28 : decode cX9_climb 28 = .ok (.ishl, 1) := by decide +kernel
theorem dX9_climb_29 : decode cX9_climb 29 = .ok (.iconst 1, 1) := by decide +kernel
theorem dX9_climb_30 : decode cX9_climb 30 = .ok (.iload_n 2, 1) := by decide +kernel
theorem dX9_climb_31 : decode cX9_climb 31 = .ok (.ishl, 1) := by decide +kernel
theorem dX9_climb_32 : decode cX9_climb 32 = .ok (.ior, 1) := by decide +kernel
theorem dX9_climb_33 : decode cX9_climb 33 = .ok (.invokevirtual 159, 3) := by decide +kernel
theorem dX9_climb_36 : decode cX9_climb 36 = .ok (.istore 4, 2) := by decide +kernel
theorem dX9_climb_38 : decode cX9_climb 38 = .ok (.iload 4, 2) := by decide +kernel
theorem dX9_climb_40 : decode cX9_climb 40 = .ok (.ifCond .ge 6, 3) := by decide +kernel
theorem dX9_climb_43 : decode cX9_climb 43 = .ok (.bipush (-2), 2) := by decide +kernel
theorem dX9_climb_45 : decode cX9_climb 45 = .ok (.ireturn, 1) := by decide +kernel
theorem dX9_climb_46 : decode cX9_climb 46 = .ok (.aload_n 0, 1) := by decide +kernel
theorem dX9_climb_47 : decode cX9_climb 47 = .ok (.getfield 73, 3) := by decide +kernel
theorem dX9_climb_50 : decode cX9_climb 50 = .ok (.aload_n 0, 1) := by decide +kernel
theorem dX9_climb_51 : decode cX9_climb 51 = .ok (.getfield 28, 3) := by decide +kernel
theorem dX9_climb_54 : decode cX9_climb 54 = .ok (.aload_n 0, 1) := by decide +kernel
theorem dX9_climb_55 : decode cX9_climb 55 = .ok (.getfield 38, 3) := by decide +kernel
theorem dX9_climb_58 : decode cX9_climb 58 = .ok (.iload 4, 2) := by decide +kernel
theorem dX9_climb_60 : decode cX9_climb 60 = .ok (.iload_n 3, 1) := by decide +kernel
theorem dX9_climb_61 : decode cX9_climb 61 = .ok (.invokevirtual 163, 3) := by decide +kernel
theorem dX9_climb_64 : decode cX9_climb 64 = .ok (.istore 5, 2) := by decide +kernel
theorem dX9_climb_66 : decode cX9_climb 66 = .ok (.iload 5, 2) := by decide +kernel
theorem dX9_climb_68 : decode cX9_climb 68 = .ok (.ifCond .ne 6, 3) := by decide +kernel
theorem dX9_climb_71 : decode cX9_climb 71 = .ok (.bipush (-2), 2) := by decide +kernel
theorem dX9_climb_73 : decode cX9_climb 73 = .ok (.ireturn, 1) := by decide +kernel
theorem dX9_climb_74 : decode cX9_climb 74 = .ok (.aload_n 0, 1) := by decide +kernel
theorem dX9_climb_75 : decode cX9_climb 75 = .ok (.getfield 73, 3) := by decide +kernel
theorem dX9_climb_78 : decode cX9_climb 78 = .ok (.aload_n 0, 1) := by decide +kernel
theorem dX9_climb_79 : decode cX9_climb 79 = .ok (.getfield 38, 3) := by decide +kernel
theorem dX9_climb_82 : decode cX9_climb 82 = .ok (.getfield 167, 3) := by decide +kernel
theorem dX9_climb_85 : decode cX9_climb 85 = .ok (.iload 4, 2) := by decide +kernel
theorem dX9_climb_87 : decode cX9_climb 87 = .ok (.iaload, 1) := by decide +kernel
theorem dX9_climb_88 : decode cX9_climb 88 = .ok (.iload_n 3, 1) := by decide +kernel
theorem dX9_climb_89 : decode cX9_climb 89 = .ok (.iload 5, 2) := by decide +kernel
theorem dX9_climb_91 : decode cX9_climb 91 = .ok (.invokevirtual 170, 3) := by decide +kernel
theorem dX9_climb_94 : decode cX9_climb 94 = .ok (.iload 5, 2) := by decide +kernel
theorem dX9_climb_96 : decode cX9_climb 96 = .ok (.ireturn, 1) := by decide +kernel
set_option maxRecDepth 20000 in
theorem ggX9_ends_X2_endDay : GoodIn wsX9_ends wsX2_endDay := goodIn_r _ [8, 9, 10, 11, 12, 13, 14, 15, 30, 31, 32, 33, 34, 35, 36, 37, 38, 39, 40, 41, 42, 43, 44, 45, 46] (by decide +kernel) (by decide +kernel)
set_option maxRecDepth 20000 in
theorem gX9_ends_X2_endDay : GoodIn wsX9_ends (wsV RX9 177 RX2 yX2_endDay wsX2_endDay) := goodIn_app (goodIn_of _ (by decide +kernel)) ggX9_ends_X2_endDay
theorem dX9_ends_0 : decode cX9_ends 0 = .ok (.aload_n 0, 1) := by decide +kernel
theorem dX9_ends_1 : decode cX9_ends 1 = .ok (.getfield 73, 3) := by decide +kernel
theorem dX9_ends_4 : decode cX9_ends 4 = .ok (.getfield 174, 3) := by decide +kernel
theorem dX9_ends_7 : decode cX9_ends 7 = .ok (.bipush 30, 2) := by decide +kernel
theorem dX9_ends_9 : decode cX9_ends 9 = .ok (.if_icmp .lt 6, 3) := by decide +kernel
theorem dX9_ends_12 : decode cX9_ends 12 = .ok (.bipush (-2), 2) := by decide +kernel
theorem dX9_ends_14 : decode cX9_ends 14 = .ok (.ireturn, 1) := by decide +kernel
theorem dX9_ends_15 : decode cX9_ends 15 = .ok (.aload_n 0, 1) := by decide +kernel
theorem dX9_ends_16 : decode cX9_ends 16 = .ok (.getfield 73, 3) := by decide +kernel
theorem dX9_ends_19 : decode cX9_ends 19 = .ok (.aload_n 0, 1) := by decide +kernel
theorem dX9_ends_20 : decode cX9_ends 20 = .ok (.getfield 28, 3) := by decide +kernel
theorem dX9_ends_23 : decode cX9_ends 23 = .ok (.invokevirtual 177, 3) := by decide +kernel
theorem dX9_ends_26 : decode cX9_ends 26 = .ok (.ireturn, 1) := by decide +kernel
set_option maxRecDepth 20000 in
theorem ggX9_now_X2_leftOnAll : GoodIn wsX9_now wsX2_leftOnAll := goodIn_r _ [11, 12, 13, 35, 36, 37, 38, 39, 40, 41, 42, 43, 44, 28, 29, 30, 31, 32, 33, 34] (by decide +kernel) (by decide +kernel)
set_option maxRecDepth 20000 in
theorem gX9_now_X2_leftOnAll : GoodIn wsX9_now (wsV RX9 186 RX2 yX2_leftOnAll wsX2_leftOnAll) := goodIn_app (goodIn_of _ (by decide +kernel)) ggX9_now_X2_leftOnAll
theorem dX9_now_0 : decode cX9_now 0 = .ok (.iload_n 1, 1) := by decide +kernel
theorem dX9_now_1 : decode cX9_now 1 = .ok (.tableswitch 79 0 4 #[35, 43, 51, 59, 71], 35) := by decide +kernel
theorem dX9_now_36 : decode cX9_now 36 = .ok (.aload_n 0, 1) := by decide +kernel
theorem dX9_now_37 : decode cX9_now 37 = .ok (.getfield 73, 3) := by decide +kernel
theorem dX9_now_40 : decode cX9_now 40 = .ok (.getfield 174, 3) := by decide +kernel
theorem dX9_now_43 : decode cX9_now 43 = .ok (.ireturn, 1) := by decide +kernel
theorem dX9_now_44 : decode cX9_now 44 = .ok (.aload_n 0, 1) := by decide +kernel
theorem dX9_now_45 : decode cX9_now 45 = .ok (.getfield 73, 3) := by decide +kernel
theorem dX9_now_48 : decode cX9_now 48 = .ok (.getfield 180, 3) := by decide +kernel
theorem dX9_now_51 : decode cX9_now 51 = .ok (.ireturn, 1) := by decide +kernel
theorem dX9_now_52 : decode cX9_now 52 = .ok (.aload_n 0, 1) := by decide +kernel
theorem dX9_now_53 : decode cX9_now 53 = .ok (.getfield 73, 3) := by decide +kernel
theorem dX9_now_56 : decode cX9_now 56 = .ok (.getfield 183, 3) := by decide +kernel
theorem dX9_now_59 : decode cX9_now 59 = .ok (.ireturn, 1) := by decide +kernel
theorem dX9_now_60 : decode cX9_now 60 = .ok (.aload_n 0, 1) := by decide +kernel
theorem dX9_now_61 : decode cX9_now 61 = .ok (.getfield 73, 3) := by decide +kernel
theorem dX9_now_64 : decode cX9_now 64 = .ok (.aload_n 0, 1) := by decide +kernel
theorem dX9_now_65 : decode cX9_now 65 = .ok (.getfield 28, 3) := by decide +kernel
theorem dX9_now_68 : decode cX9_now 68 = .ok (.invokevirtual 186, 3) := by decide +kernel
theorem dX9_now_71 : decode cX9_now 71 = .ok (.ireturn, 1) := by decide +kernel
theorem dX9_now_72 : decode cX9_now 72 = .ok (.aload_n 0, 1) := by decide +kernel
theorem dX9_now_73 : decode cX9_now 73 = .ok (.getfield 73, 3) := by decide +kernel
theorem dX9_now_76 : decode cX9_now 76 = .ok (.getfield 131, 3) := by decide +kernel
theorem dX9_now_79 : decode cX9_now 79 = .ok (.ireturn, 1) := by decide +kernel
theorem dX9_now_80 : decode cX9_now 80 = .ok (.iconst (-1), 1) := by decide +kernel
theorem dX9_now_81 : decode cX9_now 81 = .ok (.ireturn, 1) := by decide +kernel
set_option maxRecDepth 20000 in
theorem ggX9_year_X2_begin : GoodIn wsX9_year wsX2_begin := goodIn_r _ [7, 8, 9, 10, 11, 12, 40, 41, 42, 43, 44, 45, 46] (by decide +kernel) (by decide +kernel)
set_option maxRecDepth 20000 in
theorem gX9_year_X2_begin : GoodIn wsX9_year (wsV RX9 189 RX2 yX2_begin wsX2_begin) := goodIn_app (goodIn_of _ (by decide +kernel)) ggX9_year_X2_begin
set_option maxRecDepth 20000 in
theorem ggX9_year_X2_blossom : GoodIn wsX9_year wsX2_blossom := goodIn_r _ [16, 17, 18, 19, 20, 21, 47, 48, 49, 50, 51, 52, 53, 54, 55, 56, 40, 41, 42, 43, 44, 45, 46] (by decide +kernel) (by decide +kernel)
set_option maxRecDepth 20000 in
theorem gX9_year_X2_blossom : GoodIn wsX9_year (wsV RX9 192 RX2 yX2_blossom wsX2_blossom) := goodIn_app (goodIn_of _ (by decide +kernel)) ggX9_year_X2_blossom
set_option maxRecDepth 20000 in
theorem ggX9_year_X2_leftOnAll : GoodIn wsX9_year wsX2_leftOnAll := goodIn_r _ [25, 17, 20, 47, 48, 49, 50, 51, 52, 53, 54, 55, 56, 40, 41, 42, 43, 44, 45, 46] (by decide +kernel) (by decide +kernel)
set_option maxRecDepth 20000 in
theorem gX9_year_X2_leftOnAll : GoodIn wsX9_year (wsV RX9 186 RX2 yX2_leftOnAll wsX2_leftOnAll) := goodIn_app (goodIn_of _ (by decide +kernel)) ggX9_year_X2_leftOnAll
theorem dX9_year_0 : decode cX9_year 0 = .ok (.aload_n 0, 1) := by decide +kernel
theorem dX9_year_1 : decode cX9_year 1 = .ok (.getfield 73, 3) := by decide +kernel
theorem dX9_year_4 : decode cX9_year 4 = .ok (.invokevirtual 189, 3) := by decide +kernel
theorem dX9_year_7 : decode cX9_year 7 = .ok (.aload_n 0, 1) := by decide +kernel
theorem dX9_year_8 : decode cX9_year 8 = .ok (.getfield 73, 3) := by decide +kernel
theorem dX9_year_11 : decode cX9_year 11 = .ok (.aload_n 0, 1) := by decide +kernel
theorem dX9_year_12 : decode cX9_year 12 = .ok (.getfield 28, 3) := by decide +kernel
theorem dX9_year_15 : decode cX9_year 15 = .ok (.invokevirtual 192, 3) := by decide +kernel
theorem dX9_year_18 : decode cX9_year 18 = .ok (.aload_n 0, 1) := by decide +kernel
theorem dX9_year_19 : decode cX9_year 19 = .ok (.getfield 73, 3) := by decide +kernel
theorem dX9_year_22 : decode cX9_year 22 = .ok (.aload_n 0, 1) := by decide +kernel
theorem dX9_year_23 : decode cX9_year 23 = .ok (.getfield 28, 3) := by decide +kernel
theorem dX9_year_26 : decode cX9_year 26 = .ok (.invokevirtual 186, 3) := by decide +kernel
theorem dX9_year_29 : decode cX9_year 29 = .ok (.ireturn, 1) := by decide +kernel
theorem dX9_lot_0 : decode cX9_lot 0 = .ok (.aload_n 0, 1) := by decide +kernel
theorem dX9_lot_1 : decode cX9_lot 1 = .ok (.getfield 73, 3) := by decide +kernel
theorem dX9_lot_4 : decode cX9_lot 4 = .ok (.getfield 92, 3) := by decide +kernel
theorem dX9_lot_7 : decode cX9_lot 7 = .ok (.istore_n 2, 1) := by decide +kernel
theorem dX9_lot_8 : decode cX9_lot 8 = .ok (.aload_n 0, 1) := by decide +kernel
theorem dX9_lot_9 : decode cX9_lot 9 = .ok (.getfield 73, 3) := by decide +kernel
theorem dX9_lot_12 : decode cX9_lot 12 = .ok (.iload_n 1, 1) := by decide +kernel
theorem dX9_lot_13 : decode cX9_lot 13 = .ok (.putfield 92, 3) := by decide +kernel
theorem dX9_lot_16 : decode cX9_lot 16 = .ok (.iload_n 2, 1) := by decide +kernel
theorem dX9_lot_17 : decode cX9_lot 17 = .ok (.ireturn, 1) := by decide +kernel
set_option maxRecDepth 20000 in
theorem ggX9_best_X3_hasTree : GoodIn wsX9_best wsX3_hasTree := goodIn_r _ [10, 11, 114, 115, 116, 117, 118, 119, 120, 121, 122, 123] (by decide +kernel) (by decide +kernel)
set_option maxRecDepth 20000 in
theorem gX9_best_X3_hasTree : GoodIn wsX9_best (wsV RX9 134 RX3 yX3_hasTree wsX3_hasTree) := goodIn_app (goodIn_of _ (by decide +kernel)) ggX9_best_X3_hasTree
set_option maxRecDepth 20000 in
theorem ggX9_best_X5_make : GoodIn wsX9_best wsX5_make := goodIn_r _ [16, 17, 18, 19, 20, 21, 22, 23, 24, 25, 26, 27, 28, 29, 30, 31, 32, 33, 34, 35, 36, 37, 38, 39, 40, 41, 42, 43, 44, 9, 45, 46, 47, 7, 8, 10, 11, 48, 49, 50, 51, 52, 53, 54, 15, 55, 56, 57, 58, 59, 60, 61, 62, 63, 64, 65, 66, 67, 68, 69, 70, 71, 72, 73, 74, 75, 76, 77, 78, 79, 80, 81, 82, 83, 84, 85, 86, 87, 88, 111, 112, 113, 114, 115, 116, 117, 118, 119, 120, 121, 122, 123, 124, 125, 126, 127, 128, 129, 130, 131, 132, 133, 134, 135, 136, 137, 138] (by decide +kernel) (by decide +kernel)
set_option maxRecDepth 20000 in
theorem gX9_best_X5_make : GoodIn wsX9_best (wsV RX9 196 RX5 yX5_make wsX5_make) := goodIn_app (goodIn_of _ (by decide +kernel)) ggX9_best_X5_make
set_option maxRecDepth 20000 in
theorem ggX9_best_X4_numberOf : GoodIn wsX9_best wsX4_numberOf := goodIn_r _ [93, 94, 95, 96, 124, 125, 126, 127, 128, 129, 130, 131] (by decide +kernel) (by decide +kernel)
set_option maxRecDepth 20000 in
theorem gX9_best_X4_numberOf : GoodIn wsX9_best (wsV RX9 203 RX4 yX4_numberOf wsX4_numberOf) := goodIn_app (goodIn_of _ (by decide +kernel)) ggX9_best_X4_numberOf
theorem dX9_best_0 : decode cX9_best 0 = .ok (.iload_n 1, 1) := by decide +kernel
theorem dX9_best_1 : decode cX9_best 1 = .ok (.iconst (-1), 1) := by decide +kernel
theorem dX9_best_2 : decode cX9_best 2 = .ok (.if_icmp .eq 16, 3) := by decide +kernel
theorem dX9_best_5 : decode cX9_best 5 = .ok (.aload_n 0, 1) := by decide +kernel
theorem dX9_best_6 : decode cX9_best 6 = .ok (.getfield 28, 3) := by decide +kernel
theorem dX9_best_9 : decode cX9_best 9 = .ok (.iload_n 1, 1) := by decide +kernel
theorem dX9_best_10 : decode cX9_best 10 = .ok (.invokevirtual 134, 3) := by decide +kernel
theorem dX9_best_13 : decode cX9_best 13 = .ok (.ifCond .ne 5, 3) := by decide +kernel
theorem dX9_best_16 : decode cX9_best 16 = .ok (.iconst (-1), 1) := by decide +kernel
theorem dX9_best_17 : decode cX9_best 17 = .ok (.ireturn, 1) := by decide +kernel
theorem dX9_best_18 : decode cX9_best 18 = .ok (.aload_n 0, 1) := by decide +kernel
theorem dX9_best_19 : decode cX9_best 19 = .ok (.getfield 66, 3) := by decide +kernel
theorem dX9_best_22 : decode cX9_best 22 = .ok (.aload_n 0, 1) := by decide +kernel
theorem dX9_best_23 : decode cX9_best 23 = .ok (.getfield 28, 3) := by decide +kernel
theorem dX9_best_26 : decode cX9_best 26 = .ok (.aload_n 0, 1) := by decide +kernel
theorem dX9_best_27 : decode cX9_best 27 = .ok (.getfield 38, 3) := by decide +kernel
theorem dX9_best_30 : decode cX9_best 30 = .ok (.aload_n 0, 1) := by decide +kernel
theorem dX9_best_31 : decode cX9_best 31 = .ok (.getfield 73, 3) := by decide +kernel
theorem dX9_best_34 : decode cX9_best 34 = .ok (.invokevirtual 196, 3) := by decide +kernel
theorem dX9_best_37 : decode cX9_best 37 = .ok (.istore_n 2, 1) := by decide +kernel
theorem dX9_best_38 : decode cX9_best 38 = .ok (.iload_n 1, 1) := by decide +kernel
theorem dX9_best_39 : decode cX9_best 39 = .ok (.iconst (-1), 1) := by decide +kernel
theorem dX9_best_40 : decode cX9_best 40 = .ok (.if_icmp .ne 5, 3) := by decide +kernel
theorem dX9_best_43 : decode cX9_best 43 = .ok (.iload_n 2, 1) := by decide +kernel
theorem dX9_best_44 : decode cX9_best 44 = .ok (.ireturn, 1) := by decide +kernel
theorem dX9_best_45 : decode cX9_best 45 = .ok (.aload_n 0, 1) := by decide +kernel
theorem dX9_best_46 : decode cX9_best 46 = .ok (.getfield 66, 3) := by decide +kernel
theorem dX9_best_49 : decode cX9_best 49 = .ok (.getfield 200, 3) := by decide +kernel
theorem dX9_best_52 : decode cX9_best 52 = .ok (.iload_n 1, 1) := by decide +kernel
theorem dX9_best_53 : decode cX9_best 53 = .ok (.iaload, 1) := by decide +kernel
theorem dX9_best_54 : decode cX9_best 54 = .ok (.istore_n 3, 1) := by decide +kernel
theorem dX9_best_55 : decode cX9_best 55 = .ok (.iload_n 3, 1) := by decide +kernel
theorem dX9_best_56 : decode cX9_best 56 = .ok (.iconst (-1), 1) := by decide +kernel
theorem dX9_best_57 : decode cX9_best 57 = .ok (.if_icmp .ne 8, 3) := by decide +kernel
theorem dX9_best_60 : decode cX9_best 60 = .ok (.bipush (-9), 2) := by decide +kernel
theorem dX9_best_62 : decode cX9_best 62 = .ok (.goto 11, 3) := by decide +kernel
theorem dX9_best_65 : decode cX9_best 65 = .ok (.aload_n 0, 1) := by decide +kernel
theorem dX9_best_66 : decode cX9_best 66 = .ok (.getfield 38, 3) := by decide +kernel
theorem dX9_best_69 : decode cX9_best 69 = .ok (.iload_n 3, 1) := by decide +kernel
theorem dX9_best_70 : decode cX9_best 70 = .ok (.invokevirtual 203, 3) := by decide +kernel
theorem dX9_best_73 : decode cX9_best 73 = .ok (.ireturn, 1) := by decide +kernel
set_option maxRecDepth 20000 in
theorem ggX9_season_X2_become : GoodIn wsX9_season wsX2_become := goodIn_r _ [11, 12, 13, 14, 15, 16, 17, 18, 124, 125, 126, 127, 128, 129, 130] (by decide +kernel) (by decide +kernel)
set_option maxRecDepth 20000 in
theorem gX9_season_X2_become : GoodIn wsX9_season (wsV RX9 206 RX2 yX2_become wsX2_become) := goodIn_app (goodIn_of _ (by decide +kernel)) ggX9_season_X2_become
set_option maxRecDepth 20000 in
theorem ggX9_season_X5_make : GoodIn wsX9_season wsX5_make := goodIn_r _ [23, 24, 25, 26, 27, 28, 29, 30, 31, 32, 33, 34, 10, 35, 12, 14, 13, 36, 37, 38, 39, 18, 40, 41, 42, 43, 44, 45, 46, 47, 48, 49, 50, 51, 52, 53, 54, 55, 56, 57, 58, 59, 60, 61, 22, 62, 63, 64, 65, 66, 67, 68, 69, 70, 71, 72, 73, 74, 75, 76, 77, 78, 79, 80, 81, 82, 83, 84, 85, 86, 87, 88, 89, 90, 91, 92, 93, 94, 95, 131, 132, 133, 134, 135, 136, 137, 138, 139, 140, 141, 142, 143, 144, 145, 146, 147, 148, 149, 150, 151, 124, 125, 126, 127, 128, 129, 130] (by decide +kernel) (by decide +kernel)
set_option maxRecDepth 20000 in
theorem gX9_season_X5_make : GoodIn wsX9_season (wsV RX9 196 RX5 yX5_make wsX5_make) := goodIn_app (goodIn_of _ (by decide +kernel)) ggX9_season_X5_make
set_option maxRecDepth 20000 in
theorem ggX9_season_X5_carryOut : GoodIn wsX9_season wsX5_carryOut := goodIn_r _ [99, 25, 91, 82, 27, 100, 101, 102, 10, 103, 13, 14, 18, 15, 134, 135, 136, 137, 138, 139, 140, 141, 142, 143, 131, 132, 133, 144, 145, 146, 147, 148, 149, 150, 151, 124, 125, 126, 127, 128, 129, 130] (by decide +kernel) (by decide +kernel)
set_option maxRecDepth 20000 in
theorem gX9_season_X5_carryOut : GoodIn wsX9_season (wsV RX9 210 RX5 yX5_carryOut wsX5_carryOut) := goodIn_app (goodIn_of _ (by decide +kernel)) ggX9_season_X5_carryOut
set_option maxRecDepth 20000 in
theorem ggX9_season_X2_endDay : GoodIn wsX9_season wsX2_endDay := goodIn_r _ [107, 12, 13, 14, 108, 109, 18, 16, 124, 125, 126, 127, 128, 129, 130, 134, 135, 136, 137, 138, 139, 140, 141, 142, 143] (by decide +kernel) (by decide +kernel)
set_option maxRecDepth 20000 in
theorem gX9_season_X2_endDay : GoodIn wsX9_season (wsV RX9 177 RX2 yX2_endDay wsX2_endDay) := goodIn_app (goodIn_of _ (by decide +kernel)) ggX9_season_X2_endDay
theorem dX9_season_0 : decode cX9_season 0 = .ok (.iload_n 1, 1) := by decide +kernel
theorem dX9_season_1 : decode cX9_season 1 = .ok (.iconst 1, 1) := by decide +kernel
theorem dX9_season_2 : decode cX9_season 2 = .ok (.if_icmp .lt 9, 3) := by decide +kernel
theorem dX9_season_5 : decode cX9_season 5 = .ok (.iload_n 1, 1) := by decide +kernel
theorem dX9_season_6 : decode cX9_season 6 = .ok (.bipush 8, 2) := by decide +kernel
theorem dX9_season_8 : decode cX9_season 8 = .ok (.if_icmp .le 5, 3) := by decide +kernel
theorem dX9_season_11 : decode cX9_season 11 = .ok (.iconst (-1), 1) := by decide +kernel
theorem dX9_season_12 : decode cX9_season 12 = .ok (.ireturn, 1) := by decide +kernel
theorem dX9_season_13 : decode cX9_season 13 = .ok (.aload_n 0, 1) := by decide +kernel
theorem dX9_season_14 : decode cX9_season 14 = .ok (.getfield 77, 3) := by decide +kernel
theorem dX9_season_17 : decode cX9_season 17 = .ok (.aload_n 0, 1) := by decide +kernel
theorem dX9_season_18 : decode cX9_season 18 = .ok (.getfield 73, 3) := by decide +kernel
theorem dX9_season_21 : decode cX9_season 21 = .ok (.invokevirtual 206, 3) := by decide +kernel
theorem dX9_season_24 : decode cX9_season 24 = .ok (.iconst 0, 1) := by decide +kernel
theorem dX9_season_25 : decode cX9_season 25 = .ok (.istore_n 2, 1) := by decide +kernel
theorem dX9_season_26 : decode cX9_season 26 = .ok (.iconst 0, 1) := by decide +kernel
theorem dX9_season_27 : decode cX9_season 27 = .ok (.istore_n 3, 1) := by decide +kernel
theorem dX9_season_28 : decode cX9_season 28 = .ok (.iload_n 3, 1) := by decide +kernel
theorem dX9_season_29 : decode cX9_season 29 = .ok (.iload_n 1, 1) := by decide +kernel
theorem dX9_season_30 : decode cX9_season 30 = .ok (.if_icmp .ge 74, 3) := by decide +kernel
theorem dX9_season_33 : decode cX9_season 33 = .ok (.aload_n 0, 1) := by decide +kernel
theorem dX9_season_34 : decode cX9_season 34 = .ok (.getfield 77, 3) := by decide +kernel
theorem dX9_season_37 : decode cX9_season 37 = .ok (.getfield 174, 3) := by decide +kernel
theorem dX9_season_40 : decode cX9_season 40 = .ok (.bipush 30, 2) := by decide +kernel
theorem dX9_season_42 : decode cX9_season 42 = .ok (.if_icmp .gt 62, 3) := by decide +kernel
theorem dX9_season_45 : decode cX9_season 45 = .ok (.iload_n 2, 1) := by decide +kernel
theorem dX9_season_46 : decode cX9_season 46 = .ok (.aload_n 0, 1) := by decide +kernel
theorem dX9_season_47 : decode cX9_season 47 = .ok (.getfield 66, 3) := by decide +kernel
theorem dX9_season_50 : decode cX9_season 50 = .ok (.aload_n 0, 1) := by decide +kernel
theorem dX9_season_51 : decode cX9_season 51 = .ok (.getfield 28, 3) := by decide +kernel
theorem dX9_season_54 : decode cX9_season 54 = .ok (.aload_n 0, 1) := by decide +kernel
theorem dX9_season_55 : decode cX9_season 55 = .ok (.getfield 38, 3) := by decide +kernel
theorem dX9_season_58 : decode cX9_season 58 = .ok (.aload_n 0, 1) := by decide +kernel
theorem dX9_season_59 : decode cX9_season 59 = .ok (.getfield 77, 3) := by decide +kernel
theorem dX9_season_62 : decode cX9_season 62 = .ok (.invokevirtual 196, 3) := by decide +kernel
theorem dX9_season_65 : decode cX9_season 65 = .ok (.iadd, 1) := by decide +kernel
theorem dX9_season_66 : decode cX9_season 66 = .ok (.istore_n 2, 1) := by decide +kernel
theorem dX9_season_67 : decode cX9_season 67 = .ok (.aload_n 0, 1) := by decide +kernel
theorem dX9_season_68 : decode cX9_season 68 = .ok (.getfield 66, 3) := by decide +kernel
theorem dX9_season_71 : decode cX9_season 71 = .ok (.aload_n 0, 1) := by decide +kernel
theorem dX9_season_72 : decode cX9_season 72 = .ok (.getfield 28, 3) := by decide +kernel
theorem dX9_season_75 : decode cX9_season 75 = .ok (.aload_n 0, 1) := by decide +kernel
theorem dX9_season_76 : decode cX9_season 76 = .ok (.getfield 38, 3) := by decide +kernel
theorem dX9_season_79 : decode cX9_season 79 = .ok (.aload_n 0, 1) := by decide +kernel
theorem dX9_season_80 : decode cX9_season 80 = .ok (.getfield 77, 3) := by decide +kernel
theorem dX9_season_83 : decode cX9_season 83 = .ok (.invokevirtual 210, 3) := by decide +kernel
theorem dX9_season_86 : decode cX9_season 86 = .ok (.aload_n 0, 1) := by decide +kernel
theorem dX9_season_87 : decode cX9_season 87 = .ok (.getfield 77, 3) := by decide +kernel
theorem dX9_season_90 : decode cX9_season 90 = .ok (.aload_n 0, 1) := by decide +kernel
theorem dX9_season_91 : decode cX9_season 91 = .ok (.getfield 28, 3) := by decide +kernel
theorem dX9_season_94 : decode cX9_season 94 = .ok (.invokevirtual 177, 3) := by decide +kernel
theorem dX9_season_97 : decode cX9_season 97 = .ok (.pop, 1) := by decide +kernel
theorem dX9_season_98 : decode cX9_season 98 = .ok (.iinc 3 1, 3) := by decide +kernel
theorem dX9_season_101 : decode cX9_season 101 = .ok (.goto (-73), 3) := by decide +kernel
theorem dX9_season_104 : decode cX9_season 104 = .ok (.iload_n 2, 1) := by decide +kernel
theorem dX9_season_105 : decode cX9_season 105 = .ok (.ireturn, 1) := by decide +kernel
set_option maxRecDepth 20000 in
theorem ggX9_whole_X3_everybody : GoodIn wsX9_whole wsX3_everybody := goodIn_r _ [8, 9, 25, 26, 27, 28, 29, 30, 31, 32, 33, 34] (by decide +kernel) (by decide +kernel)
set_option maxRecDepth 20000 in
theorem gX9_whole_X3_everybody : GoodIn wsX9_whole (wsV RX9 217 RX3 yX3_everybody wsX3_everybody) := goodIn_app (goodIn_of _ (by decide +kernel)) ggX9_whole_X3_everybody
theorem dX9_whole_0 : decode cX9_whole 0 = .ok (.aload_n 0, 1) := by decide +kernel
theorem dX9_whole_1 : decode cX9_whole 1 = .ok (.getfield 45, 3) := by decide +kernel
theorem dX9_whole_4 : decode cX9_whole 4 = .ok (.getfield 214, 3) := by decide +kernel
theorem dX9_whole_7 : decode cX9_whole 7 = .ok (.iload_n 1, 1) := by decide +kernel
theorem dX9_whole_8 : decode cX9_whole 8 = .ok (.aload_n 0, 1) := by decide +kernel
theorem dX9_whole_9 : decode cX9_whole 9 = .ok (.getfield 28, 3) := by decide +kernel
theorem dX9_whole_12 : decode cX9_whole 12 = .ok (.invokevirtual 217, 3) := by decide +kernel
theorem dX9_whole_15 : decode cX9_whole 15 = .ok (.iand, 1) := by decide +kernel
theorem dX9_whole_16 : decode cX9_whole 16 = .ok (.iaload, 1) := by decide +kernel
theorem dX9_whole_17 : decode cX9_whole 17 = .ok (.ireturn, 1) := by decide +kernel
set_option maxRecDepth 20000 in
theorem ggX9_worth_X3_hasHalf : GoodIn wsX9_worth wsX3_hasHalf := goodIn_r _ [9, 10, 42, 43, 44, 45, 46, 47, 48, 49, 50, 51] (by decide +kernel) (by decide +kernel)
set_option maxRecDepth 20000 in
theorem gX9_worth_X3_hasHalf : GoodIn wsX9_worth (wsV RX9 114 RX3 yX3_hasHalf wsX3_hasHalf) := goodIn_app (goodIn_of _ (by decide +kernel)) ggX9_worth_X3_hasHalf
set_option maxRecDepth 20000 in
theorem ggX9_worth_X7_grownOverOrders : GoodIn wsX9_worth wsX7_grownOverOrders := goodIn_r _ [15, 16, 17, 18, 19, 20, 21, 22, 23, 52] (by decide +kernel) (by decide +kernel)
set_option maxRecDepth 20000 in
theorem gX9_worth_X7_grownOverOrders : GoodIn wsX9_worth (wsV RX9 226 RX7 yX7_grownOverOrders wsX7_grownOverOrders) := goodIn_app (goodIn_of _ (by decide +kernel)) ggX9_worth_X7_grownOverOrders
set_option maxRecDepth 20000 in
theorem ggX9_worth_X9_greatestDivisor : GoodIn wsX9_worth wsX9_greatestDivisor := goodIn_r _ [27] (by decide +kernel) (by decide +kernel)
set_option maxRecDepth 20000 in
theorem gX9_worth_X9_greatestDivisor : GoodIn wsX9_worth (va_wsS RX9 230 yX9_greatestDivisor wsX9_greatestDivisor) := goodIn_app (goodIn_of _ (by decide +kernel)) ggX9_worth_X9_greatestDivisor
theorem dX9_worth_0 : decode cX9_worth 0 = .ok (.aload_n 0, 1) := by decide +kernel
theorem dX9_worth_1 : decode cX9_worth 1 = .ok (.getfield 28, 3) := by decide +kernel
theorem dX9_worth_4 : decode cX9_worth 4 = .ok (.iload_n 1, 1) := by decide +kernel
theorem dX9_worth_5 : decode cX9_worth 5 = .ok (.invokevirtual 114, 3) := by decide +kernel
theorem dX9_worth_8 : decode cX9_worth 8 = .ok (.ifCond .eq 12, 3) := by decide +kernel
theorem dX9_worth_11 : decode cX9_worth 11 = .ok (.iload_n 2, 1) := by decide +kernel
theorem dX9_worth_12 : decode cX9_worth 12 = .ok (.ifCond .lt 8, 3) := by decide +kernel
theorem dX9_worth_15 : decode cX9_worth 15 = .ok (.iload_n 2, 1) := by decide +kernel
theorem dX9_worth_16 : decode cX9_worth 16 = .ok (.iconst 1, 1) := by decide +kernel
theorem dX9_worth_17 : decode cX9_worth 17 = .ok (.if_icmp .le 5, 3) := by decide +kernel
theorem dX9_worth_20 : decode cX9_worth 20 = .ok (.iconst (-1), 1) := by decide +kernel
theorem dX9_worth_21 : decode cX9_worth 21 = .ok (.ireturn, 1) := by decide +kernel
theorem dX9_worth_22 : decode cX9_worth 22 = .ok (.getstatic 220, 3) := by decide +kernel
theorem dX9_worth_25 : decode cX9_worth 25 = .ok (.aload_n 0, 1) := by decide +kernel
theorem dX9_worth_26 : decode cX9_worth 26 = .ok (.getfield 28, 3) := by decide +kernel
theorem dX9_worth_29 : decode cX9_worth 29 = .ok (.getfield 223, 3) := by decide +kernel
theorem dX9_worth_32 : decode cX9_worth 32 = .ok (.iaload, 1) := by decide +kernel
theorem dX9_worth_33 : decode cX9_worth 33 = .ok (.istore_n 3, 1) := by decide +kernel
theorem dX9_worth_34 : decode cX9_worth 34 = .ok (.aload_n 0, 1) := by decide +kernel
theorem dX9_worth_35 : decode cX9_worth 35 = .ok (.getfield 45, 3) := by decide +kernel
theorem dX9_worth_38 : decode cX9_worth 38 = .ok (.iload_n 1, 1) := by decide +kernel
theorem dX9_worth_39 : decode cX9_worth 39 = .ok (.aload_n 0, 1) := by decide +kernel
theorem dX9_worth_40 : decode cX9_worth 40 = .ok (.getfield 28, 3) := by decide +kernel
theorem dX9_worth_43 : decode cX9_worth 43 = .ok (.getfield 223, 3) := by decide +kernel
theorem dX9_worth_46 : decode cX9_worth 46 = .ok (.invokevirtual 226, 3) := by decide +kernel
theorem dX9_worth_49 : decode cX9_worth 49 = .ok (.istore 4, 2) := by decide +kernel
theorem dX9_worth_51 : decode cX9_worth 51 = .ok (.iload 4, 2) := by decide +kernel
theorem dX9_worth_53 : decode cX9_worth 53 = .ok (.iload_n 3, 1) := by decide +kernel
theorem dX9_worth_54 : decode cX9_worth 54 = .ok (.invokestatic 230, 3) := by decide +kernel
theorem dX9_worth_57 : decode cX9_worth 57 = .ok (.istore 5, 2) := by decide +kernel
theorem dX9_worth_59 : decode cX9_worth 59 = .ok (.iload 5, 2) := by decide +kernel
theorem dX9_worth_61 : decode cX9_worth 61 = .ok (.ifCond .ne 5, 3) := by decide +kernel
theorem dX9_worth_64 : decode cX9_worth 64 = .ok (.iconst (-1), 1) := by decide +kernel
theorem dX9_worth_65 : decode cX9_worth 65 = .ok (.ireturn, 1) := by decide +kernel
theorem dX9_worth_66 : decode cX9_worth 66 = .ok (.iload_n 2, 1) := by decide +kernel
theorem dX9_worth_67 : decode cX9_worth 67 = .ok (.ifCond .ne 8, 3) := by decide +kernel
theorem dX9_worth_70 : decode cX9_worth 70 = .ok (.iload 4, 2) := by decide +kernel
theorem dX9_worth_72 : decode cX9_worth 72 = .ok (.goto 4, 3) := by decide +kernel
theorem dX9_worth_75 : decode cX9_worth 75 = .ok (.iload_n 3, 1) := by decide +kernel
theorem dX9_worth_76 : decode cX9_worth 76 = .ok (.iload 5, 2) := by decide +kernel
theorem dX9_worth_78 : decode cX9_worth 78 = .ok (.idiv, 1) := by decide +kernel
theorem dX9_worth_79 : decode cX9_worth 79 = .ok (.ireturn, 1) := by decide +kernel
set_option maxRecDepth 20000 in
theorem ggX9_asked_X3_hasHalf : GoodIn wsX9_asked wsX3_hasHalf := goodIn_r _ [8, 9, 29, 30, 31, 32, 33, 34, 35, 36, 37, 38] (by decide +kernel) (by decide +kernel)
set_option maxRecDepth 20000 in
theorem gX9_asked_X3_hasHalf : GoodIn wsX9_asked (wsV RX9 114 RX3 yX3_hasHalf wsX3_hasHalf) := goodIn_app (goodIn_of _ (by decide +kernel)) ggX9_asked_X3_hasHalf
theorem dX9_asked_0 : decode cX9_asked 0 = .ok (.aload_n 0, 1) := by decide +kernel
theorem dX9_asked_1 : decode cX9_asked 1 = .ok (.getfield 28, 3) := by decide +kernel
theorem dX9_asked_4 : decode cX9_asked 4 = .ok (.iload_n 1, 1) := by decide +kernel
theorem dX9_asked_5 : decode cX9_asked 5 = .ok (.invokevirtual 114, 3) := by decide +kernel
theorem dX9_asked_8 : decode cX9_asked 8 = .ok (.ifCond .eq 15, 3) := by decide +kernel
theorem dX9_asked_11 : decode cX9_asked 11 = .ok (.aload_n 0, 1) := by decide +kernel
theorem dX9_asked_12 : decode cX9_asked 12 = .ok (.getfield 59, 3) := by decide +kernel
theorem dX9_asked_15 : decode cX9_asked 15 = .ok (.getfield 233, 3) := by decide +kernel
theorem dX9_asked_18 : decode cX9_asked 18 = .ok (.iload_n 1, 1) := by decide +kernel
theorem dX9_asked_19 : decode cX9_asked 19 = .ok (.iaload, 1) := by decide +kernel
theorem dX9_asked_20 : decode cX9_asked 20 = .ok (.goto 4, 3) := by decide +kernel
theorem dX9_asked_23 : decode cX9_asked 23 = .ok (.iconst (-1), 1) := by decide +kernel
theorem dX9_asked_24 : decode cX9_asked 24 = .ok (.ireturn, 1) := by decide +kernel
theorem dX9_rests_0 : decode cX9_rests 0 = .ok (.aload_n 0, 1) := by decide +kernel
theorem dX9_rests_1 : decode cX9_rests 1 = .ok (.getfield 59, 3) := by decide +kernel
theorem dX9_rests_4 : decode cX9_rests 4 = .ok (.getfield 236, 3) := by decide +kernel
theorem dX9_rests_7 : decode cX9_rests 7 = .ok (.ireturn, 1) := by decide +kernel
theorem dX9_cuts_0 : decode cX9_cuts 0 = .ok (.iload_n 1, 1) := by decide +kernel
theorem dX9_cuts_1 : decode cX9_cuts 1 = .ok (.iconst 1, 1) := by decide +kernel
theorem dX9_cuts_2 : decode cX9_cuts 2 = .ok (.if_icmp .lt 8, 3) := by decide +kernel
theorem dX9_cuts_5 : decode cX9_cuts 5 = .ok (.iload_n 1, 1) := by decide +kernel
theorem dX9_cuts_6 : decode cX9_cuts 6 = .ok (.iconst 4, 1) := by decide +kernel
theorem dX9_cuts_7 : decode cX9_cuts 7 = .ok (.if_icmp .le 7, 3) := by decide +kernel
theorem dX9_cuts_10 : decode cX9_cuts 10 = .ok (.iconst (-1), 1) := by decide +kernel
theorem dX9_cuts_11 : decode cX9_cuts 11 = .ok (.goto 12, 3) := by decide +kernel
theorem dX9_cuts_14 : decode cX9_cuts 14 = .ok (.aload_n 0, 1) := by decide +kernel
theorem dX9_cuts_15 : decode cX9_cuts 15 = .ok (.getfield 52, 3) := by decide +kernel
theorem dX9_cuts_18 : decode cX9_cuts 18 = .ok (.getfield 239, 3) := by decide +kernel
theorem dX9_cuts_21 : decode cX9_cuts 21 = .ok (.iload_n 1, 1) := by decide +kernel
theorem dX9_cuts_22 : decode cX9_cuts 22 = .ok (.iaload, 1) := by decide +kernel
theorem dX9_cuts_23 : decode cX9_cuts 23 = .ok (.ireturn, 1) := by decide +kernel
set_option maxRecDepth 20000 in
theorem ggX9_whose_X4_howMany : GoodIn wsX9_whose wsX4_howMany := goodIn_r _ [6, 7, 8, 9, 10, 5, 11, 12, 13, 38, 39, 40, 41, 42, 43, 44, 45] (by decide +kernel) (by decide +kernel)
set_option maxRecDepth 20000 in
theorem gX9_whose_X4_howMany : GoodIn wsX9_whose (wsV RX9 242 RX4 yX4_howMany wsX4_howMany) := goodIn_app (goodIn_of _ (by decide +kernel)) ggX9_whose_X4_howMany
set_option maxRecDepth 20000 in
theorem ggX9_whose_X4_firstOf : GoodIn wsX9_whose wsX4_firstOf := goodIn_r _ [17, 7, 8, 9, 10, 5, 11, 12, 13, 18, 19, 20, 21, 22, 23, 38, 39, 40, 41, 42, 43, 44, 45] (by decide +kernel) (by decide +kernel)
set_option maxRecDepth 20000 in
theorem gX9_whose_X4_firstOf : GoodIn wsX9_whose (wsV RX9 245 RX4 yX4_firstOf wsX4_firstOf) := goodIn_app (goodIn_of _ (by decide +kernel)) ggX9_whose_X4_firstOf
theorem dX9_whose_0 : decode cX9_whose 0 = .ok (.iload_n 1, 1) := by decide +kernel
theorem dX9_whose_1 : decode cX9_whose 1 = .ok (.iconst 1, 1) := by decide +kernel
theorem dX9_whose_2 : decode cX9_whose 2 = .ok (.if_icmp .lt 29, 3) := by decide +kernel
theorem dX9_whose_5 : decode cX9_whose 5 = .ok (.iload_n 1, 1) := by decide +kernel
theorem dX9_whose_6 : decode cX9_whose 6 = .ok (.bipush 9, 2) := by decide +kernel
theorem dX9_whose_8 : decode cX9_whose 8 = .ok (.if_icmp .gt 23, 3) := by decide +kernel
theorem dX9_whose_11 : decode cX9_whose 11 = .ok (.iload_n 2, 1) := by decide +kernel
theorem dX9_whose_12 : decode cX9_whose 12 = .ok (.iconst 1, 1) := by decide +kernel
theorem dX9_whose_13 : decode cX9_whose 13 = .ok (.if_icmp .lt 18, 3) := by decide +kernel
theorem dX9_whose_16 : decode cX9_whose 16 = .ok (.iload_n 2, 1) := by decide +kernel
theorem dX9_whose_17 : decode cX9_whose 17 = .ok (.bipush 9, 2) := by decide +kernel
theorem dX9_whose_19 : decode cX9_whose 19 = .ok (.if_icmp .gt 12, 3) := by decide +kernel
theorem dX9_whose_22 : decode cX9_whose 22 = .ok (.iload_n 3, 1) := by decide +kernel
theorem dX9_whose_23 : decode cX9_whose 23 = .ok (.ifCond .lt 8, 3) := by decide +kernel
theorem dX9_whose_26 : decode cX9_whose 26 = .ok (.iload_n 3, 1) := by decide +kernel
theorem dX9_whose_27 : decode cX9_whose 27 = .ok (.iconst 1, 1) := by decide +kernel
theorem dX9_whose_28 : decode cX9_whose 28 = .ok (.if_icmp .le 5, 3) := by decide +kernel
theorem dX9_whose_31 : decode cX9_whose 31 = .ok (.iconst (-1), 1) := by decide +kernel
theorem dX9_whose_32 : decode cX9_whose 32 = .ok (.ireturn, 1) := by decide +kernel
theorem dX9_whose_33 : decode cX9_whose 33 = .ok (.iload_n 3, 1) := by decide +kernel
theorem dX9_whose_34 : decode cX9_whose 34 = .ok (.ifCond .ne 15, 3) := by decide +kernel
theorem dX9_whose_37 : decode cX9_whose 37 = .ok (.aload_n 0, 1) := by decide +kernel
theorem dX9_whose_38 : decode cX9_whose 38 = .ok (.getfield 38, 3) := by decide +kernel
theorem dX9_whose_41 : decode cX9_whose 41 = .ok (.iload_n 1, 1) := by decide +kernel
theorem dX9_whose_42 : decode cX9_whose 42 = .ok (.iload_n 2, 1) := by decide +kernel
theorem dX9_whose_43 : decode cX9_whose 43 = .ok (.invokevirtual 242, 3) := by decide +kernel
theorem dX9_whose_46 : decode cX9_whose 46 = .ok (.goto 12, 3) := by decide +kernel
theorem dX9_whose_49 : decode cX9_whose 49 = .ok (.aload_n 0, 1) := by decide +kernel
theorem dX9_whose_50 : decode cX9_whose 50 = .ok (.getfield 38, 3) := by decide +kernel
theorem dX9_whose_53 : decode cX9_whose 53 = .ok (.iload_n 1, 1) := by decide +kernel
theorem dX9_whose_54 : decode cX9_whose 54 = .ok (.iload_n 2, 1) := by decide +kernel
theorem dX9_whose_55 : decode cX9_whose 55 = .ok (.invokevirtual 245, 3) := by decide +kernel
theorem dX9_whose_58 : decode cX9_whose 58 = .ok (.ireturn, 1) := by decide +kernel
set_option maxRecDepth 20000 in
theorem ggX9_mark_X3_hasHalf : GoodIn wsX9_mark wsX3_hasHalf := goodIn_r _ [7, 8, 43, 44, 45, 46, 47, 48, 49, 50, 51, 52] (by decide +kernel) (by decide +kernel)
set_option maxRecDepth 20000 in
theorem gX9_mark_X3_hasHalf : GoodIn wsX9_mark (wsV RX9 114 RX3 yX3_hasHalf wsX3_hasHalf) := goodIn_app (goodIn_of _ (by decide +kernel)) ggX9_mark_X3_hasHalf
set_option maxRecDepth 20000 in
theorem ggX9_mark_X9_markAs : GoodIn wsX9_mark wsX9_markAs := goodIn_r _ [12, 1, 13, 14, 15, 16, 17, 18, 19, 20, 21, 3, 4, 5, 6, 7, 8, 9, 10, 11, 22, 23, 24, 25, 26, 27, 28, 29, 30, 31, 32, 33, 34, 35, 36, 37, 38, 39, 40, 41, 42, 43, 44, 45, 46, 47, 48, 49, 50, 51, 52, 53, 54, 55, 56, 57, 58, 59, 60, 61, 62, 63, 64, 65, 66, 67] (by decide +kernel) (by decide +kernel)
set_option maxRecDepth 20000 in
theorem gX9_mark_X9_markAs : GoodIn wsX9_mark (va_wsS RX9 249 yX9_markAs wsX9_markAs) := goodIn_app (goodIn_of _ (by decide +kernel)) ggX9_mark_X9_markAs
theorem dX9_mark_0 : decode cX9_mark 0 = .ok (.iload_n 1, 1) := by decide +kernel
theorem dX9_mark_1 : decode cX9_mark 1 = .ok (.ifCond .lt 19, 3) := by decide +kernel
theorem dX9_mark_4 : decode cX9_mark 4 = .ok (.iload_n 1, 1) := by decide +kernel
theorem dX9_mark_5 : decode cX9_mark 5 = .ok (.iconst 5, 1) := by decide +kernel
theorem dX9_mark_6 : decode cX9_mark 6 = .ok (.if_icmp .gt 14, 3) := by decide +kernel
theorem dX9_mark_9 : decode cX9_mark 9 = .ok (.aload_n 0, 1) := by decide +kernel
theorem dX9_mark_10 : decode cX9_mark 10 = .ok (.getfield 28, 3) := by decide +kernel
theorem dX9_mark_13 : decode cX9_mark 13 = .ok (.iload_n 2, 1) := by decide +kernel
theorem dX9_mark_14 : decode cX9_mark 14 = .ok (.invokevirtual 114, 3) := by decide +kernel
theorem dX9_mark_17 : decode cX9_mark 17 = .ok (.ifCond .ne 6, 3) := by decide +kernel
theorem dX9_mark_20 : decode cX9_mark 20 = .ok (.ldc 248, 2) := by decide +kernel
theorem dX9_mark_22 : decode cX9_mark 22 = .ok (.ireturn, 1) := by decide +kernel
theorem dX9_mark_23 : decode cX9_mark 23 = .ok (.aload_n 0, 1) := by decide +kernel
theorem dX9_mark_24 : decode cX9_mark 24 = .ok (.iload_n 1, 1) := by decide +kernel
theorem dX9_mark_25 : decode cX9_mark 25 = .ok (.iload_n 2, 1) := by decide +kernel
theorem dX9_mark_26 : decode cX9_mark 26 = .ok (.iconst 0, 1) := by decide +kernel
theorem dX9_mark_27 : decode cX9_mark 27 = .ok (.invokestatic 249, 3) := by decide +kernel
theorem dX9_mark_30 : decode cX9_mark 30 = .ok (.ireturn, 1) := by decide +kernel
set_option maxRecDepth 20000 in
theorem ggX9_keep_X9_isImage : GoodIn wsX9_keep wsX9_isImage := goodIn_r _ [8] (by decide +kernel) (by decide +kernel)
set_option maxRecDepth 20000 in
theorem gX9_keep_X9_isImage : GoodIn wsX9_keep (va_wsS RX9 253 yX9_isImage wsX9_isImage) := goodIn_app (goodIn_of _ (by decide +kernel)) ggX9_keep_X9_isImage
set_option maxRecDepth 20000 in
theorem ggX9_keep_X2_become : GoodIn wsX9_keep wsX2_become := goodIn_r _ [13, 14, 15, 16, 17, 18, 19, 20, 35, 36, 37, 38, 39, 40, 41] (by decide +kernel) (by decide +kernel)
set_option maxRecDepth 20000 in
theorem gX9_keep_X2_become : GoodIn wsX9_keep (wsV RX9 206 RX2 yX2_become wsX2_become) := goodIn_app (goodIn_of _ (by decide +kernel)) ggX9_keep_X2_become
theorem dX9_keep_0 : decode cX9_keep 0 = .ok (.iload_n 1, 1) := by decide +kernel
theorem dX9_keep_1 : decode cX9_keep 1 = .ok (.invokestatic 253, 3) := by decide +kernel
theorem dX9_keep_4 : decode cX9_keep 4 = .ok (.ifCond .ne 5, 3) := by decide +kernel
theorem dX9_keep_7 : decode cX9_keep 7 = .ok (.iconst (-1), 1) := by decide +kernel
theorem dX9_keep_8 : decode cX9_keep 8 = .ok (.ireturn, 1) := by decide +kernel
theorem dX9_keep_9 : decode cX9_keep 9 = .ok (.aload_n 0, 1) := by decide +kernel
theorem dX9_keep_10 : decode cX9_keep 10 = .ok (.getfield 80, 3) := by decide +kernel
theorem dX9_keep_13 : decode cX9_keep 13 = .ok (.iload_n 1, 1) := by decide +kernel
theorem dX9_keep_14 : decode cX9_keep 14 = .ok (.aaload, 1) := by decide +kernel
theorem dX9_keep_15 : decode cX9_keep 15 = .ok (.aload_n 0, 1) := by decide +kernel
theorem dX9_keep_16 : decode cX9_keep 16 = .ok (.getfield 73, 3) := by decide +kernel
theorem dX9_keep_19 : decode cX9_keep 19 = .ok (.invokevirtual 206, 3) := by decide +kernel
theorem dX9_keep_22 : decode cX9_keep 22 = .ok (.aload_n 0, 1) := by decide +kernel
theorem dX9_keep_23 : decode cX9_keep 23 = .ok (.getfield 84, 3) := by decide +kernel
theorem dX9_keep_26 : decode cX9_keep 26 = .ok (.iload_n 1, 1) := by decide +kernel
theorem dX9_keep_27 : decode cX9_keep 27 = .ok (.iconst 1, 1) := by decide +kernel
theorem dX9_keep_28 : decode cX9_keep 28 = .ok (.bastore, 1) := by decide +kernel
theorem dX9_keep_29 : decode cX9_keep 29 = .ok (.aload_n 0, 1) := by decide +kernel
theorem dX9_keep_30 : decode cX9_keep 30 = .ok (.getfield 73, 3) := by decide +kernel
theorem dX9_keep_33 : decode cX9_keep 33 = .ok (.getfield 174, 3) := by decide +kernel
theorem dX9_keep_36 : decode cX9_keep 36 = .ok (.ireturn, 1) := by decide +kernel
set_option maxRecDepth 20000 in
theorem ggX9_back_X9_isImage : GoodIn wsX9_back wsX9_isImage := goodIn_r _ [8] (by decide +kernel) (by decide +kernel)
set_option maxRecDepth 20000 in
theorem gX9_back_X9_isImage : GoodIn wsX9_back (va_wsS RX9 253 yX9_isImage wsX9_isImage) := goodIn_app (goodIn_of _ (by decide +kernel)) ggX9_back_X9_isImage
set_option maxRecDepth 20000 in
theorem ggX9_back_X2_become : GoodIn wsX9_back wsX2_become := goodIn_r _ [13, 14, 15, 16, 17, 18, 19, 20, 35, 36, 37, 38, 39, 40, 41] (by decide +kernel) (by decide +kernel)
