theorem dX10_half_27 : decode cX10_half 27 = .ok (.iload_n 1, 1) := by decide +kernel
theorem dX10_half_28 : decode cX10_half 28 = .ok (.iaload, 1) := by decide +kernel
theorem dX10_half_29 : decode cX10_half 29 = .ok (.goto 55, 3) := by decide +kernel
theorem dX10_half_32 : decode cX10_half 32 = .ok (.iload_n 2, 1) := by decide +kernel
theorem dX10_half_33 : decode cX10_half 33 = .ok (.iconst 1, 1) := by decide +kernel
theorem dX10_half_34 : decode cX10_half 34 = .ok (.if_icmp .ne 12, 3) := by decide +kernel
theorem dX10_half_37 : decode cX10_half 37 = .ok (.aload_n 0, 1) := by decide +kernel
theorem dX10_half_38 : decode cX10_half 38 = .ok (.getfield 20, 3) := by decide +kernel
theorem dX10_half_41 : decode cX10_half 41 = .ok (.iload_n 1, 1) := by decide +kernel
theorem dX10_half_42 : decode cX10_half 42 = .ok (.iaload, 1) := by decide +kernel
theorem dX10_half_43 : decode cX10_half 43 = .ok (.goto 41, 3) := by decide +kernel
theorem dX10_half_46 : decode cX10_half 46 = .ok (.iload_n 2, 1) := by decide +kernel
theorem dX10_half_47 : decode cX10_half 47 = .ok (.iconst 2, 1) := by decide +kernel
theorem dX10_half_48 : decode cX10_half 48 = .ok (.if_icmp .ne 12, 3) := by decide +kernel
theorem dX10_half_51 : decode cX10_half 51 = .ok (.aload_n 0, 1) := by decide +kernel
theorem dX10_half_52 : decode cX10_half 52 = .ok (.getfield 23, 3) := by decide +kernel
theorem dX10_half_55 : decode cX10_half 55 = .ok (.iload_n 1, 1) := by decide +kernel
theorem dX10_half_56 : decode cX10_half 56 = .ok (.iaload, 1) := by decide +kernel
theorem dX10_half_57 : decode cX10_half 57 = .ok (.goto 27, 3) := by decide +kernel
theorem dX10_half_60 : decode cX10_half 60 = .ok (.iload_n 2, 1) := by decide +kernel
theorem dX10_half_61 : decode cX10_half 61 = .ok (.iconst 3, 1) := by decide +kernel
theorem dX10_half_62 : decode cX10_half 62 = .ok (.if_icmp .ne 12, 3) := by decide +kernel
theorem dX10_half_65 : decode cX10_half 65 = .ok (.aload_n 0, 1) := by decide +kernel
theorem dX10_half_66 : decode cX10_half 66 = .ok (.getfield 26, 3) := by decide +kernel
theorem dX10_half_69 : decode cX10_half 69 = .ok (.iload_n 1, 1) := by decide +kernel
theorem dX10_half_70 : decode cX10_half 70 = .ok (.iaload, 1) := by decide +kernel
theorem dX10_half_71 : decode cX10_half 71 = .ok (.goto 13, 3) := by decide +kernel
theorem dX10_half_74 : decode cX10_half 74 = .ok (.aload_n 0, 1) := by decide +kernel
theorem dX10_half_75 : decode cX10_half 75 = .ok (.getfield 45, 3) := by decide +kernel
theorem dX10_half_78 : decode cX10_half 78 = .ok (.iconst 3, 1) := by decide +kernel
theorem dX10_half_79 : decode cX10_half 79 = .ok (.iaload, 1) := by decide +kernel
theorem dX10_half_80 : decode cX10_half 80 = .ok (.iload_n 1, 1) := by decide +kernel
theorem dX10_half_81 : decode cX10_half 81 = .ok (.ishr, 1) := by decide +kernel
theorem dX10_half_82 : decode cX10_half 82 = .ok (.iconst 1, 1) := by decide +kernel
theorem dX10_half_83 : decode cX10_half 83 = .ok (.iand, 1) := by decide +kernel
theorem dX10_half_84 : decode cX10_half 84 = .ok (.ireturn, 1) := by decide +kernel
set_option maxRecDepth 20000 in
theorem ggX10_tree_X10_isTree : GoodIn wsX10_tree wsX10_isTree := goodIn_r _ [9, 10, 11, 12, 8, 13, 14, 15, 16, 17, 18, 19, 20, 21, 22, 23, 24, 25, 26, 27, 28, 29, 30, 31, 32, 33, 34, 35, 36, 37, 38, 39, 40] (by decide +kernel) (by decide +kernel)
set_option maxRecDepth 20000 in
theorem gX10_tree_X10_isTree : GoodIn wsX10_tree (wsV RX10 126 RX10 yX10_isTree wsX10_isTree) := goodIn_app (goodIn_of _ (by decide +kernel)) ggX10_tree_X10_isTree
set_option maxRecDepth 20000 in
theorem ggX10_tree_X10_in : GoodIn wsX10_tree wsX10_in := goodIn_r _ [13] (by decide +kernel) (by decide +kernel)
set_option maxRecDepth 20000 in
theorem gX10_tree_X10_in : GoodIn wsX10_tree (va_wsS RX10 72 yX10_in wsX10_in) := goodIn_app (goodIn_of _ (by decide +kernel)) ggX10_tree_X10_in
theorem dX10_tree_0 : decode cX10_tree 0 = .ok (.aload_n 0, 1) := by decide +kernel
theorem dX10_tree_1 : decode cX10_tree 1 = .ok (.iload_n 1, 1) := by decide +kernel
theorem dX10_tree_2 : decode cX10_tree 2 = .ok (.invokevirtual 126, 3) := by decide +kernel
theorem dX10_tree_5 : decode cX10_tree 5 = .ok (.ifCond .eq 12, 3) := by decide +kernel
theorem dX10_tree_8 : decode cX10_tree 8 = .ok (.iload_n 2, 1) := by decide +kernel
theorem dX10_tree_9 : decode cX10_tree 9 = .ok (.iconst 0, 1) := by decide +kernel
theorem dX10_tree_10 : decode cX10_tree 10 = .ok (.iconst 4, 1) := by decide +kernel
theorem dX10_tree_11 : decode cX10_tree 11 = .ok (.invokestatic 72, 3) := by decide +kernel
theorem dX10_tree_14 : decode cX10_tree 14 = .ok (.ifCond .ne 5, 3) := by decide +kernel
theorem dX10_tree_17 : decode cX10_tree 17 = .ok (.iconst (-1), 1) := by decide +kernel
theorem dX10_tree_18 : decode cX10_tree 18 = .ok (.ireturn, 1) := by decide +kernel
theorem dX10_tree_19 : decode cX10_tree 19 = .ok (.iload_n 2, 1) := by decide +kernel
theorem dX10_tree_20 : decode cX10_tree 20 = .ok (.ifCond .ne 12, 3) := by decide +kernel
theorem dX10_tree_23 : decode cX10_tree 23 = .ok (.aload_n 0, 1) := by decide +kernel
theorem dX10_tree_24 : decode cX10_tree 24 = .ok (.getfield 36, 3) := by decide +kernel
theorem dX10_tree_27 : decode cX10_tree 27 = .ok (.iload_n 1, 1) := by decide +kernel
theorem dX10_tree_28 : decode cX10_tree 28 = .ok (.iaload, 1) := by decide +kernel
theorem dX10_tree_29 : decode cX10_tree 29 = .ok (.goto 58, 3) := by decide +kernel
theorem dX10_tree_32 : decode cX10_tree 32 = .ok (.iload_n 2, 1) := by decide +kernel
theorem dX10_tree_33 : decode cX10_tree 33 = .ok (.iconst 1, 1) := by decide +kernel
theorem dX10_tree_34 : decode cX10_tree 34 = .ok (.if_icmp .ne 12, 3) := by decide +kernel
theorem dX10_tree_37 : decode cX10_tree 37 = .ok (.aload_n 0, 1) := by decide +kernel
theorem dX10_tree_38 : decode cX10_tree 38 = .ok (.getfield 39, 3) := by decide +kernel
theorem dX10_tree_41 : decode cX10_tree 41 = .ok (.iload_n 1, 1) := by decide +kernel
theorem dX10_tree_42 : decode cX10_tree 42 = .ok (.iaload, 1) := by decide +kernel
theorem dX10_tree_43 : decode cX10_tree 43 = .ok (.goto 44, 3) := by decide +kernel
theorem dX10_tree_46 : decode cX10_tree 46 = .ok (.iload_n 2, 1) := by decide +kernel
theorem dX10_tree_47 : decode cX10_tree 47 = .ok (.iconst 2, 1) := by decide +kernel
theorem dX10_tree_48 : decode cX10_tree 48 = .ok (.if_icmp .ne 12, 3) := by decide +kernel
theorem dX10_tree_51 : decode cX10_tree 51 = .ok (.aload_n 0, 1) := by decide +kernel
theorem dX10_tree_52 : decode cX10_tree 52 = .ok (.getfield 42, 3) := by decide +kernel
theorem dX10_tree_55 : decode cX10_tree 55 = .ok (.iload_n 1, 1) := by decide +kernel
theorem dX10_tree_56 : decode cX10_tree 56 = .ok (.iaload, 1) := by decide +kernel
theorem dX10_tree_57 : decode cX10_tree 57 = .ok (.goto 30, 3) := by decide +kernel
theorem dX10_tree_60 : decode cX10_tree 60 = .ok (.iload_n 2, 1) := by decide +kernel
theorem dX10_tree_61 : decode cX10_tree 61 = .ok (.iconst 3, 1) := by decide +kernel
theorem dX10_tree_62 : decode cX10_tree 62 = .ok (.if_icmp .ne 15, 3) := by decide +kernel
theorem dX10_tree_65 : decode cX10_tree 65 = .ok (.aload_n 0, 1) := by decide +kernel
theorem dX10_tree_66 : decode cX10_tree 66 = .ok (.getfield 45, 3) := by decide +kernel
theorem dX10_tree_69 : decode cX10_tree 69 = .ok (.bipush 6, 2) := by decide +kernel
theorem dX10_tree_71 : decode cX10_tree 71 = .ok (.iload_n 1, 1) := by decide +kernel
theorem dX10_tree_72 : decode cX10_tree 72 = .ok (.iadd, 1) := by decide +kernel
theorem dX10_tree_73 : decode cX10_tree 73 = .ok (.iaload, 1) := by decide +kernel
theorem dX10_tree_74 : decode cX10_tree 74 = .ok (.goto 13, 3) := by decide +kernel
theorem dX10_tree_77 : decode cX10_tree 77 = .ok (.aload_n 0, 1) := by decide +kernel
theorem dX10_tree_78 : decode cX10_tree 78 = .ok (.getfield 45, 3) := by decide +kernel
theorem dX10_tree_81 : decode cX10_tree 81 = .ok (.iconst 4, 1) := by decide +kernel
theorem dX10_tree_82 : decode cX10_tree 82 = .ok (.iaload, 1) := by decide +kernel
theorem dX10_tree_83 : decode cX10_tree 83 = .ok (.iload_n 1, 1) := by decide +kernel
theorem dX10_tree_84 : decode cX10_tree 84 = .ok (.ishr, 1) := by decide +kernel
theorem dX10_tree_85 : decode cX10_tree 85 = .ok (.iconst 1, 1) := by decide +kernel
theorem dX10_tree_86 : decode cX10_tree 86 = .ok (.iand, 1) := by decide +kernel
theorem dX10_tree_87 : decode cX10_tree 87 = .ok (.ireturn, 1) := by decide +kernel
set_option maxRecDepth 20000 in
theorem ggX10_fit_X10_isOne : GoodIn wsX10_fit wsX10_isOne := goodIn_r _ [5, 6, 7, 8, 4, 9, 17, 18, 19, 20, 21, 22, 23, 24, 25, 26, 27, 28, 29, 30, 31, 32, 33, 34, 35, 36, 37, 38, 39, 40, 41, 42, 43] (by decide +kernel) (by decide +kernel)
set_option maxRecDepth 20000 in
theorem gX10_fit_X10_isOne : GoodIn wsX10_fit (wsV RX10 122 RX10 yX10_isOne wsX10_isOne) := goodIn_app (goodIn_of _ (by decide +kernel)) ggX10_fit_X10_isOne
set_option maxRecDepth 20000 in
theorem ggX10_fit_X10_fits : GoodIn wsX10_fit wsX10_fits := goodIn_r _ [13, 14, 15, 16, 17, 18, 19, 20, 21, 22, 23, 24, 25, 26, 27, 28, 29, 30, 31, 32, 33, 34, 35, 36, 37, 38, 39, 40, 41, 42, 43] (by decide +kernel) (by decide +kernel)
set_option maxRecDepth 20000 in
theorem gX10_fit_X10_fits : GoodIn wsX10_fit (wsV RX10 129 RX10 yX10_fits wsX10_fits) := goodIn_app (goodIn_of _ (by decide +kernel)) ggX10_fit_X10_fits
theorem dX10_fit_0 : decode cX10_fit 0 = .ok (.aload_n 0, 1) := by decide +kernel
theorem dX10_fit_1 : decode cX10_fit 1 = .ok (.iload_n 1, 1) := by decide +kernel
theorem dX10_fit_2 : decode cX10_fit 2 = .ok (.invokevirtual 122, 3) := by decide +kernel
theorem dX10_fit_5 : decode cX10_fit 5 = .ok (.ifCond .eq 33, 3) := by decide +kernel
theorem dX10_fit_8 : decode cX10_fit 8 = .ok (.aload_n 0, 1) := by decide +kernel
theorem dX10_fit_9 : decode cX10_fit 9 = .ok (.iload_n 2, 1) := by decide +kernel
theorem dX10_fit_10 : decode cX10_fit 10 = .ok (.invokevirtual 122, 3) := by decide +kernel
theorem dX10_fit_13 : decode cX10_fit 13 = .ok (.ifCond .eq 25, 3) := by decide +kernel
theorem dX10_fit_16 : decode cX10_fit 16 = .ok (.iload_n 1, 1) := by decide +kernel
theorem dX10_fit_17 : decode cX10_fit 17 = .ok (.iload_n 2, 1) := by decide +kernel
theorem dX10_fit_18 : decode cX10_fit 18 = .ok (.if_icmp .eq 20, 3) := by decide +kernel
theorem dX10_fit_21 : decode cX10_fit 21 = .ok (.aload_n 0, 1) := by decide +kernel
theorem dX10_fit_22 : decode cX10_fit 22 = .ok (.iload_n 1, 1) := by decide +kernel
theorem dX10_fit_23 : decode cX10_fit 23 = .ok (.iload_n 2, 1) := by decide +kernel
theorem dX10_fit_24 : decode cX10_fit 24 = .ok (.invokevirtual 129, 3) := by decide +kernel
theorem dX10_fit_27 : decode cX10_fit 27 = .ok (.ifCond .eq 7, 3) := by decide +kernel
theorem dX10_fit_30 : decode cX10_fit 30 = .ok (.iconst 1, 1) := by decide +kernel
theorem dX10_fit_31 : decode cX10_fit 31 = .ok (.goto 8, 3) := by decide +kernel
theorem dX10_fit_34 : decode cX10_fit 34 = .ok (.iconst 0, 1) := by decide +kernel
theorem dX10_fit_35 : decode cX10_fit 35 = .ok (.goto 4, 3) := by decide +kernel
theorem dX10_fit_38 : decode cX10_fit 38 = .ok (.iconst (-1), 1) := by decide +kernel
theorem dX10_fit_39 : decode cX10_fit 39 = .ok (.ireturn, 1) := by decide +kernel
theorem dX10_begin_0 : decode cX10_begin 0 = .ok (.aload_n 0, 1) := by decide +kernel
theorem dX10_begin_1 : decode cX10_begin 1 = .ok (.getfield 45, 3) := by decide +kernel
theorem dX10_begin_4 : decode cX10_begin 4 = .ok (.iconst 0, 1) := by decide +kernel
theorem dX10_begin_5 : decode cX10_begin 5 = .ok (.iconst 0, 1) := by decide +kernel
theorem dX10_begin_6 : decode cX10_begin 6 = .ok (.iastore, 1) := by decide +kernel
theorem dX10_begin_7 : decode cX10_begin 7 = .ok (.aload_n 0, 1) := by decide +kernel
theorem dX10_begin_8 : decode cX10_begin 8 = .ok (.getfield 45, 3) := by decide +kernel
theorem dX10_begin_11 : decode cX10_begin 11 = .ok (.iconst 1, 1) := by decide +kernel
theorem dX10_begin_12 : decode cX10_begin 12 = .ok (.iconst 0, 1) := by decide +kernel
theorem dX10_begin_13 : decode cX10_begin 13 = .ok (.iastore, 1) := by decide +kernel
theorem dX10_begin_14 : decode cX10_begin 14 = .ok (.aload_n 0, 1) := by decide +kernel
theorem dX10_begin_15 : decode cX10_begin 15 = .ok (.getfield 45, 3) := by decide +kernel
theorem dX10_begin_18 : decode cX10_begin 18 = .ok (.iconst 2, 1) := by decide +kernel
theorem dX10_begin_19 : decode cX10_begin 19 = .ok (.iconst 0, 1) := by decide +kernel
theorem dX10_begin_20 : decode cX10_begin 20 = .ok (.iastore, 1) := by decide +kernel
theorem dX10_begin_21 : decode cX10_begin 21 = .ok (.aload_n 0, 1) := by decide +kernel
theorem dX10_begin_22 : decode cX10_begin 22 = .ok (.getfield 45, 3) := by decide +kernel
theorem dX10_begin_25 : decode cX10_begin 25 = .ok (.iconst 3, 1) := by decide +kernel
theorem dX10_begin_26 : decode cX10_begin 26 = .ok (.iconst 0, 1) := by decide +kernel
theorem dX10_begin_27 : decode cX10_begin 27 = .ok (.iastore, 1) := by decide +kernel
theorem dX10_begin_28 : decode cX10_begin 28 = .ok (.aload_n 0, 1) := by decide +kernel
theorem dX10_begin_29 : decode cX10_begin 29 = .ok (.getfield 45, 3) := by decide +kernel
theorem dX10_begin_32 : decode cX10_begin 32 = .ok (.iconst 4, 1) := by decide +kernel
theorem dX10_begin_33 : decode cX10_begin 33 = .ok (.iconst 0, 1) := by decide +kernel
theorem dX10_begin_34 : decode cX10_begin 34 = .ok (.iastore, 1) := by decide +kernel
theorem dX10_begin_35 : decode cX10_begin 35 = .ok (.return_, 1) := by decide +kernel
set_option maxRecDepth 20000 in
theorem ggX10_mayClimb_X10_fits : GoodIn wsX10_mayClimb wsX10_fits := goodIn_r _ [8, 9, 10, 11, 20, 21, 22, 23, 24, 25, 26, 27, 28, 29, 30, 31, 32, 33, 34, 35, 36, 37, 38, 39, 40, 41, 42, 43, 44, 45, 46] (by decide +kernel) (by decide +kernel)
set_option maxRecDepth 20000 in
theorem gX10_mayClimb_X10_fits : GoodIn wsX10_mayClimb (wsV RX10 129 RX10 yX10_fits wsX10_fits) := goodIn_app (goodIn_of _ (by decide +kernel)) ggX10_mayClimb_X10_fits
set_option maxRecDepth 20000 in
theorem ggX10_mayClimb_X10_in : GoodIn wsX10_mayClimb wsX10_in := goodIn_r _ [14] (by decide +kernel) (by decide +kernel)
set_option maxRecDepth 20000 in
theorem gX10_mayClimb_X10_in : GoodIn wsX10_mayClimb (va_wsS RX10 72 yX10_in wsX10_in) := goodIn_app (goodIn_of _ (by decide +kernel)) ggX10_mayClimb_X10_in
set_option maxRecDepth 20000 in
theorem ggX10_mayClimb_X10_ladder : GoodIn wsX10_mayClimb wsX10_ladder := goodIn_r _ [18, 19, 20, 21, 22, 23, 24, 25, 26, 27, 28, 29, 30, 31, 32, 33, 34, 35, 36, 37, 38, 39, 40, 41, 42, 43, 44, 45, 46] (by decide +kernel) (by decide +kernel)
set_option maxRecDepth 20000 in
theorem gX10_mayClimb_X10_ladder : GoodIn wsX10_mayClimb (wsV RX10 133 RX10 yX10_ladder wsX10_ladder) := goodIn_app (goodIn_of _ (by decide +kernel)) ggX10_mayClimb_X10_ladder
theorem dX10_mayClimb_0 : decode cX10_mayClimb 0 = .ok (.aload_n 0, 1) := by decide +kernel
theorem dX10_mayClimb_1 : decode cX10_mayClimb 1 = .ok (.getfield 45, 3) := by decide +kernel
theorem dX10_mayClimb_4 : decode cX10_mayClimb 4 = .ok (.iload_n 1, 1) := by decide +kernel
theorem dX10_mayClimb_5 : decode cX10_mayClimb 5 = .ok (.iconst 3, 1) := by decide +kernel
theorem dX10_mayClimb_6 : decode cX10_mayClimb 6 = .ok (.iadd, 1) := by decide +kernel
theorem dX10_mayClimb_7 : decode cX10_mayClimb 7 = .ok (.iaload, 1) := by decide +kernel
theorem dX10_mayClimb_8 : decode cX10_mayClimb 8 = .ok (.iload_n 2, 1) := by decide +kernel
theorem dX10_mayClimb_9 : decode cX10_mayClimb 9 = .ok (.ishr, 1) := by decide +kernel
theorem dX10_mayClimb_10 : decode cX10_mayClimb 10 = .ok (.iconst 1, 1) := by decide +kernel
theorem dX10_mayClimb_11 : decode cX10_mayClimb 11 = .ok (.iand, 1) := by decide +kernel
theorem dX10_mayClimb_12 : decode cX10_mayClimb 12 = .ok (.ifCond .ne 38, 3) := by decide +kernel
theorem dX10_mayClimb_15 : decode cX10_mayClimb 15 = .ok (.aload_n 0, 1) := by decide +kernel
theorem dX10_mayClimb_16 : decode cX10_mayClimb 16 = .ok (.getfield 45, 3) := by decide +kernel
theorem dX10_mayClimb_19 : decode cX10_mayClimb 19 = .ok (.iload_n 1, 1) := by decide +kernel
theorem dX10_mayClimb_20 : decode cX10_mayClimb 20 = .ok (.iconst 3, 1) := by decide +kernel
theorem dX10_mayClimb_21 : decode cX10_mayClimb 21 = .ok (.iadd, 1) := by decide +kernel
theorem dX10_mayClimb_22 : decode cX10_mayClimb 22 = .ok (.iaload, 1) := by decide +kernel
theorem dX10_mayClimb_23 : decode cX10_mayClimb 23 = .ok (.iload_n 3, 1) := by decide +kernel
theorem dX10_mayClimb_24 : decode cX10_mayClimb 24 = .ok (.ishr, 1) := by decide +kernel
theorem dX10_mayClimb_25 : decode cX10_mayClimb 25 = .ok (.iconst 1, 1) := by decide +kernel
theorem dX10_mayClimb_26 : decode cX10_mayClimb 26 = .ok (.iand, 1) := by decide +kernel
theorem dX10_mayClimb_27 : decode cX10_mayClimb 27 = .ok (.ifCond .ne 23, 3) := by decide +kernel
theorem dX10_mayClimb_30 : decode cX10_mayClimb 30 = .ok (.aload_n 0, 1) := by decide +kernel
theorem dX10_mayClimb_31 : decode cX10_mayClimb 31 = .ok (.getfield 45, 3) := by decide +kernel
theorem dX10_mayClimb_34 : decode cX10_mayClimb 34 = .ok (.iload_n 1, 1) := by decide +kernel
theorem dX10_mayClimb_35 : decode cX10_mayClimb 35 = .ok (.iconst 4, 1) := by decide +kernel
theorem dX10_mayClimb_36 : decode cX10_mayClimb 36 = .ok (.iadd, 1) := by decide +kernel
theorem dX10_mayClimb_37 : decode cX10_mayClimb 37 = .ok (.iaload, 1) := by decide +kernel
theorem dX10_mayClimb_38 : decode cX10_mayClimb 38 = .ok (.iload 4, 2) := by decide +kernel
theorem dX10_mayClimb_40 : decode cX10_mayClimb 40 = .ok (.ishr, 1) := by decide +kernel
theorem dX10_mayClimb_41 : decode cX10_mayClimb 41 = .ok (.iconst 1, 1) := by decide +kernel
theorem dX10_mayClimb_42 : decode cX10_mayClimb 42 = .ok (.iand, 1) := by decide +kernel
theorem dX10_mayClimb_43 : decode cX10_mayClimb 43 = .ok (.ifCond .ne 7, 3) := by decide +kernel
theorem dX10_mayClimb_46 : decode cX10_mayClimb 46 = .ok (.iconst 1, 1) := by decide +kernel
theorem dX10_mayClimb_47 : decode cX10_mayClimb 47 = .ok (.goto 4, 3) := by decide +kernel
theorem dX10_mayClimb_50 : decode cX10_mayClimb 50 = .ok (.iconst 0, 1) := by decide +kernel
theorem dX10_mayClimb_51 : decode cX10_mayClimb 51 = .ok (.istore 5, 2) := by decide +kernel
theorem dX10_mayClimb_53 : decode cX10_mayClimb 53 = .ok (.iload 5, 2) := by decide +kernel
theorem dX10_mayClimb_55 : decode cX10_mayClimb 55 = .ok (.ifCond .eq 71, 3) := by decide +kernel
theorem dX10_mayClimb_58 : decode cX10_mayClimb 58 = .ok (.aload_n 0, 1) := by decide +kernel
theorem dX10_mayClimb_59 : decode cX10_mayClimb 59 = .ok (.iload_n 2, 1) := by decide +kernel
theorem dX10_mayClimb_60 : decode cX10_mayClimb 60 = .ok (.iload_n 3, 1) := by decide +kernel
theorem dX10_mayClimb_61 : decode cX10_mayClimb 61 = .ok (.invokevirtual 129, 3) := by decide +kernel
theorem dX10_mayClimb_64 : decode cX10_mayClimb 64 = .ok (.ifCond .eq 62, 3) := by decide +kernel
theorem dX10_mayClimb_67 : decode cX10_mayClimb 67 = .ok (.aload_n 0, 1) := by decide +kernel
theorem dX10_mayClimb_68 : decode cX10_mayClimb 68 = .ok (.getfield 45, 3) := by decide +kernel
theorem dX10_mayClimb_71 : decode cX10_mayClimb 71 = .ok (.iload_n 1, 1) := by decide +kernel
theorem dX10_mayClimb_72 : decode cX10_mayClimb 72 = .ok (.iconst 0, 1) := by decide +kernel
theorem dX10_mayClimb_73 : decode cX10_mayClimb 73 = .ok (.iadd, 1) := by decide +kernel
theorem dX10_mayClimb_74 : decode cX10_mayClimb 74 = .ok (.iaload, 1) := by decide +kernel
theorem dX10_mayClimb_75 : decode cX10_mayClimb 75 = .ok (.aload_n 0, 1) := by decide +kernel
theorem dX10_mayClimb_76 : decode cX10_mayClimb 76 = .ok (.getfield 39, 3) := by decide +kernel
theorem dX10_mayClimb_79 : decode cX10_mayClimb 79 = .ok (.iload 4, 2) := by decide +kernel
theorem dX10_mayClimb_81 : decode cX10_mayClimb 81 = .ok (.iaload, 1) := by decide +kernel
theorem dX10_mayClimb_82 : decode cX10_mayClimb 82 = .ok (.isub, 1) := by decide +kernel
theorem dX10_mayClimb_83 : decode cX10_mayClimb 83 = .ok (.iconst 0, 1) := by decide +kernel
theorem dX10_mayClimb_84 : decode cX10_mayClimb 84 = .ok (.iconst 3, 1) := by decide +kernel
theorem dX10_mayClimb_85 : decode cX10_mayClimb 85 = .ok (.invokestatic 72, 3) := by decide +kernel
theorem dX10_mayClimb_88 : decode cX10_mayClimb 88 = .ok (.ifCond .eq 38, 3) := by decide +kernel
theorem dX10_mayClimb_91 : decode cX10_mayClimb 91 = .ok (.aload_n 0, 1) := by decide +kernel
theorem dX10_mayClimb_92 : decode cX10_mayClimb 92 = .ok (.getfield 45, 3) := by decide +kernel
theorem dX10_mayClimb_95 : decode cX10_mayClimb 95 = .ok (.iload_n 1, 1) := by decide +kernel
theorem dX10_mayClimb_96 : decode cX10_mayClimb 96 = .ok (.bipush 6, 2) := by decide +kernel
theorem dX10_mayClimb_98 : decode cX10_mayClimb 98 = .ok (.iadd, 1) := by decide +kernel
theorem dX10_mayClimb_99 : decode cX10_mayClimb 99 = .ok (.iload 4, 2) := by decide +kernel
theorem dX10_mayClimb_101 : decode cX10_mayClimb 101 = .ok (.iadd, 1) := by decide +kernel
theorem dX10_mayClimb_102 : decode cX10_mayClimb 102 = .ok (.iaload, 1) := by decide +kernel
theorem dX10_mayClimb_103 : decode cX10_mayClimb 103 = .ok (.ifCond .le 23, 3) := by decide +kernel
theorem dX10_mayClimb_106 : decode cX10_mayClimb 106 = .ok (.aload_n 0, 1) := by decide +kernel
theorem dX10_mayClimb_107 : decode cX10_mayClimb 107 = .ok (.iload_n 2, 1) := by decide +kernel
theorem dX10_mayClimb_108 : decode cX10_mayClimb 108 = .ok (.iload_n 3, 1) := by decide +kernel
theorem dX10_mayClimb_109 : decode cX10_mayClimb 109 = .ok (.invokevirtual 133, 3) := by decide +kernel
theorem dX10_mayClimb_112 : decode cX10_mayClimb 112 = .ok (.aload_n 0, 1) := by decide +kernel
theorem dX10_mayClimb_113 : decode cX10_mayClimb 113 = .ok (.getfield 36, 3) := by decide +kernel
theorem dX10_mayClimb_116 : decode cX10_mayClimb 116 = .ok (.iload 4, 2) := by decide +kernel
theorem dX10_mayClimb_118 : decode cX10_mayClimb 118 = .ok (.iaload, 1) := by decide +kernel
theorem dX10_mayClimb_119 : decode cX10_mayClimb 119 = .ok (.if_icmp .lt 7, 3) := by decide +kernel
theorem dX10_mayClimb_122 : decode cX10_mayClimb 122 = .ok (.iconst 1, 1) := by decide +kernel
theorem dX10_mayClimb_123 : decode cX10_mayClimb 123 = .ok (.goto 4, 3) := by decide +kernel
theorem dX10_mayClimb_126 : decode cX10_mayClimb 126 = .ok (.iconst 0, 1) := by decide +kernel
theorem dX10_mayClimb_127 : decode cX10_mayClimb 127 = .ok (.ireturn, 1) := by decide +kernel
theorem dX10_picks_0 : decode cX10_picks 0 = .ok (.aload_n 0, 1) := by decide +kernel
theorem dX10_picks_1 : decode cX10_picks 1 = .ok (.getfield 26, 3) := by decide +kernel
theorem dX10_picks_4 : decode cX10_picks 4 = .ok (.iload_n 2, 1) := by decide +kernel
theorem dX10_picks_5 : decode cX10_picks 5 = .ok (.iaload, 1) := by decide +kernel
theorem dX10_picks_6 : decode cX10_picks 6 = .ok (.aload_n 0, 1) := by decide +kernel
theorem dX10_picks_7 : decode cX10_picks 7 = .ok (.getfield 26, 3) := by decide +kernel
theorem dX10_picks_10 : decode cX10_picks 10 = .ok (.iload_n 3, 1) := by decide +kernel
theorem dX10_picks_11 : decode cX10_picks 11 = .ok (.iaload, 1) := by decide +kernel
theorem dX10_picks_12 : decode cX10_picks 12 = .ok (.iadd, 1) := by decide +kernel
theorem dX10_picks_13 : decode cX10_picks 13 = .ok (.istore 5, 2) := by decide +kernel
theorem dX10_picks_15 : decode cX10_picks 15 = .ok (.iload 5, 2) := by decide +kernel
theorem dX10_picks_17 : decode cX10_picks 17 = .ok (.aload_n 0, 1) := by decide +kernel
theorem dX10_picks_18 : decode cX10_picks 18 = .ok (.getfield 45, 3) := by decide +kernel
theorem dX10_picks_21 : decode cX10_picks 21 = .ok (.iload_n 1, 1) := by decide +kernel
theorem dX10_picks_22 : decode cX10_picks 22 = .ok (.bipush 6, 2) := by decide +kernel
theorem dX10_picks_24 : decode cX10_picks 24 = .ok (.iadd, 1) := by decide +kernel
theorem dX10_picks_25 : decode cX10_picks 25 = .ok (.iload 4, 2) := by decide +kernel
theorem dX10_picks_27 : decode cX10_picks 27 = .ok (.iadd, 1) := by decide +kernel
theorem dX10_picks_28 : decode cX10_picks 28 = .ok (.iaload, 1) := by decide +kernel
theorem dX10_picks_29 : decode cX10_picks 29 = .ok (.if_icmp .ge 8, 3) := by decide +kernel
theorem dX10_picks_32 : decode cX10_picks 32 = .ok (.iload 5, 2) := by decide +kernel
theorem dX10_picks_34 : decode cX10_picks 34 = .ok (.goto 15, 3) := by decide +kernel
theorem dX10_picks_37 : decode cX10_picks 37 = .ok (.aload_n 0, 1) := by decide +kernel
theorem dX10_picks_38 : decode cX10_picks 38 = .ok (.getfield 45, 3) := by decide +kernel
theorem dX10_picks_41 : decode cX10_picks 41 = .ok (.iload_n 1, 1) := by decide +kernel
theorem dX10_picks_42 : decode cX10_picks 42 = .ok (.bipush 6, 2) := by decide +kernel
theorem dX10_picks_44 : decode cX10_picks 44 = .ok (.iadd, 1) := by decide +kernel
theorem dX10_picks_45 : decode cX10_picks 45 = .ok (.iload 4, 2) := by decide +kernel
theorem dX10_picks_47 : decode cX10_picks 47 = .ok (.iadd, 1) := by decide +kernel
theorem dX10_picks_48 : decode cX10_picks 48 = .ok (.iaload, 1) := by decide +kernel
theorem dX10_picks_49 : decode cX10_picks 49 = .ok (.ireturn, 1) := by decide +kernel
set_option maxRecDepth 20000 in
theorem ggX10_climbs_X10_picks : GoodIn wsX10_climbs wsX10_picks := goodIn_r _ [6, 7, 1, 8, 9, 10, 11, 12, 13, 14, 15, 16, 17, 18, 19, 20, 21, 22, 23, 24, 25, 26, 27, 28, 29, 30, 31, 32, 33, 34] (by decide +kernel) (by decide +kernel)
set_option maxRecDepth 20000 in
theorem gX10_climbs_X10_picks : GoodIn wsX10_climbs (wsV RX10 136 RX10 yX10_picks wsX10_picks) := goodIn_app (goodIn_of _ (by decide +kernel)) ggX10_climbs_X10_picks
theorem dX10_climbs_0 : decode cX10_climbs 0 = .ok (.aload_n 0, 1) := by decide +kernel
theorem dX10_climbs_1 : decode cX10_climbs 1 = .ok (.iload_n 1, 1) := by decide +kernel
theorem dX10_climbs_2 : decode cX10_climbs 2 = .ok (.iload_n 2, 1) := by decide +kernel
theorem dX10_climbs_3 : decode cX10_climbs 3 = .ok (.iload_n 3, 1) := by decide +kernel
theorem dX10_climbs_4 : decode cX10_climbs 4 = .ok (.iload 4, 2) := by decide +kernel
theorem dX10_climbs_6 : decode cX10_climbs 6 = .ok (.invokevirtual 136, 3) := by decide +kernel
theorem dX10_climbs_9 : decode cX10_climbs 9 = .ok (.istore 5, 2) := by decide +kernel
theorem dX10_climbs_11 : decode cX10_climbs 11 = .ok (.aload_n 0, 1) := by decide +kernel
theorem dX10_climbs_12 : decode cX10_climbs 12 = .ok (.getfield 45, 3) := by decide +kernel
theorem dX10_climbs_15 : decode cX10_climbs 15 = .ok (.iload_n 1, 1) := by decide +kernel
theorem dX10_climbs_16 : decode cX10_climbs 16 = .ok (.bipush 6, 2) := by decide +kernel
theorem dX10_climbs_18 : decode cX10_climbs 18 = .ok (.iadd, 1) := by decide +kernel
theorem dX10_climbs_19 : decode cX10_climbs 19 = .ok (.iload 4, 2) := by decide +kernel
theorem dX10_climbs_21 : decode cX10_climbs 21 = .ok (.iadd, 1) := by decide +kernel
theorem dX10_climbs_22 : decode cX10_climbs 22 = .ok (.dup2, 1) := by decide +kernel
theorem dX10_climbs_23 : decode cX10_climbs 23 = .ok (.iaload, 1) := by decide +kernel
theorem dX10_climbs_24 : decode cX10_climbs 24 = .ok (.iload 5, 2) := by decide +kernel
theorem dX10_climbs_26 : decode cX10_climbs 26 = .ok (.isub, 1) := by decide +kernel
theorem dX10_climbs_27 : decode cX10_climbs 27 = .ok (.iastore, 1) := by decide +kernel
theorem dX10_climbs_28 : decode cX10_climbs 28 = .ok (.aload_n 0, 1) := by decide +kernel
theorem dX10_climbs_29 : decode cX10_climbs 29 = .ok (.getfield 45, 3) := by decide +kernel
theorem dX10_climbs_32 : decode cX10_climbs 32 = .ok (.iload_n 1, 1) := by decide +kernel
theorem dX10_climbs_33 : decode cX10_climbs 33 = .ok (.iconst 1, 1) := by decide +kernel
theorem dX10_climbs_34 : decode cX10_climbs 34 = .ok (.iadd, 1) := by decide +kernel
theorem dX10_climbs_35 : decode cX10_climbs 35 = .ok (.dup2, 1) := by decide +kernel
theorem dX10_climbs_36 : decode cX10_climbs 36 = .ok (.iaload, 1) := by decide +kernel
theorem dX10_climbs_37 : decode cX10_climbs 37 = .ok (.iload 5, 2) := by decide +kernel
theorem dX10_climbs_39 : decode cX10_climbs 39 = .ok (.iadd, 1) := by decide +kernel
theorem dX10_climbs_40 : decode cX10_climbs 40 = .ok (.iastore, 1) := by decide +kernel
theorem dX10_climbs_41 : decode cX10_climbs 41 = .ok (.aload_n 0, 1) := by decide +kernel
theorem dX10_climbs_42 : decode cX10_climbs 42 = .ok (.getfield 45, 3) := by decide +kernel
theorem dX10_climbs_45 : decode cX10_climbs 45 = .ok (.iload_n 1, 1) := by decide +kernel
theorem dX10_climbs_46 : decode cX10_climbs 46 = .ok (.iconst 3, 1) := by decide +kernel
theorem dX10_climbs_47 : decode cX10_climbs 47 = .ok (.iadd, 1) := by decide +kernel
theorem dX10_climbs_48 : decode cX10_climbs 48 = .ok (.dup2, 1) := by decide +kernel
theorem dX10_climbs_49 : decode cX10_climbs 49 = .ok (.iaload, 1) := by decide +kernel
theorem dX10_climbs_50 : decode cX10_climbs 50 = .ok (.iconst 1, 1) := by decide +kernel
theorem dX10_climbs_51 : decode cX10_climbs 51 = .ok (.iload_n 2, 1) := by decide +kernel
theorem dX10_climbs_52 : decode cX10_climbs 52 = .ok (.ishl, 1) := by decide +kernel
theorem dX10_climbs_53 : decode cX10_climbs 53 = .ok (.iconst 1, 1) := by decide +kernel
theorem dX10_climbs_54 : decode cX10_climbs 54 = .ok (.iload_n 3, 1) := by decide +kernel
theorem dX10_climbs_55 : decode cX10_climbs 55 = .ok (.ishl, 1) := by decide +kernel
theorem dX10_climbs_56 : decode cX10_climbs 56 = .ok (.ior, 1) := by decide +kernel
theorem dX10_climbs_57 : decode cX10_climbs 57 = .ok (.ior, 1) := by decide +kernel
theorem dX10_climbs_58 : decode cX10_climbs 58 = .ok (.iastore, 1) := by decide +kernel
theorem dX10_climbs_59 : decode cX10_climbs 59 = .ok (.aload_n 0, 1) := by decide +kernel
theorem dX10_climbs_60 : decode cX10_climbs 60 = .ok (.getfield 45, 3) := by decide +kernel
theorem dX10_climbs_63 : decode cX10_climbs 63 = .ok (.iload_n 1, 1) := by decide +kernel
theorem dX10_climbs_64 : decode cX10_climbs 64 = .ok (.iconst 4, 1) := by decide +kernel
theorem dX10_climbs_65 : decode cX10_climbs 65 = .ok (.iadd, 1) := by decide +kernel
theorem dX10_climbs_66 : decode cX10_climbs 66 = .ok (.dup2, 1) := by decide +kernel
theorem dX10_climbs_67 : decode cX10_climbs 67 = .ok (.iaload, 1) := by decide +kernel
theorem dX10_climbs_68 : decode cX10_climbs 68 = .ok (.iconst 1, 1) := by decide +kernel
theorem dX10_climbs_69 : decode cX10_climbs 69 = .ok (.iload 4, 2) := by decide +kernel
theorem dX10_climbs_71 : decode cX10_climbs 71 = .ok (.ishl, 1) := by decide +kernel
theorem dX10_climbs_72 : decode cX10_climbs 72 = .ok (.ior, 1) := by decide +kernel
theorem dX10_climbs_73 : decode cX10_climbs 73 = .ok (.iastore, 1) := by decide +kernel
theorem dX10_climbs_74 : decode cX10_climbs 74 = .ok (.iload 5, 2) := by decide +kernel
theorem dX10_climbs_76 : decode cX10_climbs 76 = .ok (.ireturn, 1) := by decide +kernel
theorem dX10_endDay_0 : decode cX10_endDay 0 = .ok (.aload_n 0, 1) := by decide +kernel
theorem dX10_endDay_1 : decode cX10_endDay 1 = .ok (.getfield 45, 3) := by decide +kernel
theorem dX10_endDay_4 : decode cX10_endDay 4 = .ok (.iload_n 1, 1) := by decide +kernel
theorem dX10_endDay_5 : decode cX10_endDay 5 = .ok (.iconst 0, 1) := by decide +kernel
theorem dX10_endDay_6 : decode cX10_endDay 6 = .ok (.iadd, 1) := by decide +kernel
theorem dX10_endDay_7 : decode cX10_endDay 7 = .ok (.dup2, 1) := by decide +kernel
theorem dX10_endDay_8 : decode cX10_endDay 8 = .ok (.iaload, 1) := by decide +kernel
theorem dX10_endDay_9 : decode cX10_endDay 9 = .ok (.iconst 1, 1) := by decide +kernel
theorem dX10_endDay_10 : decode cX10_endDay 10 = .ok (.iadd, 1) := by decide +kernel
theorem dX10_endDay_11 : decode cX10_endDay 11 = .ok (.iastore, 1) := by decide +kernel
theorem dX10_endDay_12 : decode cX10_endDay 12 = .ok (.aload_n 0, 1) := by decide +kernel
theorem dX10_endDay_13 : decode cX10_endDay 13 = .ok (.getfield 45, 3) := by decide +kernel
theorem dX10_endDay_16 : decode cX10_endDay 16 = .ok (.iload_n 1, 1) := by decide +kernel
theorem dX10_endDay_17 : decode cX10_endDay 17 = .ok (.iconst 3, 1) := by decide +kernel
theorem dX10_endDay_18 : decode cX10_endDay 18 = .ok (.iadd, 1) := by decide +kernel
theorem dX10_endDay_19 : decode cX10_endDay 19 = .ok (.iconst 0, 1) := by decide +kernel
theorem dX10_endDay_20 : decode cX10_endDay 20 = .ok (.iastore, 1) := by decide +kernel
theorem dX10_endDay_21 : decode cX10_endDay 21 = .ok (.aload_n 0, 1) := by decide +kernel
theorem dX10_endDay_22 : decode cX10_endDay 22 = .ok (.getfield 45, 3) := by decide +kernel
theorem dX10_endDay_25 : decode cX10_endDay 25 = .ok (.iload_n 1, 1) := by decide +kernel
theorem dX10_endDay_26 : decode cX10_endDay 26 = .ok (.iconst 4, 1) := by decide +kernel
theorem dX10_endDay_27 : decode cX10_endDay 27 = .ok (.iadd, 1) := by decide +kernel
theorem dX10_endDay_28 : decode cX10_endDay 28 = .ok (.iconst 0, 1) := by decide +kernel
theorem dX10_endDay_29 : decode cX10_endDay 29 = .ok (.iastore, 1) := by decide +kernel
theorem dX10_endDay_30 : decode cX10_endDay 30 = .ok (.iconst 0, 1) := by decide +kernel
theorem dX10_endDay_31 : decode cX10_endDay 31 = .ok (.istore_n 2, 1) := by decide +kernel
theorem dX10_endDay_32 : decode cX10_endDay 32 = .ok (.iconst 0, 1) := by decide +kernel
theorem dX10_endDay_33 : decode cX10_endDay 33 = .ok (.istore_n 3, 1) := by decide +kernel
theorem dX10_endDay_34 : decode cX10_endDay 34 = .ok (.iload_n 3, 1) := by decide +kernel
theorem dX10_endDay_35 : decode cX10_endDay 35 = .ok (.aload_n 0, 1) := by decide +kernel
theorem dX10_endDay_36 : decode cX10_endDay 36 = .ok (.getfield 33, 3) := by decide +kernel
theorem dX10_endDay_39 : decode cX10_endDay 39 = .ok (.iconst 0, 1) := by decide +kernel
theorem dX10_endDay_40 : decode cX10_endDay 40 = .ok (.iaload, 1) := by decide +kernel
theorem dX10_endDay_41 : decode cX10_endDay 41 = .ok (.if_icmp .ge 54, 3) := by decide +kernel
theorem dX10_endDay_44 : decode cX10_endDay 44 = .ok (.aload_n 0, 1) := by decide +kernel
theorem dX10_endDay_45 : decode cX10_endDay 45 = .ok (.getfield 45, 3) := by decide +kernel
theorem dX10_endDay_48 : decode cX10_endDay 48 = .ok (.iload_n 1, 1) := by decide +kernel
theorem dX10_endDay_49 : decode cX10_endDay 49 = .ok (.iconst 0, 1) := by decide +kernel
theorem dX10_endDay_50 : decode cX10_endDay 50 = .ok (.iadd, 1) := by decide +kernel
theorem dX10_endDay_51 : decode cX10_endDay 51 = .ok (.iaload, 1) := by decide +kernel
theorem dX10_endDay_52 : decode cX10_endDay 52 = .ok (.aload_n 0, 1) := by decide +kernel
theorem dX10_endDay_53 : decode cX10_endDay 53 = .ok (.getfield 39, 3) := by decide +kernel
theorem dX10_endDay_56 : decode cX10_endDay 56 = .ok (.iload_n 3, 1) := by decide +kernel
theorem dX10_endDay_57 : decode cX10_endDay 57 = .ok (.iaload, 1) := by decide +kernel
theorem dX10_endDay_58 : decode cX10_endDay 58 = .ok (.iconst 3, 1) := by decide +kernel
theorem dX10_endDay_59 : decode cX10_endDay 59 = .ok (.iadd, 1) := by decide +kernel
theorem dX10_endDay_60 : decode cX10_endDay 60 = .ok (.if_icmp .le 29, 3) := by decide +kernel
theorem dX10_endDay_63 : decode cX10_endDay 63 = .ok (.iload_n 2, 1) := by decide +kernel
theorem dX10_endDay_64 : decode cX10_endDay 64 = .ok (.aload_n 0, 1) := by decide +kernel
theorem dX10_endDay_65 : decode cX10_endDay 65 = .ok (.getfield 45, 3) := by decide +kernel
theorem dX10_endDay_68 : decode cX10_endDay 68 = .ok (.iload_n 1, 1) := by decide +kernel
theorem dX10_endDay_69 : decode cX10_endDay 69 = .ok (.bipush 6, 2) := by decide +kernel
theorem dX10_endDay_71 : decode cX10_endDay 71 = .ok (.iadd, 1) := by decide +kernel
theorem dX10_endDay_72 : decode cX10_endDay 72 = .ok (.iload_n 3, 1) := by decide +kernel
theorem dX10_endDay_73 : decode cX10_endDay 73 = .ok (.iadd, 1) := by decide +kernel
theorem dX10_endDay_74 : decode cX10_endDay 74 = .ok (.iaload, 1) := by decide +kernel
theorem dX10_endDay_75 : decode cX10_endDay 75 = .ok (.iadd, 1) := by decide +kernel
theorem dX10_endDay_76 : decode cX10_endDay 76 = .ok (.istore_n 2, 1) := by decide +kernel
theorem dX10_endDay_77 : decode cX10_endDay 77 = .ok (.aload_n 0, 1) := by decide +kernel
theorem dX10_endDay_78 : decode cX10_endDay 78 = .ok (.getfield 45, 3) := by decide +kernel
theorem dX10_endDay_81 : decode cX10_endDay 81 = .ok (.iload_n 1, 1) := by decide +kernel
theorem dX10_endDay_82 : decode cX10_endDay 82 = .ok (.bipush 6, 2) := by decide +kernel
theorem dX10_endDay_84 : decode cX10_endDay 84 = .ok (.iadd, 1) := by decide +kernel
theorem dX10_endDay_85 : decode cX10_endDay 85 = .ok (.iload_n 3, 1) := by decide +kernel
theorem dX10_endDay_86 : decode cX10_endDay 86 = .ok (.iadd, 1) := by decide +kernel
theorem dX10_endDay_87 : decode cX10_endDay 87 = .ok (.iconst 0, 1) := by decide +kernel
theorem dX10_endDay_88 : decode cX10_endDay 88 = .ok (.iastore, 1) := by decide +kernel
theorem dX10_endDay_89 : decode cX10_endDay 89 = .ok (.iinc 3 1, 3) := by decide +kernel
theorem dX10_endDay_92 : decode cX10_endDay 92 = .ok (.goto (-58), 3) := by decide +kernel
theorem dX10_endDay_95 : decode cX10_endDay 95 = .ok (.aload_n 0, 1) := by decide +kernel
theorem dX10_endDay_96 : decode cX10_endDay 96 = .ok (.getfield 45, 3) := by decide +kernel
theorem dX10_endDay_99 : decode cX10_endDay 99 = .ok (.iload_n 1, 1) := by decide +kernel
theorem dX10_endDay_100 : decode cX10_endDay 100 = .ok (.iconst 2, 1) := by decide +kernel
theorem dX10_endDay_101 : decode cX10_endDay 101 = .ok (.iadd, 1) := by decide +kernel
theorem dX10_endDay_102 : decode cX10_endDay 102 = .ok (.dup2, 1) := by decide +kernel
theorem dX10_endDay_103 : decode cX10_endDay 103 = .ok (.iaload, 1) := by decide +kernel
theorem dX10_endDay_104 : decode cX10_endDay 104 = .ok (.iload_n 2, 1) := by decide +kernel
theorem dX10_endDay_105 : decode cX10_endDay 105 = .ok (.iadd, 1) := by decide +kernel
theorem dX10_endDay_106 : decode cX10_endDay 106 = .ok (.iastore, 1) := by decide +kernel
theorem dX10_endDay_107 : decode cX10_endDay 107 = .ok (.iload_n 2, 1) := by decide +kernel
theorem dX10_endDay_108 : decode cX10_endDay 108 = .ok (.ireturn, 1) := by decide +kernel
set_option maxRecDepth 20000 in
theorem ggX10_climb_X10_isOne : GoodIn wsX10_climb wsX10_isOne := goodIn_r _ [5, 6, 7, 8, 4, 9, 43, 44, 45, 46, 47, 48, 49, 50, 51, 52, 53, 54, 55, 56, 57, 58, 59, 60, 61, 62, 63, 64, 65, 66, 67, 68, 69] (by decide +kernel) (by decide +kernel)
set_option maxRecDepth 20000 in
theorem gX10_climb_X10_isOne : GoodIn wsX10_climb (wsV RX10 122 RX10 yX10_isOne wsX10_isOne) := goodIn_app (goodIn_of _ (by decide +kernel)) ggX10_climb_X10_isOne
set_option maxRecDepth 20000 in
theorem ggX10_climb_X10_isTree : GoodIn wsX10_climb wsX10_isTree := goodIn_r _ [13, 14, 7, 8, 4, 9, 43, 44, 45, 46, 47, 48, 49, 50, 51, 52, 53, 54, 55, 56, 57, 58, 59, 60, 61, 62, 63, 64, 65, 66, 67, 68, 69] (by decide +kernel) (by decide +kernel)
set_option maxRecDepth 20000 in
theorem gX10_climb_X10_isTree : GoodIn wsX10_climb (wsV RX10 126 RX10 yX10_isTree wsX10_isTree) := goodIn_app (goodIn_of _ (by decide +kernel)) ggX10_climb_X10_isTree
set_option maxRecDepth 20000 in
theorem ggX10_climb_X10_mayClimb : GoodIn wsX10_climb wsX10_mayClimb := goodIn_r _ [18, 19, 20, 21, 22, 23, 24, 4, 25, 26, 27, 28, 7, 8, 9, 29, 30, 31, 32, 33, 43, 44, 45, 46, 47, 48, 49, 50, 51, 52, 53, 54, 55, 56, 57, 58, 59, 60, 61, 62, 63, 64, 65, 66, 67, 68, 69] (by decide +kernel) (by decide +kernel)
set_option maxRecDepth 20000 in
theorem gX10_climb_X10_mayClimb : GoodIn wsX10_climb (wsV RX10 140 RX10 yX10_mayClimb wsX10_mayClimb) := goodIn_app (goodIn_of _ (by decide +kernel)) ggX10_climb_X10_mayClimb
set_option maxRecDepth 20000 in
theorem ggX10_climb_X10_climbs : GoodIn wsX10_climb wsX10_climbs := goodIn_r _ [37, 19, 38, 39, 40, 4, 41, 42, 43, 44, 45, 46, 47, 48, 49, 50, 51, 52, 53, 54, 55, 56, 57, 58, 59, 60, 61, 62, 63, 64, 65, 66, 67, 68, 69] (by decide +kernel) (by decide +kernel)
set_option maxRecDepth 20000 in
theorem gX10_climb_X10_climbs : GoodIn wsX10_climb (wsV RX10 144 RX10 yX10_climbs wsX10_climbs) := goodIn_app (goodIn_of _ (by decide +kernel)) ggX10_climb_X10_climbs
theorem dX10_climb_0 : decode cX10_climb 0 = .ok (.aload_n 0, 1) := by decide +kernel
theorem dX10_climb_1 : decode cX10_climb 1 = .ok (.iload_n 1, 1) := by decide +kernel
theorem dX10_climb_2 : decode cX10_climb 2 = .ok (.invokevirtual 122, 3) := by decide +kernel
theorem dX10_climb_5 : decode cX10_climb 5 = .ok (.ifCond .eq 24, 3) := by decide +kernel
theorem dX10_climb_8 : decode cX10_climb 8 = .ok (.aload_n 0, 1) := by decide +kernel
theorem dX10_climb_9 : decode cX10_climb 9 = .ok (.iload_n 2, 1) := by decide +kernel
theorem dX10_climb_10 : decode cX10_climb 10 = .ok (.invokevirtual 122, 3) := by decide +kernel
theorem dX10_climb_13 : decode cX10_climb 13 = .ok (.ifCond .eq 16, 3) := by decide +kernel
theorem dX10_climb_16 : decode cX10_climb 16 = .ok (.iload_n 1, 1) := by decide +kernel
theorem dX10_climb_17 : decode cX10_climb 17 = .ok (.iload_n 2, 1) := by decide +kernel
theorem dX10_climb_18 : decode cX10_climb 18 = .ok (.if_icmp .eq 11, 3) := by decide +kernel
theorem dX10_climb_21 : decode cX10_climb 21 = .ok (.aload_n 0, 1) := by decide +kernel
theorem dX10_climb_22 : decode cX10_climb 22 = .ok (.iload_n 3, 1) := by decide +kernel
theorem dX10_climb_23 : decode cX10_climb 23 = .ok (.invokevirtual 126, 3) := by decide +kernel
theorem dX10_climb_26 : decode cX10_climb 26 = .ok (.ifCond .ne 5, 3) := by decide +kernel
theorem dX10_climb_29 : decode cX10_climb 29 = .ok (.iconst (-1), 1) := by decide +kernel
theorem dX10_climb_30 : decode cX10_climb 30 = .ok (.ireturn, 1) := by decide +kernel
theorem dX10_climb_31 : decode cX10_climb 31 = .ok (.aload_n 0, 1) := by decide +kernel
theorem dX10_climb_32 : decode cX10_climb 32 = .ok (.iconst 0, 1) := by decide +kernel
theorem dX10_climb_33 : decode cX10_climb 33 = .ok (.iload_n 1, 1) := by decide +kernel
theorem dX10_climb_34 : decode cX10_climb 34 = .ok (.iload_n 2, 1) := by decide +kernel
theorem dX10_climb_35 : decode cX10_climb 35 = .ok (.iload_n 3, 1) := by decide +kernel
theorem dX10_climb_36 : decode cX10_climb 36 = .ok (.invokevirtual 140, 3) := by decide +kernel
theorem dX10_climb_39 : decode cX10_climb 39 = .ok (.ifCond .eq 14, 3) := by decide +kernel
theorem dX10_climb_42 : decode cX10_climb 42 = .ok (.aload_n 0, 1) := by decide +kernel
theorem dX10_climb_43 : decode cX10_climb 43 = .ok (.iconst 0, 1) := by decide +kernel
theorem dX10_climb_44 : decode cX10_climb 44 = .ok (.iload_n 1, 1) := by decide +kernel
theorem dX10_climb_45 : decode cX10_climb 45 = .ok (.iload_n 2, 1) := by decide +kernel
theorem dX10_climb_46 : decode cX10_climb 46 = .ok (.iload_n 3, 1) := by decide +kernel
theorem dX10_climb_47 : decode cX10_climb 47 = .ok (.invokevirtual 144, 3) := by decide +kernel
theorem dX10_climb_50 : decode cX10_climb 50 = .ok (.goto 5, 3) := by decide +kernel
theorem dX10_climb_53 : decode cX10_climb 53 = .ok (.bipush (-2), 2) := by decide +kernel
theorem dX10_climb_55 : decode cX10_climb 55 = .ok (.ireturn, 1) := by decide +kernel
set_option maxRecDepth 20000 in
theorem ggX10_ends_X10_endDay : GoodIn wsX10_ends wsX10_endDay := goodIn_r _ [6, 1, 7, 8, 9, 10, 11, 12, 13, 14, 15, 16, 17, 18, 19, 20, 21, 22, 23, 24, 25, 26, 27, 28, 29, 30, 31, 32, 33, 34, 35] (by decide +kernel) (by decide +kernel)
set_option maxRecDepth 20000 in
theorem gX10_ends_X10_endDay : GoodIn wsX10_ends (wsV RX10 147 RX10 yX10_endDay wsX10_endDay) := goodIn_app (goodIn_of _ (by decide +kernel)) ggX10_ends_X10_endDay
theorem dX10_ends_0 : decode cX10_ends 0 = .ok (.aload_n 0, 1) := by decide +kernel
theorem dX10_ends_1 : decode cX10_ends 1 = .ok (.getfield 45, 3) := by decide +kernel
theorem dX10_ends_4 : decode cX10_ends 4 = .ok (.iconst 0, 1) := by decide +kernel
theorem dX10_ends_5 : decode cX10_ends 5 = .ok (.iaload, 1) := by decide +kernel
theorem dX10_ends_6 : decode cX10_ends 6 = .ok (.bipush 30, 2) := by decide +kernel
theorem dX10_ends_8 : decode cX10_ends 8 = .ok (.if_icmp .ne 8, 3) := by decide +kernel
theorem dX10_ends_11 : decode cX10_ends 11 = .ok (.bipush (-2), 2) := by decide +kernel
theorem dX10_ends_13 : decode cX10_ends 13 = .ok (.goto 8, 3) := by decide +kernel
theorem dX10_ends_16 : decode cX10_ends 16 = .ok (.aload_n 0, 1) := by decide +kernel
theorem dX10_ends_17 : decode cX10_ends 17 = .ok (.iconst 0, 1) := by decide +kernel
theorem dX10_ends_18 : decode cX10_ends 18 = .ok (.invokevirtual 147, 3) := by decide +kernel
theorem dX10_ends_21 : decode cX10_ends 21 = .ok (.ireturn, 1) := by decide +kernel
theorem dX10_now_0 : decode cX10_now 0 = .ok (.iconst 0, 1) := by decide +kernel
theorem dX10_now_1 : decode cX10_now 1 = .ok (.istore_n 2, 1) := by decide +kernel
theorem dX10_now_2 : decode cX10_now 2 = .ok (.iconst 0, 1) := by decide +kernel
theorem dX10_now_3 : decode cX10_now 3 = .ok (.istore_n 3, 1) := by decide +kernel
theorem dX10_now_4 : decode cX10_now 4 = .ok (.iload_n 3, 1) := by decide +kernel
theorem dX10_now_5 : decode cX10_now 5 = .ok (.aload_n 0, 1) := by decide +kernel
theorem dX10_now_6 : decode cX10_now 6 = .ok (.getfield 33, 3) := by decide +kernel
theorem dX10_now_9 : decode cX10_now 9 = .ok (.iconst 0, 1) := by decide +kernel
theorem dX10_now_10 : decode cX10_now 10 = .ok (.iaload, 1) := by decide +kernel
theorem dX10_now_11 : decode cX10_now 11 = .ok (.if_icmp .ge 21, 3) := by decide +kernel
theorem dX10_now_14 : decode cX10_now 14 = .ok (.iload_n 2, 1) := by decide +kernel
theorem dX10_now_15 : decode cX10_now 15 = .ok (.aload_n 0, 1) := by decide +kernel
theorem dX10_now_16 : decode cX10_now 16 = .ok (.getfield 45, 3) := by decide +kernel
theorem dX10_now_19 : decode cX10_now 19 = .ok (.bipush 6, 2) := by decide +kernel
theorem dX10_now_21 : decode cX10_now 21 = .ok (.iload_n 3, 1) := by decide +kernel
theorem dX10_now_22 : decode cX10_now 22 = .ok (.iadd, 1) := by decide +kernel
theorem dX10_now_23 : decode cX10_now 23 = .ok (.iaload, 1) := by decide +kernel
theorem dX10_now_24 : decode cX10_now 24 = .ok (.iadd, 1) := by decide +kernel
theorem dX10_now_25 : decode cX10_now 25 = .ok (.istore_n 2, 1) := by decide +kernel
theorem dX10_now_26 : decode cX10_now 26 = .ok (.iinc 3 1, 3) := by decide +kernel
theorem dX10_now_29 : decode cX10_now 29 = .ok (.goto (-25), 3) := by decide +kernel
theorem dX10_now_32 : decode cX10_now 32 = .ok (.iload_n 1, 1) := by decide +kernel
theorem dX10_now_33 : decode cX10_now 33 = .ok (.ifCond .ne 12, 3) := by decide +kernel
theorem dX10_now_36 : decode cX10_now 36 = .ok (.aload_n 0, 1) := by decide +kernel
theorem dX10_now_37 : decode cX10_now 37 = .ok (.getfield 45, 3) := by decide +kernel
theorem dX10_now_40 : decode cX10_now 40 = .ok (.iconst 0, 1) := by decide +kernel
theorem dX10_now_41 : decode cX10_now 41 = .ok (.iaload, 1) := by decide +kernel
theorem dX10_now_42 : decode cX10_now 42 = .ok (.goto 55, 3) := by decide +kernel
theorem dX10_now_45 : decode cX10_now 45 = .ok (.iload_n 1, 1) := by decide +kernel
theorem dX10_now_46 : decode cX10_now 46 = .ok (.iconst 1, 1) := by decide +kernel
theorem dX10_now_47 : decode cX10_now 47 = .ok (.if_icmp .ne 12, 3) := by decide +kernel
theorem dX10_now_50 : decode cX10_now 50 = .ok (.aload_n 0, 1) := by decide +kernel
theorem dX10_now_51 : decode cX10_now 51 = .ok (.getfield 45, 3) := by decide +kernel
theorem dX10_now_54 : decode cX10_now 54 = .ok (.iconst 1, 1) := by decide +kernel
theorem dX10_now_55 : decode cX10_now 55 = .ok (.iaload, 1) := by decide +kernel
theorem dX10_now_56 : decode cX10_now 56 = .ok (.goto 41, 3) := by decide +kernel
theorem dX10_now_59 : decode cX10_now 59 = .ok (.iload_n 1, 1) := by decide +kernel
theorem dX10_now_60 : decode cX10_now 60 = .ok (.iconst 2, 1) := by decide +kernel
theorem dX10_now_61 : decode cX10_now 61 = .ok (.if_icmp .ne 12, 3) := by decide +kernel
theorem dX10_now_64 : decode cX10_now 64 = .ok (.aload_n 0, 1) := by decide +kernel
theorem dX10_now_65 : decode cX10_now 65 = .ok (.getfield 45, 3) := by decide +kernel
theorem dX10_now_68 : decode cX10_now 68 = .ok (.iconst 2, 1) := by decide +kernel
theorem dX10_now_69 : decode cX10_now 69 = .ok (.iaload, 1) := by decide +kernel
theorem dX10_now_70 : decode cX10_now 70 = .ok (.goto 27, 3) := by decide +kernel
theorem dX10_now_73 : decode cX10_now 73 = .ok (.iload_n 1, 1) := by decide +kernel
theorem dX10_now_74 : decode cX10_now 74 = .ok (.iconst 3, 1) := by decide +kernel
theorem dX10_now_75 : decode cX10_now 75 = .ok (.if_icmp .ne 7, 3) := by decide +kernel
theorem dX10_now_78 : decode cX10_now 78 = .ok (.iload_n 2, 1) := by decide +kernel
theorem dX10_now_79 : decode cX10_now 79 = .ok (.goto 18, 3) := by decide +kernel
theorem dX10_now_82 : decode cX10_now 82 = .ok (.iload_n 1, 1) := by decide +kernel
theorem dX10_now_83 : decode cX10_now 83 = .ok (.iconst 4, 1) := by decide +kernel
theorem dX10_now_84 : decode cX10_now 84 = .ok (.if_icmp .ne 12, 3) := by decide +kernel
theorem dX10_now_87 : decode cX10_now 87 = .ok (.aload_n 0, 1) := by decide +kernel
theorem dX10_now_88 : decode cX10_now 88 = .ok (.getfield 45, 3) := by decide +kernel
theorem dX10_now_91 : decode cX10_now 91 = .ok (.iconst 3, 1) := by decide +kernel
theorem dX10_now_92 : decode cX10_now 92 = .ok (.iaload, 1) := by decide +kernel
theorem dX10_now_93 : decode cX10_now 93 = .ok (.goto 4, 3) := by decide +kernel
theorem dX10_now_96 : decode cX10_now 96 = .ok (.iconst (-1), 1) := by decide +kernel
theorem dX10_now_97 : decode cX10_now 97 = .ok (.ireturn, 1) := by decide +kernel
set_option maxRecDepth 20000 in
theorem ggX10_year_X10_begin : GoodIn wsX10_year wsX10_begin := goodIn_r _ [9, 2, 10, 11, 12, 13, 14, 15, 16, 17, 18, 19, 20, 21, 22, 23, 24, 25, 26, 27, 28, 29, 30, 31, 32, 33, 34, 35, 36] (by decide +kernel) (by decide +kernel)
set_option maxRecDepth 20000 in
theorem gX10_year_X10_begin : GoodIn wsX10_year (wsV RX10 119 RX10 yX10_begin wsX10_begin) := goodIn_app (goodIn_of _ (by decide +kernel)) ggX10_year_X10_begin
theorem dX10_year_0 : decode cX10_year 0 = .ok (.aload_n 0, 1) := by decide +kernel
theorem dX10_year_1 : decode cX10_year 1 = .ok (.invokevirtual 119, 3) := by decide +kernel
theorem dX10_year_4 : decode cX10_year 4 = .ok (.iconst 0, 1) := by decide +kernel
theorem dX10_year_5 : decode cX10_year 5 = .ok (.istore_n 1, 1) := by decide +kernel
theorem dX10_year_6 : decode cX10_year 6 = .ok (.iconst 0, 1) := by decide +kernel
theorem dX10_year_7 : decode cX10_year 7 = .ok (.istore_n 2, 1) := by decide +kernel
theorem dX10_year_8 : decode cX10_year 8 = .ok (.iload_n 2, 1) := by decide +kernel
theorem dX10_year_9 : decode cX10_year 9 = .ok (.aload_n 0, 1) := by decide +kernel
theorem dX10_year_10 : decode cX10_year 10 = .ok (.getfield 33, 3) := by decide +kernel
theorem dX10_year_13 : decode cX10_year 13 = .ok (.iconst 0, 1) := by decide +kernel
theorem dX10_year_14 : decode cX10_year 14 = .ok (.iaload, 1) := by decide +kernel
theorem dX10_year_15 : decode cX10_year 15 = .ok (.if_icmp .ge 71, 3) := by decide +kernel
theorem dX10_year_18 : decode cX10_year 18 = .ok (.aload_n 0, 1) := by decide +kernel
theorem dX10_year_19 : decode cX10_year 19 = .ok (.getfield 45, 3) := by decide +kernel
theorem dX10_year_22 : decode cX10_year 22 = .ok (.iconst 5, 1) := by decide +kernel
theorem dX10_year_23 : decode cX10_year 23 = .ok (.aload_n 0, 1) := by decide +kernel
theorem dX10_year_24 : decode cX10_year 24 = .ok (.getfield 45, 3) := by decide +kernel
theorem dX10_year_27 : decode cX10_year 27 = .ok (.iconst 5, 1) := by decide +kernel
theorem dX10_year_28 : decode cX10_year 28 = .ok (.iaload, 1) := by decide +kernel
theorem dX10_year_29 : decode cX10_year 29 = .ok (.ldc 151, 2) := by decide +kernel
theorem dX10_year_31 : decode cX10_year 31 = .ok (.imul, 1) := by decide +kernel
theorem dX10_year_32 : decode cX10_year 32 = .ok (.sipush 12345, 3) := by decide +kernel
theorem dX10_year_35 : decode cX10_year 35 = .ok (.iadd, 1) := by decide +kernel
theorem dX10_year_36 : decode cX10_year 36 = .ok (.iastore, 1) := by decide +kernel
theorem dX10_year_37 : decode cX10_year 37 = .ok (.aload_n 0, 1) := by decide +kernel
theorem dX10_year_38 : decode cX10_year 38 = .ok (.getfield 45, 3) := by decide +kernel
theorem dX10_year_41 : decode cX10_year 41 = .ok (.bipush 6, 2) := by decide +kernel
theorem dX10_year_43 : decode cX10_year 43 = .ok (.iload_n 2, 1) := by decide +kernel
theorem dX10_year_44 : decode cX10_year 44 = .ok (.iadd, 1) := by decide +kernel
theorem dX10_year_45 : decode cX10_year 45 = .ok (.aload_n 0, 1) := by decide +kernel
theorem dX10_year_46 : decode cX10_year 46 = .ok (.getfield 42, 3) := by decide +kernel
theorem dX10_year_49 : decode cX10_year 49 = .ok (.iload_n 2, 1) := by decide +kernel
theorem dX10_year_50 : decode cX10_year 50 = .ok (.iaload, 1) := by decide +kernel
theorem dX10_year_51 : decode cX10_year 51 = .ok (.aload_n 0, 1) := by decide +kernel
theorem dX10_year_52 : decode cX10_year 52 = .ok (.getfield 45, 3) := by decide +kernel
theorem dX10_year_55 : decode cX10_year 55 = .ok (.iconst 5, 1) := by decide +kernel
theorem dX10_year_56 : decode cX10_year 56 = .ok (.iaload, 1) := by decide +kernel
theorem dX10_year_57 : decode cX10_year 57 = .ok (.bipush 16, 2) := by decide +kernel
theorem dX10_year_59 : decode cX10_year 59 = .ok (.iushr, 1) := by decide +kernel
theorem dX10_year_60 : decode cX10_year 60 = .ok (.bipush 21, 2) := by decide +kernel
theorem dX10_year_62 : decode cX10_year 62 = .ok (.irem, 1) := by decide +kernel
theorem dX10_year_63 : decode cX10_year 63 = .ok (.imul, 1) := by decide +kernel
theorem dX10_year_64 : decode cX10_year 64 = .ok (.bipush 10, 2) := by decide +kernel
theorem dX10_year_66 : decode cX10_year 66 = .ok (.idiv, 1) := by decide +kernel
theorem dX10_year_67 : decode cX10_year 67 = .ok (.iastore, 1) := by decide +kernel
theorem dX10_year_68 : decode cX10_year 68 = .ok (.iload_n 1, 1) := by decide +kernel
theorem dX10_year_69 : decode cX10_year 69 = .ok (.aload_n 0, 1) := by decide +kernel
theorem dX10_year_70 : decode cX10_year 70 = .ok (.getfield 45, 3) := by decide +kernel
theorem dX10_year_73 : decode cX10_year 73 = .ok (.bipush 6, 2) := by decide +kernel
theorem dX10_year_75 : decode cX10_year 75 = .ok (.iload_n 2, 1) := by decide +kernel
theorem dX10_year_76 : decode cX10_year 76 = .ok (.iadd, 1) := by decide +kernel
theorem dX10_year_77 : decode cX10_year 77 = .ok (.iaload, 1) := by decide +kernel
theorem dX10_year_78 : decode cX10_year 78 = .ok (.iadd, 1) := by decide +kernel
theorem dX10_year_79 : decode cX10_year 79 = .ok (.istore_n 1, 1) := by decide +kernel
theorem dX10_year_80 : decode cX10_year 80 = .ok (.iinc 2 1, 3) := by decide +kernel
theorem dX10_year_83 : decode cX10_year 83 = .ok (.goto (-75), 3) := by decide +kernel
theorem dX10_year_86 : decode cX10_year 86 = .ok (.iload_n 1, 1) := by decide +kernel
theorem dX10_year_87 : decode cX10_year 87 = .ok (.ireturn, 1) := by decide +kernel
theorem dX10_lot_0 : decode cX10_lot 0 = .ok (.aload_n 0, 1) := by decide +kernel
theorem dX10_lot_1 : decode cX10_lot 1 = .ok (.getfield 45, 3) := by decide +kernel
theorem dX10_lot_4 : decode cX10_lot 4 = .ok (.iconst 5, 1) := by decide +kernel
theorem dX10_lot_5 : decode cX10_lot 5 = .ok (.iaload, 1) := by decide +kernel
theorem dX10_lot_6 : decode cX10_lot 6 = .ok (.istore_n 2, 1) := by decide +kernel
theorem dX10_lot_7 : decode cX10_lot 7 = .ok (.aload_n 0, 1) := by decide +kernel
theorem dX10_lot_8 : decode cX10_lot 8 = .ok (.getfield 45, 3) := by decide +kernel
theorem dX10_lot_11 : decode cX10_lot 11 = .ok (.iconst 5, 1) := by decide +kernel
theorem dX10_lot_12 : decode cX10_lot 12 = .ok (.iload_n 1, 1) := by decide +kernel
theorem dX10_lot_13 : decode cX10_lot 13 = .ok (.iastore, 1) := by decide +kernel
theorem dX10_lot_14 : decode cX10_lot 14 = .ok (.iload_n 2, 1) := by decide +kernel
theorem dX10_lot_15 : decode cX10_lot 15 = .ok (.ireturn, 1) := by decide +kernel
theorem dX10_leftOf_0 : decode cX10_leftOf 0 = .ok (.iload_n 0, 1) := by decide +kernel
theorem dX10_leftOf_1 : decode cX10_leftOf 1 = .ok (.bipush 10, 2) := by decide +kernel
theorem dX10_leftOf_3 : decode cX10_leftOf 3 = .ok (.idiv, 1) := by decide +kernel
theorem dX10_leftOf_4 : decode cX10_leftOf 4 = .ok (.ireturn, 1) := by decide +kernel
set_option maxRecDepth 20000 in
theorem ggX10_mayPair_X10_isOne : GoodIn wsX10_mayPair wsX10_isOne := goodIn_r _ [6, 7, 8, 9, 5, 10, 29, 30, 31, 32, 33, 34, 35, 36, 37, 38, 39, 40, 41, 42, 43, 44, 45, 46, 47, 48, 49, 50, 51, 52, 53, 54, 55] (by decide +kernel) (by decide +kernel)
set_option maxRecDepth 20000 in
theorem gX10_mayPair_X10_isOne : GoodIn wsX10_mayPair (wsV RX10 122 RX10 yX10_isOne wsX10_isOne) := goodIn_app (goodIn_of _ (by decide +kernel)) ggX10_mayPair_X10_isOne
set_option maxRecDepth 20000 in
theorem ggX10_mayPair_X10_mayClimb : GoodIn wsX10_mayPair wsX10_mayClimb := goodIn_r _ [14, 15, 16, 17, 18, 19, 20, 5, 21, 1, 22, 23, 8, 9, 10, 24, 25, 26, 27, 28, 29, 30, 31, 32, 33, 34, 35, 36, 37, 38, 39, 40, 41, 42, 43, 44, 45, 46, 47, 48, 49, 50, 51, 52, 53, 54, 55] (by decide +kernel) (by decide +kernel)
set_option maxRecDepth 20000 in
theorem gX10_mayPair_X10_mayClimb : GoodIn wsX10_mayPair (wsV RX10 140 RX10 yX10_mayClimb wsX10_mayClimb) := goodIn_app (goodIn_of _ (by decide +kernel)) ggX10_mayPair_X10_mayClimb
theorem dX10_mayPair_0 : decode cX10_mayPair 0 = .ok (.iload_n 2, 1) := by decide +kernel
theorem dX10_mayPair_1 : decode cX10_mayPair 1 = .ok (.bipush 10, 2) := by decide +kernel
theorem dX10_mayPair_3 : decode cX10_mayPair 3 = .ok (.idiv, 1) := by decide +kernel
theorem dX10_mayPair_4 : decode cX10_mayPair 4 = .ok (.istore 5, 2) := by decide +kernel
theorem dX10_mayPair_6 : decode cX10_mayPair 6 = .ok (.iload_n 2, 1) := by decide +kernel
theorem dX10_mayPair_7 : decode cX10_mayPair 7 = .ok (.bipush 10, 2) := by decide +kernel
theorem dX10_mayPair_9 : decode cX10_mayPair 9 = .ok (.irem, 1) := by decide +kernel
theorem dX10_mayPair_10 : decode cX10_mayPair 10 = .ok (.istore 6, 2) := by decide +kernel
theorem dX10_mayPair_12 : decode cX10_mayPair 12 = .ok (.aload_n 0, 1) := by decide +kernel
theorem dX10_mayPair_13 : decode cX10_mayPair 13 = .ok (.iload 5, 2) := by decide +kernel
theorem dX10_mayPair_15 : decode cX10_mayPair 15 = .ok (.invokevirtual 122, 3) := by decide +kernel
theorem dX10_mayPair_18 : decode cX10_mayPair 18 = .ok (.ifCond .eq 70, 3) := by decide +kernel
theorem dX10_mayPair_21 : decode cX10_mayPair 21 = .ok (.aload_n 0, 1) := by decide +kernel
theorem dX10_mayPair_22 : decode cX10_mayPair 22 = .ok (.iload 6, 2) := by decide +kernel
theorem dX10_mayPair_24 : decode cX10_mayPair 24 = .ok (.invokevirtual 122, 3) := by decide +kernel
theorem dX10_mayPair_27 : decode cX10_mayPair 27 = .ok (.ifCond .eq 61, 3) := by decide +kernel
theorem dX10_mayPair_30 : decode cX10_mayPair 30 = .ok (.aload_n 0, 1) := by decide +kernel
theorem dX10_mayPair_31 : decode cX10_mayPair 31 = .ok (.getfield 17, 3) := by decide +kernel
theorem dX10_mayPair_34 : decode cX10_mayPair 34 = .ok (.iload 5, 2) := by decide +kernel
theorem dX10_mayPair_36 : decode cX10_mayPair 36 = .ok (.iaload, 1) := by decide +kernel
theorem dX10_mayPair_37 : decode cX10_mayPair 37 = .ok (.ifCond .ne 51, 3) := by decide +kernel
theorem dX10_mayPair_40 : decode cX10_mayPair 40 = .ok (.aload_n 0, 1) := by decide +kernel
theorem dX10_mayPair_41 : decode cX10_mayPair 41 = .ok (.getfield 17, 3) := by decide +kernel
theorem dX10_mayPair_44 : decode cX10_mayPair 44 = .ok (.iload 6, 2) := by decide +kernel
theorem dX10_mayPair_46 : decode cX10_mayPair 46 = .ok (.iaload, 1) := by decide +kernel
theorem dX10_mayPair_47 : decode cX10_mayPair 47 = .ok (.iconst 1, 1) := by decide +kernel
theorem dX10_mayPair_48 : decode cX10_mayPair 48 = .ok (.if_icmp .ne 40, 3) := by decide +kernel
theorem dX10_mayPair_51 : decode cX10_mayPair 51 = .ok (.iload 4, 2) := by decide +kernel
theorem dX10_mayPair_53 : decode cX10_mayPair 53 = .ok (.iload 5, 2) := by decide +kernel
theorem dX10_mayPair_55 : decode cX10_mayPair 55 = .ok (.ishr, 1) := by decide +kernel
theorem dX10_mayPair_56 : decode cX10_mayPair 56 = .ok (.iconst 1, 1) := by decide +kernel
theorem dX10_mayPair_57 : decode cX10_mayPair 57 = .ok (.iand, 1) := by decide +kernel
theorem dX10_mayPair_58 : decode cX10_mayPair 58 = .ok (.ifCond .ne 30, 3) := by decide +kernel
theorem dX10_mayPair_61 : decode cX10_mayPair 61 = .ok (.iload 4, 2) := by decide +kernel
theorem dX10_mayPair_63 : decode cX10_mayPair 63 = .ok (.iload 6, 2) := by decide +kernel
theorem dX10_mayPair_65 : decode cX10_mayPair 65 = .ok (.ishr, 1) := by decide +kernel
theorem dX10_mayPair_66 : decode cX10_mayPair 66 = .ok (.iconst 1, 1) := by decide +kernel
theorem dX10_mayPair_67 : decode cX10_mayPair 67 = .ok (.iand, 1) := by decide +kernel
theorem dX10_mayPair_68 : decode cX10_mayPair 68 = .ok (.ifCond .ne 20, 3) := by decide +kernel
theorem dX10_mayPair_71 : decode cX10_mayPair 71 = .ok (.aload_n 0, 1) := by decide +kernel
