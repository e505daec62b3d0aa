theorem dX5_canBeTaken_8 : decode cX5_canBeTaken 8 = .ok (.imul, 1) := by decide +kernel
theorem dX5_canBeTaken_9 : decode cX5_canBeTaken 9 = .ok (.if_icmp .gt 22, 3) := by decide +kernel
theorem dX5_canBeTaken_12 : decode cX5_canBeTaken 12 = .ok (.iload_n 3, 1) := by decide +kernel
theorem dX5_canBeTaken_13 : decode cX5_canBeTaken 13 = .ok (.iconst 2, 1) := by decide +kernel
theorem dX5_canBeTaken_14 : decode cX5_canBeTaken 14 = .ok (.iload_n 1, 1) := by decide +kernel
theorem dX5_canBeTaken_15 : decode cX5_canBeTaken 15 = .ok (.aload_n 0, 1) := by decide +kernel
theorem dX5_canBeTaken_16 : decode cX5_canBeTaken 16 = .ok (.getfield 68, 3) := by decide +kernel
theorem dX5_canBeTaken_19 : decode cX5_canBeTaken 19 = .ok (.iand, 1) := by decide +kernel
theorem dX5_canBeTaken_20 : decode cX5_canBeTaken 20 = .ok (.invokestatic 62, 3) := by decide +kernel
theorem dX5_canBeTaken_23 : decode cX5_canBeTaken 23 = .ok (.imul, 1) := by decide +kernel
theorem dX5_canBeTaken_24 : decode cX5_canBeTaken 24 = .ok (.if_icmp .ne 7, 3) := by decide +kernel
theorem dX5_canBeTaken_27 : decode cX5_canBeTaken 27 = .ok (.iconst 1, 1) := by decide +kernel
theorem dX5_canBeTaken_28 : decode cX5_canBeTaken 28 = .ok (.goto 4, 3) := by decide +kernel
theorem dX5_canBeTaken_31 : decode cX5_canBeTaken 31 = .ok (.iconst 0, 1) := by decide +kernel
theorem dX5_canBeTaken_32 : decode cX5_canBeTaken 32 = .ok (.ireturn, 1) := by decide +kernel
set_option maxRecDepth 20000 in
theorem ggX5_mostFrom_X5_canClimb : GoodIn wsX5_mostFrom wsX5_canClimb := goodIn_r _ [11, 12, 13, 18, 19, 20, 21, 22, 23, 24, 25, 26, 27, 28] (by decide +kernel) (by decide +kernel)
set_option maxRecDepth 20000 in
theorem gX5_mostFrom_X5_canClimb : GoodIn wsX5_mostFrom (wsV RX5 71 RX5 yX5_canClimb wsX5_canClimb) := goodIn_app (goodIn_of _ (by decide +kernel)) ggX5_mostFrom_X5_canClimb
set_option maxRecDepth 20000 in
theorem ggX5_mostFrom_X5_with : GoodIn wsX5_mostFrom wsX5_with := goodIn_r _ [17, 12, 1, 13, 18, 19, 20, 21, 22, 23, 24, 25, 26, 27, 28] (by decide +kernel) (by decide +kernel)
set_option maxRecDepth 20000 in
theorem gX5_mostFrom_X5_with : GoodIn wsX5_mostFrom (wsV RX5 75 RX5 yX5_with wsX5_with) := goodIn_app (goodIn_of _ (by decide +kernel)) ggX5_mostFrom_X5_with
theorem dX5_mostFrom_0 : decode cX5_mostFrom 0 = .ok (.aload_n 0, 1) := by decide +kernel
theorem dX5_mostFrom_1 : decode cX5_mostFrom 1 = .ok (.getfield 20, 3) := by decide +kernel
theorem dX5_mostFrom_4 : decode cX5_mostFrom 4 = .ok (.iload_n 3, 1) := by decide +kernel
theorem dX5_mostFrom_5 : decode cX5_mostFrom 5 = .ok (.iconst 1, 1) := by decide +kernel
theorem dX5_mostFrom_6 : decode cX5_mostFrom 6 = .ok (.iadd, 1) := by decide +kernel
theorem dX5_mostFrom_7 : decode cX5_mostFrom 7 = .ok (.aaload, 1) := by decide +kernel
theorem dX5_mostFrom_8 : decode cX5_mostFrom 8 = .ok (.iload_n 2, 1) := by decide +kernel
theorem dX5_mostFrom_9 : decode cX5_mostFrom 9 = .ok (.iaload, 1) := by decide +kernel
theorem dX5_mostFrom_10 : decode cX5_mostFrom 10 = .ok (.istore 4, 2) := by decide +kernel
theorem dX5_mostFrom_12 : decode cX5_mostFrom 12 = .ok (.iconst 0, 1) := by decide +kernel
theorem dX5_mostFrom_13 : decode cX5_mostFrom 13 = .ok (.istore 5, 2) := by decide +kernel
theorem dX5_mostFrom_15 : decode cX5_mostFrom 15 = .ok (.iload 5, 2) := by decide +kernel
theorem dX5_mostFrom_17 : decode cX5_mostFrom 17 = .ok (.aload_n 1, 1) := by decide +kernel
theorem dX5_mostFrom_18 : decode cX5_mostFrom 18 = .ok (.getfield 35, 3) := by decide +kernel
theorem dX5_mostFrom_21 : decode cX5_mostFrom 21 = .ok (.if_icmp .ge 37, 3) := by decide +kernel
theorem dX5_mostFrom_24 : decode cX5_mostFrom 24 = .ok (.aload_n 0, 1) := by decide +kernel
theorem dX5_mostFrom_25 : decode cX5_mostFrom 25 = .ok (.aload_n 1, 1) := by decide +kernel
theorem dX5_mostFrom_26 : decode cX5_mostFrom 26 = .ok (.iload 5, 2) := by decide +kernel
theorem dX5_mostFrom_28 : decode cX5_mostFrom 28 = .ok (.iload_n 2, 1) := by decide +kernel
theorem dX5_mostFrom_29 : decode cX5_mostFrom 29 = .ok (.iload_n 3, 1) := by decide +kernel
theorem dX5_mostFrom_30 : decode cX5_mostFrom 30 = .ok (.invokevirtual 71, 3) := by decide +kernel
theorem dX5_mostFrom_33 : decode cX5_mostFrom 33 = .ok (.ifCond .eq 19, 3) := by decide +kernel
theorem dX5_mostFrom_36 : decode cX5_mostFrom 36 = .ok (.iload 4, 2) := by decide +kernel
theorem dX5_mostFrom_38 : decode cX5_mostFrom 38 = .ok (.aload_n 0, 1) := by decide +kernel
theorem dX5_mostFrom_39 : decode cX5_mostFrom 39 = .ok (.aload_n 1, 1) := by decide +kernel
theorem dX5_mostFrom_40 : decode cX5_mostFrom 40 = .ok (.iload 5, 2) := by decide +kernel
theorem dX5_mostFrom_42 : decode cX5_mostFrom 42 = .ok (.iload_n 2, 1) := by decide +kernel
theorem dX5_mostFrom_43 : decode cX5_mostFrom 43 = .ok (.iload_n 3, 1) := by decide +kernel
theorem dX5_mostFrom_44 : decode cX5_mostFrom 44 = .ok (.invokevirtual 75, 3) := by decide +kernel
theorem dX5_mostFrom_47 : decode cX5_mostFrom 47 = .ok (.invokestatic 79, 3) := by decide +kernel
theorem dX5_mostFrom_50 : decode cX5_mostFrom 50 = .ok (.istore 4, 2) := by decide +kernel
theorem dX5_mostFrom_52 : decode cX5_mostFrom 52 = .ok (.iinc 5 1, 3) := by decide +kernel
theorem dX5_mostFrom_55 : decode cX5_mostFrom 55 = .ok (.goto (-40), 3) := by decide +kernel
theorem dX5_mostFrom_58 : decode cX5_mostFrom 58 = .ok (.iload 4, 2) := by decide +kernel
theorem dX5_mostFrom_60 : decode cX5_mostFrom 60 = .ok (.ireturn, 1) := by decide +kernel
theorem dX5_canClimb_0 : decode cX5_canClimb 0 = .ok (.aload_n 0, 1) := by decide +kernel
theorem dX5_canClimb_1 : decode cX5_canClimb 1 = .ok (.getfield 17, 3) := by decide +kernel
theorem dX5_canClimb_4 : decode cX5_canClimb 4 = .ok (.iload 4, 2) := by decide +kernel
theorem dX5_canClimb_6 : decode cX5_canClimb 6 = .ok (.aaload, 1) := by decide +kernel
theorem dX5_canClimb_7 : decode cX5_canClimb 7 = .ok (.iload_n 2, 1) := by decide +kernel
theorem dX5_canClimb_8 : decode cX5_canClimb 8 = .ok (.iaload, 1) := by decide +kernel
theorem dX5_canClimb_9 : decode cX5_canClimb 9 = .ok (.ifCond .le 18, 3) := by decide +kernel
theorem dX5_canClimb_12 : decode cX5_canClimb 12 = .ok (.iload_n 3, 1) := by decide +kernel
theorem dX5_canClimb_13 : decode cX5_canClimb 13 = .ok (.aload_n 1, 1) := by decide +kernel
theorem dX5_canClimb_14 : decode cX5_canClimb 14 = .ok (.getfield 85, 3) := by decide +kernel
theorem dX5_canClimb_17 : decode cX5_canClimb 17 = .ok (.iload_n 2, 1) := by decide +kernel
theorem dX5_canClimb_18 : decode cX5_canClimb 18 = .ok (.iaload, 1) := by decide +kernel
theorem dX5_canClimb_19 : decode cX5_canClimb 19 = .ok (.iand, 1) := by decide +kernel
theorem dX5_canClimb_20 : decode cX5_canClimb 20 = .ok (.ifCond .ne 7, 3) := by decide +kernel
theorem dX5_canClimb_23 : decode cX5_canClimb 23 = .ok (.iconst 1, 1) := by decide +kernel
theorem dX5_canClimb_24 : decode cX5_canClimb 24 = .ok (.goto 4, 3) := by decide +kernel
theorem dX5_canClimb_27 : decode cX5_canClimb 27 = .ok (.iconst 0, 1) := by decide +kernel
theorem dX5_canClimb_28 : decode cX5_canClimb 28 = .ok (.ireturn, 1) := by decide +kernel
theorem dX5_with_0 : decode cX5_with 0 = .ok (.aload_n 0, 1) := by decide +kernel
theorem dX5_with_1 : decode cX5_with 1 = .ok (.getfield 17, 3) := by decide +kernel
theorem dX5_with_4 : decode cX5_with 4 = .ok (.iload 4, 2) := by decide +kernel
theorem dX5_with_6 : decode cX5_with 6 = .ok (.aaload, 1) := by decide +kernel
theorem dX5_with_7 : decode cX5_with 7 = .ok (.iload_n 2, 1) := by decide +kernel
theorem dX5_with_8 : decode cX5_with 8 = .ok (.iaload, 1) := by decide +kernel
theorem dX5_with_9 : decode cX5_with 9 = .ok (.aload_n 0, 1) := by decide +kernel
theorem dX5_with_10 : decode cX5_with 10 = .ok (.getfield 20, 3) := by decide +kernel
theorem dX5_with_13 : decode cX5_with 13 = .ok (.iload 4, 2) := by decide +kernel
theorem dX5_with_15 : decode cX5_with 15 = .ok (.iconst 1, 1) := by decide +kernel
theorem dX5_with_16 : decode cX5_with 16 = .ok (.iadd, 1) := by decide +kernel
theorem dX5_with_17 : decode cX5_with 17 = .ok (.aaload, 1) := by decide +kernel
theorem dX5_with_18 : decode cX5_with 18 = .ok (.iload_n 3, 1) := by decide +kernel
theorem dX5_with_19 : decode cX5_with 19 = .ok (.aload_n 1, 1) := by decide +kernel
theorem dX5_with_20 : decode cX5_with 20 = .ok (.getfield 85, 3) := by decide +kernel
theorem dX5_with_23 : decode cX5_with 23 = .ok (.iload_n 2, 1) := by decide +kernel
theorem dX5_with_24 : decode cX5_with 24 = .ok (.iaload, 1) := by decide +kernel
theorem dX5_with_25 : decode cX5_with 25 = .ok (.ior, 1) := by decide +kernel
theorem dX5_with_26 : decode cX5_with 26 = .ok (.iaload, 1) := by decide +kernel
theorem dX5_with_27 : decode cX5_with 27 = .ok (.iadd, 1) := by decide +kernel
theorem dX5_with_28 : decode cX5_with 28 = .ok (.ireturn, 1) := by decide +kernel
set_option maxRecDepth 20000 in
theorem ggX5_choose_X5_firstOfBest : GoodIn wsX5_choose wsX5_firstOfBest := goodIn_r _ [8, 9, 10, 11, 12, 13, 7, 14, 15, 3, 16, 17, 18, 19, 30, 31, 32, 33, 34, 35, 36, 37, 38, 39, 40] (by decide +kernel) (by decide +kernel)
set_option maxRecDepth 20000 in
theorem gX5_choose_X5_firstOfBest : GoodIn wsX5_choose (wsV RX5 88 RX5 yX5_firstOfBest wsX5_firstOfBest) := goodIn_app (goodIn_of _ (by decide +kernel)) ggX5_choose_X5_firstOfBest
theorem dX5_choose_0 : decode cX5_choose 0 = .ok (.iconst 0, 1) := by decide +kernel
theorem dX5_choose_1 : decode cX5_choose 1 = .ok (.istore_n 3, 1) := by decide +kernel
theorem dX5_choose_2 : decode cX5_choose 2 = .ok (.iconst 0, 1) := by decide +kernel
theorem dX5_choose_3 : decode cX5_choose 3 = .ok (.istore 4, 2) := by decide +kernel
theorem dX5_choose_5 : decode cX5_choose 5 = .ok (.iload 4, 2) := by decide +kernel
theorem dX5_choose_7 : decode cX5_choose 7 = .ok (.aload_n 1, 1) := by decide +kernel
theorem dX5_choose_8 : decode cX5_choose 8 = .ok (.getfield 23, 3) := by decide +kernel
theorem dX5_choose_11 : decode cX5_choose 11 = .ok (.if_icmp .ge 50, 3) := by decide +kernel
theorem dX5_choose_14 : decode cX5_choose 14 = .ok (.aload_n 0, 1) := by decide +kernel
theorem dX5_choose_15 : decode cX5_choose 15 = .ok (.getfield 9, 3) := by decide +kernel
theorem dX5_choose_18 : decode cX5_choose 18 = .ok (.iload 4, 2) := by decide +kernel
theorem dX5_choose_20 : decode cX5_choose 20 = .ok (.aload_n 0, 1) := by decide +kernel
theorem dX5_choose_21 : decode cX5_choose 21 = .ok (.aload_n 2, 1) := by decide +kernel
theorem dX5_choose_22 : decode cX5_choose 22 = .ok (.iload_n 3, 1) := by decide +kernel
theorem dX5_choose_23 : decode cX5_choose 23 = .ok (.iload 4, 2) := by decide +kernel
theorem dX5_choose_25 : decode cX5_choose 25 = .ok (.invokevirtual 88, 3) := by decide +kernel
theorem dX5_choose_28 : decode cX5_choose 28 = .ok (.iastore, 1) := by decide +kernel
theorem dX5_choose_29 : decode cX5_choose 29 = .ok (.aload_n 0, 1) := by decide +kernel
theorem dX5_choose_30 : decode cX5_choose 30 = .ok (.getfield 9, 3) := by decide +kernel
theorem dX5_choose_33 : decode cX5_choose 33 = .ok (.iload 4, 2) := by decide +kernel
theorem dX5_choose_35 : decode cX5_choose 35 = .ok (.iaload, 1) := by decide +kernel
theorem dX5_choose_36 : decode cX5_choose 36 = .ok (.iconst (-1), 1) := by decide +kernel
theorem dX5_choose_37 : decode cX5_choose 37 = .ok (.if_icmp .eq 18, 3) := by decide +kernel
theorem dX5_choose_40 : decode cX5_choose 40 = .ok (.iload_n 3, 1) := by decide +kernel
theorem dX5_choose_41 : decode cX5_choose 41 = .ok (.aload_n 2, 1) := by decide +kernel
theorem dX5_choose_42 : decode cX5_choose 42 = .ok (.getfield 85, 3) := by decide +kernel
theorem dX5_choose_45 : decode cX5_choose 45 = .ok (.aload_n 0, 1) := by decide +kernel
theorem dX5_choose_46 : decode cX5_choose 46 = .ok (.getfield 9, 3) := by decide +kernel
theorem dX5_choose_49 : decode cX5_choose 49 = .ok (.iload 4, 2) := by decide +kernel
theorem dX5_choose_51 : decode cX5_choose 51 = .ok (.iaload, 1) := by decide +kernel
theorem dX5_choose_52 : decode cX5_choose 52 = .ok (.iaload, 1) := by decide +kernel
theorem dX5_choose_53 : decode cX5_choose 53 = .ok (.ior, 1) := by decide +kernel
theorem dX5_choose_54 : decode cX5_choose 54 = .ok (.istore_n 3, 1) := by decide +kernel
theorem dX5_choose_55 : decode cX5_choose 55 = .ok (.iinc 4 1, 3) := by decide +kernel
theorem dX5_choose_58 : decode cX5_choose 58 = .ok (.goto (-53), 3) := by decide +kernel
theorem dX5_choose_61 : decode cX5_choose 61 = .ok (.return_, 1) := by decide +kernel
set_option maxRecDepth 20000 in
theorem ggX5_firstOfBest_X5_canClimb : GoodIn wsX5_firstOfBest wsX5_canClimb := goodIn_r _ [7, 8, 9, 14, 15, 16, 17, 18, 19, 20, 21, 22, 23, 24] (by decide +kernel) (by decide +kernel)
set_option maxRecDepth 20000 in
theorem gX5_firstOfBest_X5_canClimb : GoodIn wsX5_firstOfBest (wsV RX5 71 RX5 yX5_canClimb wsX5_canClimb) := goodIn_app (goodIn_of _ (by decide +kernel)) ggX5_firstOfBest_X5_canClimb
set_option maxRecDepth 20000 in
theorem ggX5_firstOfBest_X5_with : GoodIn wsX5_firstOfBest wsX5_with := goodIn_r _ [13, 8, 1, 9, 14, 15, 16, 17, 18, 19, 20, 21, 22, 23, 24] (by decide +kernel) (by decide +kernel)
set_option maxRecDepth 20000 in
theorem gX5_firstOfBest_X5_with : GoodIn wsX5_firstOfBest (wsV RX5 75 RX5 yX5_with wsX5_with) := goodIn_app (goodIn_of _ (by decide +kernel)) ggX5_firstOfBest_X5_with
theorem dX5_firstOfBest_0 : decode cX5_firstOfBest 0 = .ok (.aload_n 0, 1) := by decide +kernel
theorem dX5_firstOfBest_1 : decode cX5_firstOfBest 1 = .ok (.getfield 20, 3) := by decide +kernel
theorem dX5_firstOfBest_4 : decode cX5_firstOfBest 4 = .ok (.iload_n 3, 1) := by decide +kernel
theorem dX5_firstOfBest_5 : decode cX5_firstOfBest 5 = .ok (.iconst 1, 1) := by decide +kernel
theorem dX5_firstOfBest_6 : decode cX5_firstOfBest 6 = .ok (.iadd, 1) := by decide +kernel
theorem dX5_firstOfBest_7 : decode cX5_firstOfBest 7 = .ok (.aaload, 1) := by decide +kernel
theorem dX5_firstOfBest_8 : decode cX5_firstOfBest 8 = .ok (.iload_n 2, 1) := by decide +kernel
theorem dX5_firstOfBest_9 : decode cX5_firstOfBest 9 = .ok (.iaload, 1) := by decide +kernel
theorem dX5_firstOfBest_10 : decode cX5_firstOfBest 10 = .ok (.aload_n 0, 1) := by decide +kernel
theorem dX5_firstOfBest_11 : decode cX5_firstOfBest 11 = .ok (.getfield 20, 3) := by decide +kernel
theorem dX5_firstOfBest_14 : decode cX5_firstOfBest 14 = .ok (.iload_n 3, 1) := by decide +kernel
theorem dX5_firstOfBest_15 : decode cX5_firstOfBest 15 = .ok (.aaload, 1) := by decide +kernel
theorem dX5_firstOfBest_16 : decode cX5_firstOfBest 16 = .ok (.iload_n 2, 1) := by decide +kernel
theorem dX5_firstOfBest_17 : decode cX5_firstOfBest 17 = .ok (.iaload, 1) := by decide +kernel
theorem dX5_firstOfBest_18 : decode cX5_firstOfBest 18 = .ok (.if_icmp .ne 5, 3) := by decide +kernel
theorem dX5_firstOfBest_21 : decode cX5_firstOfBest 21 = .ok (.iconst (-1), 1) := by decide +kernel
theorem dX5_firstOfBest_22 : decode cX5_firstOfBest 22 = .ok (.ireturn, 1) := by decide +kernel
theorem dX5_firstOfBest_23 : decode cX5_firstOfBest 23 = .ok (.iconst 0, 1) := by decide +kernel
theorem dX5_firstOfBest_24 : decode cX5_firstOfBest 24 = .ok (.istore 4, 2) := by decide +kernel
theorem dX5_firstOfBest_26 : decode cX5_firstOfBest 26 = .ok (.iload 4, 2) := by decide +kernel
theorem dX5_firstOfBest_28 : decode cX5_firstOfBest 28 = .ok (.aload_n 1, 1) := by decide +kernel
theorem dX5_firstOfBest_29 : decode cX5_firstOfBest 29 = .ok (.getfield 35, 3) := by decide +kernel
theorem dX5_firstOfBest_32 : decode cX5_firstOfBest 32 = .ok (.if_icmp .ge 44, 3) := by decide +kernel
theorem dX5_firstOfBest_35 : decode cX5_firstOfBest 35 = .ok (.aload_n 0, 1) := by decide +kernel
theorem dX5_firstOfBest_36 : decode cX5_firstOfBest 36 = .ok (.aload_n 1, 1) := by decide +kernel
theorem dX5_firstOfBest_37 : decode cX5_firstOfBest 37 = .ok (.iload 4, 2) := by decide +kernel
theorem dX5_firstOfBest_39 : decode cX5_firstOfBest 39 = .ok (.iload_n 2, 1) := by decide +kernel
theorem dX5_firstOfBest_40 : decode cX5_firstOfBest 40 = .ok (.iload_n 3, 1) := by decide +kernel
theorem dX5_firstOfBest_41 : decode cX5_firstOfBest 41 = .ok (.invokevirtual 71, 3) := by decide +kernel
theorem dX5_firstOfBest_44 : decode cX5_firstOfBest 44 = .ok (.ifCond .eq 26, 3) := by decide +kernel
theorem dX5_firstOfBest_47 : decode cX5_firstOfBest 47 = .ok (.aload_n 0, 1) := by decide +kernel
theorem dX5_firstOfBest_48 : decode cX5_firstOfBest 48 = .ok (.aload_n 1, 1) := by decide +kernel
theorem dX5_firstOfBest_49 : decode cX5_firstOfBest 49 = .ok (.iload 4, 2) := by decide +kernel
theorem dX5_firstOfBest_51 : decode cX5_firstOfBest 51 = .ok (.iload_n 2, 1) := by decide +kernel
theorem dX5_firstOfBest_52 : decode cX5_firstOfBest 52 = .ok (.iload_n 3, 1) := by decide +kernel
theorem dX5_firstOfBest_53 : decode cX5_firstOfBest 53 = .ok (.invokevirtual 75, 3) := by decide +kernel
theorem dX5_firstOfBest_56 : decode cX5_firstOfBest 56 = .ok (.aload_n 0, 1) := by decide +kernel
theorem dX5_firstOfBest_57 : decode cX5_firstOfBest 57 = .ok (.getfield 20, 3) := by decide +kernel
theorem dX5_firstOfBest_60 : decode cX5_firstOfBest 60 = .ok (.iload_n 3, 1) := by decide +kernel
theorem dX5_firstOfBest_61 : decode cX5_firstOfBest 61 = .ok (.aaload, 1) := by decide +kernel
theorem dX5_firstOfBest_62 : decode cX5_firstOfBest 62 = .ok (.iload_n 2, 1) := by decide +kernel
theorem dX5_firstOfBest_63 : decode cX5_firstOfBest 63 = .ok (.iaload, 1) := by decide +kernel
theorem dX5_firstOfBest_64 : decode cX5_firstOfBest 64 = .ok (.if_icmp .ne 6, 3) := by decide +kernel
theorem dX5_firstOfBest_67 : decode cX5_firstOfBest 67 = .ok (.iload 4, 2) := by decide +kernel
theorem dX5_firstOfBest_69 : decode cX5_firstOfBest 69 = .ok (.ireturn, 1) := by decide +kernel
theorem dX5_firstOfBest_70 : decode cX5_firstOfBest 70 = .ok (.iinc 4 1, 3) := by decide +kernel
theorem dX5_firstOfBest_73 : decode cX5_firstOfBest 73 = .ok (.goto (-47), 3) := by decide +kernel
theorem dX5_firstOfBest_76 : decode cX5_firstOfBest 76 = .ok (.iconst (-1), 1) := by decide +kernel
theorem dX5_firstOfBest_77 : decode cX5_firstOfBest 77 = .ok (.ireturn, 1) := by decide +kernel
set_option maxRecDepth 20000 in
theorem ggX5_carryOut_X2_pick : GoodIn wsX5_carryOut wsX2_pick := goodIn_r _ [9, 10, 11, 12, 13, 35, 36, 37, 38, 39, 40, 41] (by decide +kernel) (by decide +kernel)
set_option maxRecDepth 20000 in
theorem gX5_carryOut_X2_pick : GoodIn wsX5_carryOut (wsV RX5 91 RX2 yX2_pick wsX2_pick) := goodIn_app (goodIn_of _ (by decide +kernel)) ggX5_carryOut_X2_pick
theorem dX5_carryOut_0 : decode cX5_carryOut 0 = .ok (.iconst 0, 1) := by decide +kernel
theorem dX5_carryOut_1 : decode cX5_carryOut 1 = .ok (.istore 4, 2) := by decide +kernel
theorem dX5_carryOut_3 : decode cX5_carryOut 3 = .ok (.iload 4, 2) := by decide +kernel
theorem dX5_carryOut_5 : decode cX5_carryOut 5 = .ok (.aload_n 1, 1) := by decide +kernel
theorem dX5_carryOut_6 : decode cX5_carryOut 6 = .ok (.getfield 23, 3) := by decide +kernel
theorem dX5_carryOut_9 : decode cX5_carryOut 9 = .ok (.if_icmp .ge 47, 3) := by decide +kernel
theorem dX5_carryOut_12 : decode cX5_carryOut 12 = .ok (.aload_n 0, 1) := by decide +kernel
theorem dX5_carryOut_13 : decode cX5_carryOut 13 = .ok (.getfield 9, 3) := by decide +kernel
theorem dX5_carryOut_16 : decode cX5_carryOut 16 = .ok (.iload 4, 2) := by decide +kernel
theorem dX5_carryOut_18 : decode cX5_carryOut 18 = .ok (.iaload, 1) := by decide +kernel
theorem dX5_carryOut_19 : decode cX5_carryOut 19 = .ok (.istore 5, 2) := by decide +kernel
theorem dX5_carryOut_21 : decode cX5_carryOut 21 = .ok (.iload 5, 2) := by decide +kernel
theorem dX5_carryOut_23 : decode cX5_carryOut 23 = .ok (.iconst (-1), 1) := by decide +kernel
theorem dX5_carryOut_24 : decode cX5_carryOut 24 = .ok (.if_icmp .eq 26, 3) := by decide +kernel
theorem dX5_carryOut_27 : decode cX5_carryOut 27 = .ok (.aload_n 3, 1) := by decide +kernel
theorem dX5_carryOut_28 : decode cX5_carryOut 28 = .ok (.aload_n 2, 1) := by decide +kernel
theorem dX5_carryOut_29 : decode cX5_carryOut 29 = .ok (.getfield 85, 3) := by decide +kernel
theorem dX5_carryOut_32 : decode cX5_carryOut 32 = .ok (.iload 5, 2) := by decide +kernel
theorem dX5_carryOut_34 : decode cX5_carryOut 34 = .ok (.iaload, 1) := by decide +kernel
theorem dX5_carryOut_35 : decode cX5_carryOut 35 = .ok (.iload 4, 2) := by decide +kernel
theorem dX5_carryOut_37 : decode cX5_carryOut 37 = .ok (.aload_n 0, 1) := by decide +kernel
theorem dX5_carryOut_38 : decode cX5_carryOut 38 = .ok (.getfield 17, 3) := by decide +kernel
theorem dX5_carryOut_41 : decode cX5_carryOut 41 = .ok (.iload 4, 2) := by decide +kernel
theorem dX5_carryOut_43 : decode cX5_carryOut 43 = .ok (.aaload, 1) := by decide +kernel
theorem dX5_carryOut_44 : decode cX5_carryOut 44 = .ok (.iload 5, 2) := by decide +kernel
theorem dX5_carryOut_46 : decode cX5_carryOut 46 = .ok (.iaload, 1) := by decide +kernel
theorem dX5_carryOut_47 : decode cX5_carryOut 47 = .ok (.invokevirtual 91, 3) := by decide +kernel
theorem dX5_carryOut_50 : decode cX5_carryOut 50 = .ok (.iinc 4 1, 3) := by decide +kernel
theorem dX5_carryOut_53 : decode cX5_carryOut 53 = .ok (.goto (-50), 3) := by decide +kernel
theorem dX5_carryOut_56 : decode cX5_carryOut 56 = .ok (.return_, 1) := by decide +kernel
theorem dX6_init_0 : decode cX6_init 0 = .ok (.aload_n 0, 1) := by decide +kernel
theorem dX6_init_1 : decode cX6_init 1 = .ok (.invokespecial 3, 3) := by decide +kernel
theorem dX6_init_4 : decode cX6_init 4 = .ok (.aload_n 0, 1) := by decide +kernel
theorem dX6_init_5 : decode cX6_init 5 = .ok (.iconst 0, 1) := by decide +kernel
theorem dX6_init_6 : decode cX6_init 6 = .ok (.putfield 9, 3) := by decide +kernel
theorem dX6_init_9 : decode cX6_init 9 = .ok (.aload_n 0, 1) := by decide +kernel
theorem dX6_init_10 : decode cX6_init 10 = .ok (.bipush 6, 2) := by decide +kernel
theorem dX6_init_12 : decode cX6_init 12 = .ok (.putfield 15, 3) := by decide +kernel
theorem dX6_init_15 : decode cX6_init 15 = .ok (.aload_n 0, 1) := by decide +kernel
theorem dX6_init_16 : decode cX6_init 16 = .ok (.iconst 0, 1) := by decide +kernel
theorem dX6_init_17 : decode cX6_init 17 = .ok (.putfield 18, 3) := by decide +kernel
theorem dX6_init_20 : decode cX6_init 20 = .ok (.aload_n 0, 1) := by decide +kernel
theorem dX6_init_21 : decode cX6_init 21 = .ok (.aload_n 1, 1) := by decide +kernel
theorem dX6_init_22 : decode cX6_init 22 = .ok (.putfield 21, 3) := by decide +kernel
theorem dX6_init_25 : decode cX6_init 25 = .ok (.return_, 1) := by decide +kernel
set_option maxRecDepth 20000 in
theorem ggX6_readAll_X8_cutIntoTokens : GoodIn wsX6_readAll wsX8_cutIntoTokens := goodIn_r _ [9, 10, 11, 12, 13, 14, 15, 16, 17, 18, 19, 20, 8, 21, 22, 23, 24, 25, 26, 27, 28, 29, 30, 31, 32, 33, 34, 35, 36, 37, 38, 39, 40, 41, 42, 43, 44, 45, 46, 47, 48, 49, 50, 51, 52, 53, 54, 55, 56, 57, 58, 59, 60, 61, 62, 63, 64, 65, 66, 67, 68, 69, 70, 71, 72, 73, 74, 75, 76, 77, 78, 79, 80, 81, 82, 83, 84, 85, 86, 87, 88, 89, 90, 91, 92, 93, 170, 171, 172, 173, 174] (by decide +kernel) (by decide +kernel)
set_option maxRecDepth 20000 in
theorem gX6_readAll_X8_cutIntoTokens : GoodIn wsX6_readAll (wsV RX6 25 RX8 yX8_cutIntoTokens wsX8_cutIntoTokens) := goodIn_app (goodIn_of _ (by decide +kernel)) ggX6_readAll_X8_cutIntoTokens
set_option maxRecDepth 20000 in
theorem ggX6_readAll_X3_empty : GoodIn wsX6_readAll wsX3_empty := goodIn_r _ [98, 99, 100, 175, 176, 177, 178, 179, 180, 181, 182, 183, 184] (by decide +kernel) (by decide +kernel)
set_option maxRecDepth 20000 in
theorem gX6_readAll_X3_empty : GoodIn wsX6_readAll (wsV RX6 30 RX3 yX3_empty wsX3_empty) := goodIn_app (goodIn_of _ (by decide +kernel)) ggX6_readAll_X3_empty
set_option maxRecDepth 20000 in
theorem ggX6_readAll_X6_look : GoodIn wsX6_readAll wsX6_look := goodIn_r _ [105, 2, 106, 107, 16, 108, 1, 109, 3, 110, 111, 166, 167, 168, 169, 170, 171, 172, 173, 174] (by decide +kernel) (by decide +kernel)
set_option maxRecDepth 20000 in
theorem gX6_readAll_X6_look : GoodIn wsX6_readAll (wsV RX6 35 RX6 yX6_look wsX6_look) := goodIn_app (goodIn_of _ (by decide +kernel)) ggX6_readAll_X6_look
set_option maxRecDepth 20000 in
theorem ggX6_readAll_X6_readItem : GoodIn wsX6_readAll wsX6_readItem := goodIn_r _ [115, 3, 116, 117, 118, 104, 119, 120, 111, 121, 122, 123, 124, 125, 126, 127, 128, 2, 101, 102, 103, 105, 106, 107, 16, 108, 1, 109, 110, 129, 130, 131, 132, 133, 134, 135, 97, 136, 99, 137, 138, 139, 140, 141, 142, 143, 144, 145, 146, 147, 148, 149, 150, 151, 152, 153, 154, 155, 156, 157, 158, 159, 160, 161, 162, 100, 163, 164, 165, 166, 167, 168, 169, 175, 176, 177, 178, 179, 180, 181, 182, 183, 184, 170, 171, 172, 173, 174] (by decide +kernel) (by decide +kernel)
set_option maxRecDepth 20000 in
theorem gX6_readAll_X6_readItem : GoodIn wsX6_readAll (wsV RX6 38 RX6 yX6_readItem wsX6_readItem) := goodIn_app (goodIn_of _ (by decide +kernel)) ggX6_readAll_X6_readItem
theorem dX6_readAll_0 : decode cX6_readAll 0 = .ok (.aload_n 0, 1) := by decide +kernel
theorem dX6_readAll_1 : decode cX6_readAll 1 = .ok (.getfield 21, 3) := by decide +kernel
theorem dX6_readAll_4 : decode cX6_readAll 4 = .ok (.invokevirtual 25, 3) := by decide +kernel
theorem dX6_readAll_7 : decode cX6_readAll 7 = .ok (.aload_n 1, 1) := by decide +kernel
theorem dX6_readAll_8 : decode cX6_readAll 8 = .ok (.invokevirtual 30, 3) := by decide +kernel
theorem dX6_readAll_11 : decode cX6_readAll 11 = .ok (.aload_n 0, 1) := by decide +kernel
theorem dX6_readAll_12 : decode cX6_readAll 12 = .ok (.iconst 0, 1) := by decide +kernel
theorem dX6_readAll_13 : decode cX6_readAll 13 = .ok (.putfield 9, 3) := by decide +kernel
theorem dX6_readAll_16 : decode cX6_readAll 16 = .ok (.iconst 0, 1) := by decide +kernel
theorem dX6_readAll_17 : decode cX6_readAll 17 = .ok (.istore_n 2, 1) := by decide +kernel
theorem dX6_readAll_18 : decode cX6_readAll 18 = .ok (.iload_n 2, 1) := by decide +kernel
theorem dX6_readAll_19 : decode cX6_readAll 19 = .ok (.sipush 300, 3) := by decide +kernel
theorem dX6_readAll_22 : decode cX6_readAll 22 = .ok (.if_icmp .gt 45, 3) := by decide +kernel
theorem dX6_readAll_25 : decode cX6_readAll 25 = .ok (.aload_n 0, 1) := by decide +kernel
theorem dX6_readAll_26 : decode cX6_readAll 26 = .ok (.invokevirtual 35, 3) := by decide +kernel
theorem dX6_readAll_29 : decode cX6_readAll 29 = .ok (.aload_n 0, 1) := by decide +kernel
theorem dX6_readAll_30 : decode cX6_readAll 30 = .ok (.getfield 15, 3) := by decide +kernel
theorem dX6_readAll_33 : decode cX6_readAll 33 = .ok (.bipush 6, 2) := by decide +kernel
theorem dX6_readAll_35 : decode cX6_readAll 35 = .ok (.if_icmp .ne 5, 3) := by decide +kernel
theorem dX6_readAll_38 : decode cX6_readAll 38 = .ok (.iload_n 2, 1) := by decide +kernel
theorem dX6_readAll_39 : decode cX6_readAll 39 = .ok (.ireturn, 1) := by decide +kernel
theorem dX6_readAll_40 : decode cX6_readAll 40 = .ok (.aload_n 0, 1) := by decide +kernel
theorem dX6_readAll_41 : decode cX6_readAll 41 = .ok (.aload_n 1, 1) := by decide +kernel
theorem dX6_readAll_42 : decode cX6_readAll 42 = .ok (.invokevirtual 38, 3) := by decide +kernel
theorem dX6_readAll_45 : decode cX6_readAll 45 = .ok (.ifCond .ne 6, 3) := by decide +kernel
theorem dX6_readAll_48 : decode cX6_readAll 48 = .ok (.goto 19, 3) := by decide +kernel
theorem dX6_readAll_51 : decode cX6_readAll 51 = .ok (.aload_n 0, 1) := by decide +kernel
theorem dX6_readAll_52 : decode cX6_readAll 52 = .ok (.dup, 1) := by decide +kernel
theorem dX6_readAll_53 : decode cX6_readAll 53 = .ok (.getfield 9, 3) := by decide +kernel
theorem dX6_readAll_56 : decode cX6_readAll 56 = .ok (.iconst 1, 1) := by decide +kernel
theorem dX6_readAll_57 : decode cX6_readAll 57 = .ok (.iadd, 1) := by decide +kernel
theorem dX6_readAll_58 : decode cX6_readAll 58 = .ok (.putfield 9, 3) := by decide +kernel
theorem dX6_readAll_61 : decode cX6_readAll 61 = .ok (.iinc 2 1, 3) := by decide +kernel
theorem dX6_readAll_64 : decode cX6_readAll 64 = .ok (.goto (-46), 3) := by decide +kernel
theorem dX6_readAll_67 : decode cX6_readAll 67 = .ok (.aload_n 0, 1) := by decide +kernel
theorem dX6_readAll_68 : decode cX6_readAll 68 = .ok (.invokevirtual 35, 3) := by decide +kernel
theorem dX6_readAll_71 : decode cX6_readAll 71 = .ok (.bipush (-10), 2) := by decide +kernel
theorem dX6_readAll_73 : decode cX6_readAll 73 = .ok (.aload_n 0, 1) := by decide +kernel
theorem dX6_readAll_74 : decode cX6_readAll 74 = .ok (.getfield 21, 3) := by decide +kernel
theorem dX6_readAll_77 : decode cX6_readAll 77 = .ok (.getfield 42, 3) := by decide +kernel
theorem dX6_readAll_80 : decode cX6_readAll 80 = .ok (.aload_n 0, 1) := by decide +kernel
theorem dX6_readAll_81 : decode cX6_readAll 81 = .ok (.getfield 9, 3) := by decide +kernel
theorem dX6_readAll_84 : decode cX6_readAll 84 = .ok (.iaload, 1) := by decide +kernel
theorem dX6_readAll_85 : decode cX6_readAll 85 = .ok (.isub, 1) := by decide +kernel
theorem dX6_readAll_86 : decode cX6_readAll 86 = .ok (.ireturn, 1) := by decide +kernel
theorem dX6_look_0 : decode cX6_look 0 = .ok (.aload_n 0, 1) := by decide +kernel
theorem dX6_look_1 : decode cX6_look 1 = .ok (.aload_n 0, 1) := by decide +kernel
theorem dX6_look_2 : decode cX6_look 2 = .ok (.getfield 9, 3) := by decide +kernel
theorem dX6_look_5 : decode cX6_look 5 = .ok (.sipush 300, 3) := by decide +kernel
theorem dX6_look_8 : decode cX6_look 8 = .ok (.invokestatic 46, 3) := by decide +kernel
theorem dX6_look_11 : decode cX6_look 11 = .ok (.putfield 9, 3) := by decide +kernel
theorem dX6_look_14 : decode cX6_look 14 = .ok (.aload_n 0, 1) := by decide +kernel
theorem dX6_look_15 : decode cX6_look 15 = .ok (.aload_n 0, 1) := by decide +kernel
theorem dX6_look_16 : decode cX6_look 16 = .ok (.getfield 21, 3) := by decide +kernel
theorem dX6_look_19 : decode cX6_look 19 = .ok (.getfield 52, 3) := by decide +kernel
theorem dX6_look_22 : decode cX6_look 22 = .ok (.aload_n 0, 1) := by decide +kernel
theorem dX6_look_23 : decode cX6_look 23 = .ok (.getfield 9, 3) := by decide +kernel
theorem dX6_look_26 : decode cX6_look 26 = .ok (.iaload, 1) := by decide +kernel
theorem dX6_look_27 : decode cX6_look 27 = .ok (.putfield 15, 3) := by decide +kernel
theorem dX6_look_30 : decode cX6_look 30 = .ok (.aload_n 0, 1) := by decide +kernel
theorem dX6_look_31 : decode cX6_look 31 = .ok (.aload_n 0, 1) := by decide +kernel
theorem dX6_look_32 : decode cX6_look 32 = .ok (.getfield 21, 3) := by decide +kernel
theorem dX6_look_35 : decode cX6_look 35 = .ok (.getfield 55, 3) := by decide +kernel
theorem dX6_look_38 : decode cX6_look 38 = .ok (.aload_n 0, 1) := by decide +kernel
theorem dX6_look_39 : decode cX6_look 39 = .ok (.getfield 9, 3) := by decide +kernel
theorem dX6_look_42 : decode cX6_look 42 = .ok (.iaload, 1) := by decide +kernel
theorem dX6_look_43 : decode cX6_look 43 = .ok (.putfield 18, 3) := by decide +kernel
theorem dX6_look_46 : decode cX6_look 46 = .ok (.return_, 1) := by decide +kernel
set_option maxRecDepth 20000 in
theorem ggX6_advance_X6_look : GoodIn wsX6_advance wsX6_look := goodIn_r _ [6, 1, 7, 8, 9, 10, 11, 12, 13, 14, 15, 16, 17, 18, 19, 20, 21, 22, 23, 24] (by decide +kernel) (by decide +kernel)
set_option maxRecDepth 20000 in
theorem gX6_advance_X6_look : GoodIn wsX6_advance (wsV RX6 35 RX6 yX6_look wsX6_look) := goodIn_app (goodIn_of _ (by decide +kernel)) ggX6_advance_X6_look
theorem dX6_advance_0 : decode cX6_advance 0 = .ok (.aload_n 0, 1) := by decide +kernel
theorem dX6_advance_1 : decode cX6_advance 1 = .ok (.dup, 1) := by decide +kernel
theorem dX6_advance_2 : decode cX6_advance 2 = .ok (.getfield 9, 3) := by decide +kernel
theorem dX6_advance_5 : decode cX6_advance 5 = .ok (.iconst 1, 1) := by decide +kernel
theorem dX6_advance_6 : decode cX6_advance 6 = .ok (.iadd, 1) := by decide +kernel
theorem dX6_advance_7 : decode cX6_advance 7 = .ok (.putfield 9, 3) := by decide +kernel
theorem dX6_advance_10 : decode cX6_advance 10 = .ok (.aload_n 0, 1) := by decide +kernel
theorem dX6_advance_11 : decode cX6_advance 11 = .ok (.invokevirtual 35, 3) := by decide +kernel
theorem dX6_advance_14 : decode cX6_advance 14 = .ok (.return_, 1) := by decide +kernel
set_option maxRecDepth 20000 in
theorem ggX6_readItem_X6_readHalf : GoodIn wsX6_readItem wsX6_readHalf := goodIn_r _ [6, 7, 8, 9, 10, 11, 5, 12, 1, 13, 14, 15, 16, 17, 18, 19, 20, 21, 22, 23, 24, 25, 26, 27, 28, 29, 30, 31, 32, 33, 34, 35, 36, 37, 38, 39, 40, 41, 42, 43, 73, 74, 75, 76, 77, 78, 79, 80, 81, 82, 69, 70, 71, 72, 83, 84, 85, 86, 87] (by decide +kernel) (by decide +kernel)
set_option maxRecDepth 20000 in
theorem gX6_readItem_X6_readHalf : GoodIn wsX6_readItem (wsV RX6 58 RX6 yX6_readHalf wsX6_readHalf) := goodIn_app (goodIn_of _ (by decide +kernel)) ggX6_readItem_X6_readHalf
set_option maxRecDepth 20000 in
theorem ggX6_readItem_X6_readQuarrel : GoodIn wsX6_readItem wsX6_readQuarrel := goodIn_r _ [47, 7, 8, 9, 10, 11, 5, 12, 1, 13, 14, 15, 16, 17, 18, 19, 20, 21, 22, 23, 24, 25, 26, 27, 28, 29, 30, 31, 32, 48, 49, 50, 36, 51, 43, 52, 53, 54, 55, 38, 73, 74, 75, 76, 77, 78, 79, 80, 81, 82, 69, 70, 71, 72, 83, 84, 85, 86, 87] (by decide +kernel) (by decide +kernel)
set_option maxRecDepth 20000 in
theorem gX6_readItem_X6_readQuarrel : GoodIn wsX6_readItem (wsV RX6 62 RX6 yX6_readQuarrel wsX6_readQuarrel) := goodIn_app (goodIn_of _ (by decide +kernel)) ggX6_readItem_X6_readQuarrel
set_option maxRecDepth 20000 in
theorem ggX6_readItem_X6_readTree : GoodIn wsX6_readItem wsX6_readTree := goodIn_r _ [59, 60, 8, 9, 10, 11, 5, 12, 1, 13, 14, 15, 16, 17, 18, 19, 20, 21, 22, 23, 24, 25, 26, 27, 28, 29, 30, 31, 32, 61, 62, 63, 36, 64, 65, 66, 67, 68, 73, 74, 75, 76, 77, 78, 79, 80, 81, 82, 69, 70, 71, 72, 83, 84, 85, 86, 87] (by decide +kernel) (by decide +kernel)
set_option maxRecDepth 20000 in
theorem gX6_readItem_X6_readTree : GoodIn wsX6_readItem (wsV RX6 65 RX6 yX6_readTree wsX6_readTree) := goodIn_app (goodIn_of _ (by decide +kernel)) ggX6_readItem_X6_readTree
theorem dX6_readItem_0 : decode cX6_readItem 0 = .ok (.aload_n 0, 1) := by decide +kernel
theorem dX6_readItem_1 : decode cX6_readItem 1 = .ok (.getfield 15, 3) := by decide +kernel
theorem dX6_readItem_4 : decode cX6_readItem 4 = .ok (.tableswitch 58 0 3 #[32, 39, 46, 52], 32) := by decide +kernel
theorem dX6_readItem_36 : decode cX6_readItem 36 = .ok (.aload_n 0, 1) := by decide +kernel
theorem dX6_readItem_37 : decode cX6_readItem 37 = .ok (.aload_n 1, 1) := by decide +kernel
theorem dX6_readItem_38 : decode cX6_readItem 38 = .ok (.iconst 0, 1) := by decide +kernel
theorem dX6_readItem_39 : decode cX6_readItem 39 = .ok (.invokevirtual 58, 3) := by decide +kernel
theorem dX6_readItem_42 : decode cX6_readItem 42 = .ok (.ireturn, 1) := by decide +kernel
theorem dX6_readItem_43 : decode cX6_readItem 43 = .ok (.aload_n 0, 1) := by decide +kernel
theorem dX6_readItem_44 : decode cX6_readItem 44 = .ok (.aload_n 1, 1) := by decide +kernel
theorem dX6_readItem_45 : decode cX6_readItem 45 = .ok (.iconst 1, 1) := by decide +kernel
theorem dX6_readItem_46 : decode cX6_readItem 46 = .ok (.invokevirtual 58, 3) := by decide +kernel
theorem dX6_readItem_49 : decode cX6_readItem 49 = .ok (.ireturn, 1) := by decide +kernel
theorem dX6_readItem_50 : decode cX6_readItem 50 = .ok (.aload_n 0, 1) := by decide +kernel
theorem dX6_readItem_51 : decode cX6_readItem 51 = .ok (.aload_n 1, 1) := by decide +kernel
theorem dX6_readItem_52 : decode cX6_readItem 52 = .ok (.invokevirtual 62, 3) := by decide +kernel
theorem dX6_readItem_55 : decode cX6_readItem 55 = .ok (.ireturn, 1) := by decide +kernel
theorem dX6_readItem_56 : decode cX6_readItem 56 = .ok (.aload_n 0, 1) := by decide +kernel
theorem dX6_readItem_57 : decode cX6_readItem 57 = .ok (.aload_n 1, 1) := by decide +kernel
theorem dX6_readItem_58 : decode cX6_readItem 58 = .ok (.invokevirtual 65, 3) := by decide +kernel
theorem dX6_readItem_61 : decode cX6_readItem 61 = .ok (.ireturn, 1) := by decide +kernel
theorem dX6_readItem_62 : decode cX6_readItem 62 = .ok (.iconst 0, 1) := by decide +kernel
theorem dX6_readItem_63 : decode cX6_readItem 63 = .ok (.ireturn, 1) := by decide +kernel
set_option maxRecDepth 20000 in
theorem ggX6_readHalf_X6_readNumber : GoodIn wsX6_readHalf wsX6_readNumber := goodIn_r _ [7, 8, 2, 9, 10, 11, 6, 12, 13, 14, 15, 16, 17, 18, 19, 20, 21, 22, 23, 24, 50, 51, 52, 53, 54, 55, 56, 57, 58] (by decide +kernel) (by decide +kernel)
set_option maxRecDepth 20000 in
theorem gX6_readHalf_X6_readNumber : GoodIn wsX6_readHalf (wsV RX6 71 RX6 yX6_readNumber wsX6_readNumber) := goodIn_app (goodIn_of _ (by decide +kernel)) ggX6_readHalf_X6_readNumber
set_option maxRecDepth 20000 in
theorem ggX6_readHalf_X6_readSemicolon : GoodIn wsX6_readHalf wsX6_readSemicolon := goodIn_r _ [28, 8, 9, 10, 11, 6, 12, 13, 14, 15, 16, 17, 18, 19, 20, 21, 22, 23, 24, 2, 50, 51, 52, 53, 54, 55, 56, 57, 58] (by decide +kernel) (by decide +kernel)
set_option maxRecDepth 20000 in
theorem gX6_readHalf_X6_readSemicolon : GoodIn wsX6_readHalf (wsV RX6 75 RX6 yX6_readSemicolon wsX6_readSemicolon) := goodIn_app (goodIn_of _ (by decide +kernel)) ggX6_readHalf_X6_readSemicolon
set_option maxRecDepth 20000 in
theorem ggX6_readHalf_X3_addHalf : GoodIn wsX6_readHalf wsX3_addHalf := goodIn_r _ [33, 34, 35, 36, 37, 38, 39, 40, 41, 42, 43, 44, 45, 46, 47, 48, 49] (by decide +kernel) (by decide +kernel)
set_option maxRecDepth 20000 in
theorem gX6_readHalf_X3_addHalf : GoodIn wsX6_readHalf (wsV RX6 79 RX3 yX3_addHalf wsX3_addHalf) := goodIn_app (goodIn_of _ (by decide +kernel)) ggX6_readHalf_X3_addHalf
theorem dX6_readHalf_0 : decode cX6_readHalf 0 = .ok (.aload_n 1, 1) := by decide +kernel
theorem dX6_readHalf_1 : decode cX6_readHalf 1 = .ok (.getfield 68, 3) := by decide +kernel
theorem dX6_readHalf_4 : decode cX6_readHalf 4 = .ok (.bipush 8, 2) := by decide +kernel
theorem dX6_readHalf_6 : decode cX6_readHalf 6 = .ok (.if_icmp .ge 13, 3) := by decide +kernel
theorem dX6_readHalf_9 : decode cX6_readHalf 9 = .ok (.aload_n 0, 1) := by decide +kernel
theorem dX6_readHalf_10 : decode cX6_readHalf 10 = .ok (.iconst 1, 1) := by decide +kernel
theorem dX6_readHalf_11 : decode cX6_readHalf 11 = .ok (.bipush 9, 2) := by decide +kernel
theorem dX6_readHalf_13 : decode cX6_readHalf 13 = .ok (.invokevirtual 71, 3) := by decide +kernel
theorem dX6_readHalf_16 : decode cX6_readHalf 16 = .ok (.ifCond .ne 5, 3) := by decide +kernel
theorem dX6_readHalf_19 : decode cX6_readHalf 19 = .ok (.iconst 0, 1) := by decide +kernel
theorem dX6_readHalf_20 : decode cX6_readHalf 20 = .ok (.ireturn, 1) := by decide +kernel
theorem dX6_readHalf_21 : decode cX6_readHalf 21 = .ok (.aload_n 0, 1) := by decide +kernel
theorem dX6_readHalf_22 : decode cX6_readHalf 22 = .ok (.getfield 18, 3) := by decide +kernel
theorem dX6_readHalf_25 : decode cX6_readHalf 25 = .ok (.istore_n 3, 1) := by decide +kernel
theorem dX6_readHalf_26 : decode cX6_readHalf 26 = .ok (.aload_n 0, 1) := by decide +kernel
theorem dX6_readHalf_27 : decode cX6_readHalf 27 = .ok (.iconst 1, 1) := by decide +kernel
theorem dX6_readHalf_28 : decode cX6_readHalf 28 = .ok (.bipush 9, 2) := by decide +kernel
theorem dX6_readHalf_30 : decode cX6_readHalf 30 = .ok (.invokevirtual 71, 3) := by decide +kernel
theorem dX6_readHalf_33 : decode cX6_readHalf 33 = .ok (.ifCond .ne 5, 3) := by decide +kernel
theorem dX6_readHalf_36 : decode cX6_readHalf 36 = .ok (.iconst 0, 1) := by decide +kernel
theorem dX6_readHalf_37 : decode cX6_readHalf 37 = .ok (.ireturn, 1) := by decide +kernel
theorem dX6_readHalf_38 : decode cX6_readHalf 38 = .ok (.aload_n 0, 1) := by decide +kernel
theorem dX6_readHalf_39 : decode cX6_readHalf 39 = .ok (.getfield 18, 3) := by decide +kernel
theorem dX6_readHalf_42 : decode cX6_readHalf 42 = .ok (.istore 4, 2) := by decide +kernel
theorem dX6_readHalf_44 : decode cX6_readHalf 44 = .ok (.aload_n 0, 1) := by decide +kernel
theorem dX6_readHalf_45 : decode cX6_readHalf 45 = .ok (.iconst 1, 1) := by decide +kernel
theorem dX6_readHalf_46 : decode cX6_readHalf 46 = .ok (.bipush 9, 2) := by decide +kernel
theorem dX6_readHalf_48 : decode cX6_readHalf 48 = .ok (.invokevirtual 71, 3) := by decide +kernel
theorem dX6_readHalf_51 : decode cX6_readHalf 51 = .ok (.ifCond .ne 5, 3) := by decide +kernel
theorem dX6_readHalf_54 : decode cX6_readHalf 54 = .ok (.iconst 0, 1) := by decide +kernel
theorem dX6_readHalf_55 : decode cX6_readHalf 55 = .ok (.ireturn, 1) := by decide +kernel
theorem dX6_readHalf_56 : decode cX6_readHalf 56 = .ok (.aload_n 0, 1) := by decide +kernel
theorem dX6_readHalf_57 : decode cX6_readHalf 57 = .ok (.getfield 18, 3) := by decide +kernel
theorem dX6_readHalf_60 : decode cX6_readHalf 60 = .ok (.istore 5, 2) := by decide +kernel
theorem dX6_readHalf_62 : decode cX6_readHalf 62 = .ok (.aload_n 0, 1) := by decide +kernel
theorem dX6_readHalf_63 : decode cX6_readHalf 63 = .ok (.invokevirtual 75, 3) := by decide +kernel
theorem dX6_readHalf_66 : decode cX6_readHalf 66 = .ok (.ifCond .ne 5, 3) := by decide +kernel
theorem dX6_readHalf_69 : decode cX6_readHalf 69 = .ok (.iconst 0, 1) := by decide +kernel
theorem dX6_readHalf_70 : decode cX6_readHalf 70 = .ok (.ireturn, 1) := by decide +kernel
theorem dX6_readHalf_71 : decode cX6_readHalf 71 = .ok (.aload_n 1, 1) := by decide +kernel
theorem dX6_readHalf_72 : decode cX6_readHalf 72 = .ok (.iload_n 2, 1) := by decide +kernel
theorem dX6_readHalf_73 : decode cX6_readHalf 73 = .ok (.iload_n 3, 1) := by decide +kernel
theorem dX6_readHalf_74 : decode cX6_readHalf 74 = .ok (.iload 4, 2) := by decide +kernel
theorem dX6_readHalf_76 : decode cX6_readHalf 76 = .ok (.iload 5, 2) := by decide +kernel
theorem dX6_readHalf_78 : decode cX6_readHalf 78 = .ok (.invokevirtual 79, 3) := by decide +kernel
theorem dX6_readHalf_81 : decode cX6_readHalf 81 = .ok (.iconst 1, 1) := by decide +kernel
theorem dX6_readHalf_82 : decode cX6_readHalf 82 = .ok (.ireturn, 1) := by decide +kernel
set_option maxRecDepth 20000 in
theorem ggX6_readQuarrel_X6_readNumber : GoodIn wsX6_readQuarrel wsX6_readNumber := goodIn_r _ [7, 8, 2, 9, 10, 11, 6, 12, 13, 14, 15, 16, 17, 18, 19, 20, 21, 22, 23, 24, 50, 51, 52, 53, 54, 55, 56, 57, 58] (by decide +kernel) (by decide +kernel)
set_option maxRecDepth 20000 in
theorem gX6_readQuarrel_X6_readNumber : GoodIn wsX6_readQuarrel (wsV RX6 71 RX6 yX6_readNumber wsX6_readNumber) := goodIn_app (goodIn_of _ (by decide +kernel)) ggX6_readQuarrel_X6_readNumber
set_option maxRecDepth 20000 in
theorem ggX6_readQuarrel_X6_readSemicolon : GoodIn wsX6_readQuarrel wsX6_readSemicolon := goodIn_r _ [28, 8, 9, 10, 11, 6, 12, 13, 14, 15, 16, 17, 18, 19, 20, 21, 22, 23, 24, 2, 50, 51, 52, 53, 54, 55, 56, 57, 58] (by decide +kernel) (by decide +kernel)
set_option maxRecDepth 20000 in
theorem gX6_readQuarrel_X6_readSemicolon : GoodIn wsX6_readQuarrel (wsV RX6 75 RX6 yX6_readSemicolon wsX6_readSemicolon) := goodIn_app (goodIn_of _ (by decide +kernel)) ggX6_readQuarrel_X6_readSemicolon
set_option maxRecDepth 20000 in
theorem ggX6_readQuarrel_X3_addQuarrel : GoodIn wsX6_readQuarrel wsX3_addQuarrel := goodIn_r _ [33, 34, 35, 36, 37, 32, 38, 39, 40, 41, 42, 43, 44, 45, 46, 47, 48, 49] (by decide +kernel) (by decide +kernel)
set_option maxRecDepth 20000 in
theorem gX6_readQuarrel_X3_addQuarrel : GoodIn wsX6_readQuarrel (wsV RX6 83 RX3 yX3_addQuarrel wsX3_addQuarrel) := goodIn_app (goodIn_of _ (by decide +kernel)) ggX6_readQuarrel_X3_addQuarrel
theorem dX6_readQuarrel_0 : decode cX6_readQuarrel 0 = .ok (.aload_n 0, 1) := by decide +kernel
theorem dX6_readQuarrel_1 : decode cX6_readQuarrel 1 = .ok (.iconst 0, 1) := by decide +kernel
theorem dX6_readQuarrel_2 : decode cX6_readQuarrel 2 = .ok (.aload_n 1, 1) := by decide +kernel
theorem dX6_readQuarrel_3 : decode cX6_readQuarrel 3 = .ok (.getfield 68, 3) := by decide +kernel
theorem dX6_readQuarrel_6 : decode cX6_readQuarrel 6 = .ok (.iconst 1, 1) := by decide +kernel
theorem dX6_readQuarrel_7 : decode cX6_readQuarrel 7 = .ok (.isub, 1) := by decide +kernel
theorem dX6_readQuarrel_8 : decode cX6_readQuarrel 8 = .ok (.invokevirtual 71, 3) := by decide +kernel
theorem dX6_readQuarrel_11 : decode cX6_readQuarrel 11 = .ok (.ifCond .ne 5, 3) := by decide +kernel
theorem dX6_readQuarrel_14 : decode cX6_readQuarrel 14 = .ok (.iconst 0, 1) := by decide +kernel
theorem dX6_readQuarrel_15 : decode cX6_readQuarrel 15 = .ok (.ireturn, 1) := by decide +kernel
theorem dX6_readQuarrel_16 : decode cX6_readQuarrel 16 = .ok (.aload_n 0, 1) := by decide +kernel
theorem dX6_readQuarrel_17 : decode cX6_readQuarrel 17 = .ok (.getfield 18, 3) := by decide +kernel
theorem dX6_readQuarrel_20 : decode cX6_readQuarrel 20 = .ok (.istore_n 2, 1) := by decide +kernel
theorem dX6_readQuarrel_21 : decode cX6_readQuarrel 21 = .ok (.aload_n 0, 1) := by decide +kernel
theorem dX6_readQuarrel_22 : decode cX6_readQuarrel 22 = .ok (.iconst 0, 1) := by decide +kernel
theorem dX6_readQuarrel_23 : decode cX6_readQuarrel 23 = .ok (.aload_n 1, 1) := by decide +kernel
theorem dX6_readQuarrel_24 : decode cX6_readQuarrel 24 = .ok (.getfield 68, 3) := by decide +kernel
theorem dX6_readQuarrel_27 : decode cX6_readQuarrel 27 = .ok (.iconst 1, 1) := by decide +kernel
theorem dX6_readQuarrel_28 : decode cX6_readQuarrel 28 = .ok (.isub, 1) := by decide +kernel
theorem dX6_readQuarrel_29 : decode cX6_readQuarrel 29 = .ok (.invokevirtual 71, 3) := by decide +kernel
theorem dX6_readQuarrel_32 : decode cX6_readQuarrel 32 = .ok (.ifCond .eq 11, 3) := by decide +kernel
theorem dX6_readQuarrel_35 : decode cX6_readQuarrel 35 = .ok (.aload_n 0, 1) := by decide +kernel
theorem dX6_readQuarrel_36 : decode cX6_readQuarrel 36 = .ok (.getfield 18, 3) := by decide +kernel
theorem dX6_readQuarrel_39 : decode cX6_readQuarrel 39 = .ok (.iload_n 2, 1) := by decide +kernel
theorem dX6_readQuarrel_40 : decode cX6_readQuarrel 40 = .ok (.if_icmp .ne 5, 3) := by decide +kernel
theorem dX6_readQuarrel_43 : decode cX6_readQuarrel 43 = .ok (.iconst 0, 1) := by decide +kernel
theorem dX6_readQuarrel_44 : decode cX6_readQuarrel 44 = .ok (.ireturn, 1) := by decide +kernel
theorem dX6_readQuarrel_45 : decode cX6_readQuarrel 45 = .ok (.aload_n 0, 1) := by decide +kernel
theorem dX6_readQuarrel_46 : decode cX6_readQuarrel 46 = .ok (.getfield 18, 3) := by decide +kernel
theorem dX6_readQuarrel_49 : decode cX6_readQuarrel 49 = .ok (.istore_n 3, 1) := by decide +kernel
theorem dX6_readQuarrel_50 : decode cX6_readQuarrel 50 = .ok (.aload_n 0, 1) := by decide +kernel
theorem dX6_readQuarrel_51 : decode cX6_readQuarrel 51 = .ok (.invokevirtual 75, 3) := by decide +kernel
theorem dX6_readQuarrel_54 : decode cX6_readQuarrel 54 = .ok (.ifCond .ne 5, 3) := by decide +kernel
theorem dX6_readQuarrel_57 : decode cX6_readQuarrel 57 = .ok (.iconst 0, 1) := by decide +kernel
theorem dX6_readQuarrel_58 : decode cX6_readQuarrel 58 = .ok (.ireturn, 1) := by decide +kernel
theorem dX6_readQuarrel_59 : decode cX6_readQuarrel 59 = .ok (.aload_n 1, 1) := by decide +kernel
theorem dX6_readQuarrel_60 : decode cX6_readQuarrel 60 = .ok (.iload_n 2, 1) := by decide +kernel
theorem dX6_readQuarrel_61 : decode cX6_readQuarrel 61 = .ok (.iload_n 3, 1) := by decide +kernel
theorem dX6_readQuarrel_62 : decode cX6_readQuarrel 62 = .ok (.invokevirtual 83, 3) := by decide +kernel
theorem dX6_readQuarrel_65 : decode cX6_readQuarrel 65 = .ok (.iconst 1, 1) := by decide +kernel
theorem dX6_readQuarrel_66 : decode cX6_readQuarrel 66 = .ok (.ireturn, 1) := by decide +kernel
set_option maxRecDepth 20000 in
theorem ggX6_readTree_X6_readNumber : GoodIn wsX6_readTree wsX6_readNumber := goodIn_r _ [7, 8, 2, 9, 10, 11, 6, 12, 13, 14, 15, 16, 17, 18, 19, 20, 21, 22, 23, 24, 48, 49, 50, 51, 52, 53, 54, 55, 56] (by decide +kernel) (by decide +kernel)
set_option maxRecDepth 20000 in
theorem gX6_readTree_X6_readNumber : GoodIn wsX6_readTree (wsV RX6 71 RX6 yX6_readNumber wsX6_readNumber) := goodIn_app (goodIn_of _ (by decide +kernel)) ggX6_readTree_X6_readNumber
set_option maxRecDepth 20000 in
theorem ggX6_readTree_X6_readSemicolon : GoodIn wsX6_readTree wsX6_readSemicolon := goodIn_r _ [28, 8, 9, 10, 11, 6, 12, 13, 14, 15, 16, 17, 18, 19, 20, 21, 22, 23, 24, 2, 48, 49, 50, 51, 52, 53, 54, 55, 56] (by decide +kernel) (by decide +kernel)
set_option maxRecDepth 20000 in
theorem gX6_readTree_X6_readSemicolon : GoodIn wsX6_readTree (wsV RX6 75 RX6 yX6_readSemicolon wsX6_readSemicolon) := goodIn_app (goodIn_of _ (by decide +kernel)) ggX6_readTree_X6_readSemicolon
set_option maxRecDepth 20000 in
theorem ggX6_readTree_X3_addTree : GoodIn wsX6_readTree wsX3_addTree := goodIn_r _ [33, 34, 35, 36, 37, 38, 39, 40, 41, 42, 43, 44, 45, 46, 47] (by decide +kernel) (by decide +kernel)
set_option maxRecDepth 20000 in
theorem gX6_readTree_X3_addTree : GoodIn wsX6_readTree (wsV RX6 90 RX3 yX3_addTree wsX3_addTree) := goodIn_app (goodIn_of _ (by decide +kernel)) ggX6_readTree_X3_addTree
theorem dX6_readTree_0 : decode cX6_readTree 0 = .ok (.aload_n 1, 1) := by decide +kernel
theorem dX6_readTree_1 : decode cX6_readTree 1 = .ok (.getfield 87, 3) := by decide +kernel
theorem dX6_readTree_4 : decode cX6_readTree 4 = .ok (.iconst 5, 1) := by decide +kernel
theorem dX6_readTree_5 : decode cX6_readTree 5 = .ok (.if_icmp .ge 13, 3) := by decide +kernel
theorem dX6_readTree_8 : decode cX6_readTree 8 = .ok (.aload_n 0, 1) := by decide +kernel
theorem dX6_readTree_9 : decode cX6_readTree 9 = .ok (.iconst 1, 1) := by decide +kernel
theorem dX6_readTree_10 : decode cX6_readTree 10 = .ok (.bipush 9, 2) := by decide +kernel
theorem dX6_readTree_12 : decode cX6_readTree 12 = .ok (.invokevirtual 71, 3) := by decide +kernel
theorem dX6_readTree_15 : decode cX6_readTree 15 = .ok (.ifCond .ne 5, 3) := by decide +kernel
theorem dX6_readTree_18 : decode cX6_readTree 18 = .ok (.iconst 0, 1) := by decide +kernel
theorem dX6_readTree_19 : decode cX6_readTree 19 = .ok (.ireturn, 1) := by decide +kernel
theorem dX6_readTree_20 : decode cX6_readTree 20 = .ok (.aload_n 0, 1) := by decide +kernel
theorem dX6_readTree_21 : decode cX6_readTree 21 = .ok (.getfield 18, 3) := by decide +kernel
theorem dX6_readTree_24 : decode cX6_readTree 24 = .ok (.istore_n 2, 1) := by decide +kernel
theorem dX6_readTree_25 : decode cX6_readTree 25 = .ok (.aload_n 0, 1) := by decide +kernel
theorem dX6_readTree_26 : decode cX6_readTree 26 = .ok (.iconst 0, 1) := by decide +kernel
theorem dX6_readTree_27 : decode cX6_readTree 27 = .ok (.bipush 20, 2) := by decide +kernel
theorem dX6_readTree_29 : decode cX6_readTree 29 = .ok (.invokevirtual 71, 3) := by decide +kernel
theorem dX6_readTree_32 : decode cX6_readTree 32 = .ok (.ifCond .ne 5, 3) := by decide +kernel
theorem dX6_readTree_35 : decode cX6_readTree 35 = .ok (.iconst 0, 1) := by decide +kernel
theorem dX6_readTree_36 : decode cX6_readTree 36 = .ok (.ireturn, 1) := by decide +kernel
theorem dX6_readTree_37 : decode cX6_readTree 37 = .ok (.aload_n 0, 1) := by decide +kernel
theorem dX6_readTree_38 : decode cX6_readTree 38 = .ok (.getfield 18, 3) := by decide +kernel
theorem dX6_readTree_41 : decode cX6_readTree 41 = .ok (.istore_n 3, 1) := by decide +kernel
theorem dX6_readTree_42 : decode cX6_readTree 42 = .ok (.aload_n 0, 1) := by decide +kernel
theorem dX6_readTree_43 : decode cX6_readTree 43 = .ok (.iconst 0, 1) := by decide +kernel
theorem dX6_readTree_44 : decode cX6_readTree 44 = .ok (.bipush 99, 2) := by decide +kernel
theorem dX6_readTree_46 : decode cX6_readTree 46 = .ok (.invokevirtual 71, 3) := by decide +kernel
theorem dX6_readTree_49 : decode cX6_readTree 49 = .ok (.ifCond .ne 5, 3) := by decide +kernel
theorem dX6_readTree_52 : decode cX6_readTree 52 = .ok (.iconst 0, 1) := by decide +kernel
theorem dX6_readTree_53 : decode cX6_readTree 53 = .ok (.ireturn, 1) := by decide +kernel
theorem dX6_readTree_54 : decode cX6_readTree 54 = .ok (.aload_n 0, 1) := by decide +kernel
theorem dX6_readTree_55 : decode cX6_readTree 55 = .ok (.getfield 18, 3) := by decide +kernel
theorem dX6_readTree_58 : decode cX6_readTree 58 = .ok (.istore 4, 2) := by decide +kernel
theorem dX6_readTree_60 : decode cX6_readTree 60 = .ok (.aload_n 0, 1) := by decide +kernel
theorem dX6_readTree_61 : decode cX6_readTree 61 = .ok (.invokevirtual 75, 3) := by decide +kernel
theorem dX6_readTree_64 : decode cX6_readTree 64 = .ok (.ifCond .ne 5, 3) := by decide +kernel
theorem dX6_readTree_67 : decode cX6_readTree 67 = .ok (.iconst 0, 1) := by decide +kernel
theorem dX6_readTree_68 : decode cX6_readTree 68 = .ok (.ireturn, 1) := by decide +kernel
theorem dX6_readTree_69 : decode cX6_readTree 69 = .ok (.aload_n 1, 1) := by decide +kernel
theorem dX6_readTree_70 : decode cX6_readTree 70 = .ok (.iload_n 2, 1) := by decide +kernel
theorem dX6_readTree_71 : decode cX6_readTree 71 = .ok (.iload_n 3, 1) := by decide +kernel
theorem dX6_readTree_72 : decode cX6_readTree 72 = .ok (.iload 4, 2) := by decide +kernel
theorem dX6_readTree_74 : decode cX6_readTree 74 = .ok (.invokevirtual 90, 3) := by decide +kernel
theorem dX6_readTree_77 : decode cX6_readTree 77 = .ok (.iconst 1, 1) := by decide +kernel
theorem dX6_readTree_78 : decode cX6_readTree 78 = .ok (.ireturn, 1) := by decide +kernel
set_option maxRecDepth 20000 in
theorem ggX6_readNumber_X6_advance : GoodIn wsX6_readNumber wsX6_advance := goodIn_r _ [7, 8, 9, 10, 11, 6, 12, 13, 14, 15, 16, 17, 18, 1, 19, 2, 20, 21, 22, 23, 24, 25, 26, 27, 28] (by decide +kernel) (by decide +kernel)
set_option maxRecDepth 20000 in
theorem gX6_readNumber_X6_advance : GoodIn wsX6_readNumber (wsV RX6 94 RX6 yX6_advance wsX6_advance) := goodIn_app (goodIn_of _ (by decide +kernel)) ggX6_readNumber_X6_advance
theorem dX6_readNumber_0 : decode cX6_readNumber 0 = .ok (.aload_n 0, 1) := by decide +kernel
theorem dX6_readNumber_1 : decode cX6_readNumber 1 = .ok (.invokevirtual 94, 3) := by decide +kernel
theorem dX6_readNumber_4 : decode cX6_readNumber 4 = .ok (.aload_n 0, 1) := by decide +kernel
theorem dX6_readNumber_5 : decode cX6_readNumber 5 = .ok (.getfield 15, 3) := by decide +kernel
theorem dX6_readNumber_8 : decode cX6_readNumber 8 = .ok (.iconst 4, 1) := by decide +kernel
theorem dX6_readNumber_9 : decode cX6_readNumber 9 = .ok (.if_icmp .ne 23, 3) := by decide +kernel
theorem dX6_readNumber_12 : decode cX6_readNumber 12 = .ok (.aload_n 0, 1) := by decide +kernel
theorem dX6_readNumber_13 : decode cX6_readNumber 13 = .ok (.getfield 18, 3) := by decide +kernel
theorem dX6_readNumber_16 : decode cX6_readNumber 16 = .ok (.iload_n 1, 1) := by decide +kernel
theorem dX6_readNumber_17 : decode cX6_readNumber 17 = .ok (.if_icmp .lt 15, 3) := by decide +kernel
theorem dX6_readNumber_20 : decode cX6_readNumber 20 = .ok (.aload_n 0, 1) := by decide +kernel
theorem dX6_readNumber_21 : decode cX6_readNumber 21 = .ok (.getfield 18, 3) := by decide +kernel
theorem dX6_readNumber_24 : decode cX6_readNumber 24 = .ok (.iload_n 2, 1) := by decide +kernel
theorem dX6_readNumber_25 : decode cX6_readNumber 25 = .ok (.if_icmp .gt 7, 3) := by decide +kernel
theorem dX6_readNumber_28 : decode cX6_readNumber 28 = .ok (.iconst 1, 1) := by decide +kernel
theorem dX6_readNumber_29 : decode cX6_readNumber 29 = .ok (.goto 4, 3) := by decide +kernel
theorem dX6_readNumber_32 : decode cX6_readNumber 32 = .ok (.iconst 0, 1) := by decide +kernel
theorem dX6_readNumber_33 : decode cX6_readNumber 33 = .ok (.ireturn, 1) := by decide +kernel
set_option maxRecDepth 20000 in
theorem ggX6_readSemicolon_X6_advance : GoodIn wsX6_readSemicolon wsX6_advance := goodIn_r _ [6, 7, 8, 9, 10, 5, 11, 12, 13, 14, 15, 16, 17, 1, 18, 19, 20, 21, 22, 23, 24, 25, 26, 27, 28] (by decide +kernel) (by decide +kernel)
set_option maxRecDepth 20000 in
theorem gX6_readSemicolon_X6_advance : GoodIn wsX6_readSemicolon (wsV RX6 94 RX6 yX6_advance wsX6_advance) := goodIn_app (goodIn_of _ (by decide +kernel)) ggX6_readSemicolon_X6_advance
theorem dX6_readSemicolon_0 : decode cX6_readSemicolon 0 = .ok (.aload_n 0, 1) := by decide +kernel
theorem dX6_readSemicolon_1 : decode cX6_readSemicolon 1 = .ok (.invokevirtual 94, 3) := by decide +kernel
theorem dX6_readSemicolon_4 : decode cX6_readSemicolon 4 = .ok (.aload_n 0, 1) := by decide +kernel
theorem dX6_readSemicolon_5 : decode cX6_readSemicolon 5 = .ok (.getfield 15, 3) := by decide +kernel
theorem dX6_readSemicolon_8 : decode cX6_readSemicolon 8 = .ok (.iconst 5, 1) := by decide +kernel
theorem dX6_readSemicolon_9 : decode cX6_readSemicolon 9 = .ok (.if_icmp .ne 7, 3) := by decide +kernel
theorem dX6_readSemicolon_12 : decode cX6_readSemicolon 12 = .ok (.iconst 1, 1) := by decide +kernel
theorem dX6_readSemicolon_13 : decode cX6_readSemicolon 13 = .ok (.goto 4, 3) := by decide +kernel
theorem dX6_readSemicolon_16 : decode cX6_readSemicolon 16 = .ok (.iconst 0, 1) := by decide +kernel
theorem dX6_readSemicolon_17 : decode cX6_readSemicolon 17 = .ok (.ireturn, 1) := by decide +kernel
theorem dX7_init_0 : decode cX7_init 0 = .ok (.aload_n 0, 1) := by decide +kernel
theorem dX7_init_1 : decode cX7_init 1 = .ok (.invokespecial 3, 3) := by decide +kernel
theorem dX7_init_4 : decode cX7_init 4 = .ok (.aload_n 0, 1) := by decide +kernel
theorem dX7_init_5 : decode cX7_init 5 = .ok (.sipush 256, 3) := by decide +kernel
theorem dX7_init_8 : decode cX7_init 8 = .ok (.newarray .int, 2) := by decide +kernel
theorem dX7_init_10 : decode cX7_init 10 = .ok (.putfield 9, 3) := by decide +kernel
theorem dX7_init_13 : decode cX7_init 13 = .ok (.return_, 1) := by decide +kernel
set_option maxRecDepth 20000 in
theorem ggX7_reckon_X3_everybody : GoodIn wsX7_reckon wsX3_everybody := goodIn_r _ [6, 7, 21, 22, 23, 24, 25, 26, 27, 28, 29, 30] (by decide +kernel) (by decide +kernel)
set_option maxRecDepth 20000 in
theorem gX7_reckon_X3_everybody : GoodIn wsX7_reckon (wsV RX7 15 RX3 yX3_everybody wsX3_everybody) := goodIn_app (goodIn_of _ (by decide +kernel)) ggX7_reckon_X3_everybody
set_option maxRecDepth 20000 in
theorem ggX7_reckon_X7_wholeOf : GoodIn wsX7_reckon wsX7_wholeOf := goodIn_r _ [12, 1, 13, 14, 15, 16, 17, 18, 19, 20, 31, 32, 33, 34, 35, 36, 37, 38] (by decide +kernel) (by decide +kernel)
set_option maxRecDepth 20000 in
theorem gX7_reckon_X7_wholeOf : GoodIn wsX7_reckon (wsV RX7 21 RX7 yX7_wholeOf wsX7_wholeOf) := goodIn_app (goodIn_of _ (by decide +kernel)) ggX7_reckon_X7_wholeOf
theorem dX7_reckon_0 : decode cX7_reckon 0 = .ok (.aload_n 0, 1) := by decide +kernel
theorem dX7_reckon_1 : decode cX7_reckon 1 = .ok (.getfield 9, 3) := by decide +kernel
theorem dX7_reckon_4 : decode cX7_reckon 4 = .ok (.iconst 0, 1) := by decide +kernel
theorem dX7_reckon_5 : decode cX7_reckon 5 = .ok (.iconst 0, 1) := by decide +kernel
theorem dX7_reckon_6 : decode cX7_reckon 6 = .ok (.iastore, 1) := by decide +kernel
theorem dX7_reckon_7 : decode cX7_reckon 7 = .ok (.iconst 1, 1) := by decide +kernel
theorem dX7_reckon_8 : decode cX7_reckon 8 = .ok (.istore_n 3, 1) := by decide +kernel
theorem dX7_reckon_9 : decode cX7_reckon 9 = .ok (.iload_n 3, 1) := by decide +kernel
theorem dX7_reckon_10 : decode cX7_reckon 10 = .ok (.aload_n 1, 1) := by decide +kernel
theorem dX7_reckon_11 : decode cX7_reckon 11 = .ok (.invokevirtual 15, 3) := by decide +kernel
theorem dX7_reckon_14 : decode cX7_reckon 14 = .ok (.if_icmp .gt 21, 3) := by decide +kernel
theorem dX7_reckon_17 : decode cX7_reckon 17 = .ok (.aload_n 0, 1) := by decide +kernel
theorem dX7_reckon_18 : decode cX7_reckon 18 = .ok (.getfield 9, 3) := by decide +kernel
theorem dX7_reckon_21 : decode cX7_reckon 21 = .ok (.iload_n 3, 1) := by decide +kernel
theorem dX7_reckon_22 : decode cX7_reckon 22 = .ok (.aload_n 0, 1) := by decide +kernel
theorem dX7_reckon_23 : decode cX7_reckon 23 = .ok (.aload_n 2, 1) := by decide +kernel
theorem dX7_reckon_24 : decode cX7_reckon 24 = .ok (.iload_n 3, 1) := by decide +kernel
theorem dX7_reckon_25 : decode cX7_reckon 25 = .ok (.invokevirtual 21, 3) := by decide +kernel
theorem dX7_reckon_28 : decode cX7_reckon 28 = .ok (.iastore, 1) := by decide +kernel
theorem dX7_reckon_29 : decode cX7_reckon 29 = .ok (.iinc 3 1, 3) := by decide +kernel
theorem dX7_reckon_32 : decode cX7_reckon 32 = .ok (.goto (-23), 3) := by decide +kernel
theorem dX7_reckon_35 : decode cX7_reckon 35 = .ok (.return_, 1) := by decide +kernel
theorem dX7_wholeOf_0 : decode cX7_wholeOf 0 = .ok (.iload_n 2, 1) := by decide +kernel
theorem dX7_wholeOf_1 : decode cX7_wholeOf 1 = .ok (.iload_n 2, 1) := by decide +kernel
theorem dX7_wholeOf_2 : decode cX7_wholeOf 2 = .ok (.ineg, 1) := by decide +kernel
theorem dX7_wholeOf_3 : decode cX7_wholeOf 3 = .ok (.iand, 1) := by decide +kernel
theorem dX7_wholeOf_4 : decode cX7_wholeOf 4 = .ok (.istore_n 3, 1) := by decide +kernel
theorem dX7_wholeOf_5 : decode cX7_wholeOf 5 = .ok (.aload_n 0, 1) := by decide +kernel
theorem dX7_wholeOf_6 : decode cX7_wholeOf 6 = .ok (.getfield 9, 3) := by decide +kernel
