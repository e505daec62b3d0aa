theorem dX3_init_51 : decode cX3_init 51 = .ok (.putfield 31, 3) := by decide +kernel
theorem dX3_init_54 : decode cX3_init 54 = .ok (.aload_n 0, 1) := by decide +kernel
theorem dX3_init_55 : decode cX3_init 55 = .ok (.iconst 5, 1) := by decide +kernel
theorem dX3_init_56 : decode cX3_init 56 = .ok (.newarray .int, 2) := by decide +kernel
theorem dX3_init_58 : decode cX3_init 58 = .ok (.putfield 34, 3) := by decide +kernel
theorem dX3_init_61 : decode cX3_init 61 = .ok (.aload_n 0, 1) := by decide +kernel
theorem dX3_init_62 : decode cX3_init 62 = .ok (.iconst 5, 1) := by decide +kernel
theorem dX3_init_63 : decode cX3_init 63 = .ok (.newarray .int, 2) := by decide +kernel
theorem dX3_init_65 : decode cX3_init 65 = .ok (.putfield 37, 3) := by decide +kernel
theorem dX3_init_68 : decode cX3_init 68 = .ok (.aload_n 0, 1) := by decide +kernel
theorem dX3_init_69 : decode cX3_init 69 = .ok (.iconst 5, 1) := by decide +kernel
theorem dX3_init_70 : decode cX3_init 70 = .ok (.newarray .int, 2) := by decide +kernel
theorem dX3_init_72 : decode cX3_init 72 = .ok (.putfield 40, 3) := by decide +kernel
theorem dX3_init_75 : decode cX3_init 75 = .ok (.return_, 1) := by decide +kernel
theorem dX3_empty_0 : decode cX3_empty 0 = .ok (.aload_n 0, 1) := by decide +kernel
theorem dX3_empty_1 : decode cX3_empty 1 = .ok (.iconst 0, 1) := by decide +kernel
theorem dX3_empty_2 : decode cX3_empty 2 = .ok (.putfield 9, 3) := by decide +kernel
theorem dX3_empty_5 : decode cX3_empty 5 = .ok (.aload_n 0, 1) := by decide +kernel
theorem dX3_empty_6 : decode cX3_empty 6 = .ok (.iconst 0, 1) := by decide +kernel
theorem dX3_empty_7 : decode cX3_empty 7 = .ok (.putfield 15, 3) := by decide +kernel
theorem dX3_empty_10 : decode cX3_empty 10 = .ok (.return_, 1) := by decide +kernel
theorem dX3_addHalf_0 : decode cX3_addHalf 0 = .ok (.aload_n 0, 1) := by decide +kernel
theorem dX3_addHalf_1 : decode cX3_addHalf 1 = .ok (.getfield 9, 3) := by decide +kernel
theorem dX3_addHalf_4 : decode cX3_addHalf 4 = .ok (.bipush 8, 2) := by decide +kernel
theorem dX3_addHalf_6 : decode cX3_addHalf 6 = .ok (.if_icmp .ge 64, 3) := by decide +kernel
theorem dX3_addHalf_9 : decode cX3_addHalf 9 = .ok (.aload_n 0, 1) := by decide +kernel
theorem dX3_addHalf_10 : decode cX3_addHalf 10 = .ok (.getfield 18, 3) := by decide +kernel
theorem dX3_addHalf_13 : decode cX3_addHalf 13 = .ok (.aload_n 0, 1) := by decide +kernel
theorem dX3_addHalf_14 : decode cX3_addHalf 14 = .ok (.getfield 9, 3) := by decide +kernel
theorem dX3_addHalf_17 : decode cX3_addHalf 17 = .ok (.iload_n 1, 1) := by decide +kernel
theorem dX3_addHalf_18 : decode cX3_addHalf 18 = .ok (.iastore, 1) := by decide +kernel
theorem dX3_addHalf_19 : decode cX3_addHalf 19 = .ok (.aload_n 0, 1) := by decide +kernel
theorem dX3_addHalf_20 : decode cX3_addHalf 20 = .ok (.getfield 22, 3) := by decide +kernel
theorem dX3_addHalf_23 : decode cX3_addHalf 23 = .ok (.aload_n 0, 1) := by decide +kernel
theorem dX3_addHalf_24 : decode cX3_addHalf 24 = .ok (.getfield 9, 3) := by decide +kernel
theorem dX3_addHalf_27 : decode cX3_addHalf 27 = .ok (.iload_n 2, 1) := by decide +kernel
theorem dX3_addHalf_28 : decode cX3_addHalf 28 = .ok (.iastore, 1) := by decide +kernel
theorem dX3_addHalf_29 : decode cX3_addHalf 29 = .ok (.aload_n 0, 1) := by decide +kernel
theorem dX3_addHalf_30 : decode cX3_addHalf 30 = .ok (.getfield 25, 3) := by decide +kernel
theorem dX3_addHalf_33 : decode cX3_addHalf 33 = .ok (.aload_n 0, 1) := by decide +kernel
theorem dX3_addHalf_34 : decode cX3_addHalf 34 = .ok (.getfield 9, 3) := by decide +kernel
theorem dX3_addHalf_37 : decode cX3_addHalf 37 = .ok (.iload_n 3, 1) := by decide +kernel
theorem dX3_addHalf_38 : decode cX3_addHalf 38 = .ok (.iastore, 1) := by decide +kernel
theorem dX3_addHalf_39 : decode cX3_addHalf 39 = .ok (.aload_n 0, 1) := by decide +kernel
theorem dX3_addHalf_40 : decode cX3_addHalf 40 = .ok (.getfield 28, 3) := by decide +kernel
theorem dX3_addHalf_43 : decode cX3_addHalf 43 = .ok (.aload_n 0, 1) := by decide +kernel
theorem dX3_addHalf_44 : decode cX3_addHalf 44 = .ok (.getfield 9, 3) := by decide +kernel
theorem dX3_addHalf_47 : decode cX3_addHalf 47 = .ok (.iload 4, 2) := by decide +kernel
theorem dX3_addHalf_49 : decode cX3_addHalf 49 = .ok (.iastore, 1) := by decide +kernel
theorem dX3_addHalf_50 : decode cX3_addHalf 50 = .ok (.aload_n 0, 1) := by decide +kernel
theorem dX3_addHalf_51 : decode cX3_addHalf 51 = .ok (.getfield 31, 3) := by decide +kernel
theorem dX3_addHalf_54 : decode cX3_addHalf 54 = .ok (.aload_n 0, 1) := by decide +kernel
theorem dX3_addHalf_55 : decode cX3_addHalf 55 = .ok (.getfield 9, 3) := by decide +kernel
theorem dX3_addHalf_58 : decode cX3_addHalf 58 = .ok (.iconst 0, 1) := by decide +kernel
theorem dX3_addHalf_59 : decode cX3_addHalf 59 = .ok (.iastore, 1) := by decide +kernel
theorem dX3_addHalf_60 : decode cX3_addHalf 60 = .ok (.aload_n 0, 1) := by decide +kernel
theorem dX3_addHalf_61 : decode cX3_addHalf 61 = .ok (.dup, 1) := by decide +kernel
theorem dX3_addHalf_62 : decode cX3_addHalf 62 = .ok (.getfield 9, 3) := by decide +kernel
theorem dX3_addHalf_65 : decode cX3_addHalf 65 = .ok (.iconst 1, 1) := by decide +kernel
theorem dX3_addHalf_66 : decode cX3_addHalf 66 = .ok (.iadd, 1) := by decide +kernel
theorem dX3_addHalf_67 : decode cX3_addHalf 67 = .ok (.putfield 9, 3) := by decide +kernel
theorem dX3_addHalf_70 : decode cX3_addHalf 70 = .ok (.return_, 1) := by decide +kernel
set_option maxRecDepth 20000 in
theorem ggX3_addQuarrel_X3_hasHalf : GoodIn wsX3_addQuarrel wsX3_hasHalf := goodIn_r _ [6, 7, 8, 9, 10, 11, 12, 13, 14, 15, 16, 17] (by decide +kernel) (by decide +kernel)
set_option maxRecDepth 20000 in
theorem gX3_addQuarrel_X3_hasHalf : GoodIn wsX3_addQuarrel (wsV RX3 43 RX3 yX3_hasHalf wsX3_hasHalf) := goodIn_app (goodIn_of _ (by decide +kernel)) ggX3_addQuarrel_X3_hasHalf
theorem dX3_addQuarrel_0 : decode cX3_addQuarrel 0 = .ok (.aload_n 0, 1) := by decide +kernel
theorem dX3_addQuarrel_1 : decode cX3_addQuarrel 1 = .ok (.iload_n 1, 1) := by decide +kernel
theorem dX3_addQuarrel_2 : decode cX3_addQuarrel 2 = .ok (.invokevirtual 43, 3) := by decide +kernel
theorem dX3_addQuarrel_5 : decode cX3_addQuarrel 5 = .ok (.ifCond .eq 35, 3) := by decide +kernel
theorem dX3_addQuarrel_8 : decode cX3_addQuarrel 8 = .ok (.aload_n 0, 1) := by decide +kernel
theorem dX3_addQuarrel_9 : decode cX3_addQuarrel 9 = .ok (.iload_n 2, 1) := by decide +kernel
theorem dX3_addQuarrel_10 : decode cX3_addQuarrel 10 = .ok (.invokevirtual 43, 3) := by decide +kernel
theorem dX3_addQuarrel_13 : decode cX3_addQuarrel 13 = .ok (.ifCond .eq 27, 3) := by decide +kernel
theorem dX3_addQuarrel_16 : decode cX3_addQuarrel 16 = .ok (.aload_n 0, 1) := by decide +kernel
theorem dX3_addQuarrel_17 : decode cX3_addQuarrel 17 = .ok (.getfield 31, 3) := by decide +kernel
theorem dX3_addQuarrel_20 : decode cX3_addQuarrel 20 = .ok (.iload_n 1, 1) := by decide +kernel
theorem dX3_addQuarrel_21 : decode cX3_addQuarrel 21 = .ok (.dup2, 1) := by decide +kernel
theorem dX3_addQuarrel_22 : decode cX3_addQuarrel 22 = .ok (.iaload, 1) := by decide +kernel
theorem dX3_addQuarrel_23 : decode cX3_addQuarrel 23 = .ok (.iconst 1, 1) := by decide +kernel
theorem dX3_addQuarrel_24 : decode cX3_addQuarrel 24 = .ok (.iload_n 2, 1) := by decide +kernel
theorem dX3_addQuarrel_25 : decode cX3_addQuarrel 25 = .ok (.ishl, 1) := by decide +kernel
theorem dX3_addQuarrel_26 : decode cX3_addQuarrel 26 = .ok (.ior, 1) := by decide +kernel
theorem dX3_addQuarrel_27 : decode cX3_addQuarrel 27 = .ok (.iastore, 1) := by decide +kernel
theorem dX3_addQuarrel_28 : decode cX3_addQuarrel 28 = .ok (.aload_n 0, 1) := by decide +kernel
theorem dX3_addQuarrel_29 : decode cX3_addQuarrel 29 = .ok (.getfield 31, 3) := by decide +kernel
theorem dX3_addQuarrel_32 : decode cX3_addQuarrel 32 = .ok (.iload_n 2, 1) := by decide +kernel
theorem dX3_addQuarrel_33 : decode cX3_addQuarrel 33 = .ok (.dup2, 1) := by decide +kernel
theorem dX3_addQuarrel_34 : decode cX3_addQuarrel 34 = .ok (.iaload, 1) := by decide +kernel
theorem dX3_addQuarrel_35 : decode cX3_addQuarrel 35 = .ok (.iconst 1, 1) := by decide +kernel
theorem dX3_addQuarrel_36 : decode cX3_addQuarrel 36 = .ok (.iload_n 1, 1) := by decide +kernel
theorem dX3_addQuarrel_37 : decode cX3_addQuarrel 37 = .ok (.ishl, 1) := by decide +kernel
theorem dX3_addQuarrel_38 : decode cX3_addQuarrel 38 = .ok (.ior, 1) := by decide +kernel
theorem dX3_addQuarrel_39 : decode cX3_addQuarrel 39 = .ok (.iastore, 1) := by decide +kernel
theorem dX3_addQuarrel_40 : decode cX3_addQuarrel 40 = .ok (.return_, 1) := by decide +kernel
theorem dX3_addTree_0 : decode cX3_addTree 0 = .ok (.aload_n 0, 1) := by decide +kernel
theorem dX3_addTree_1 : decode cX3_addTree 1 = .ok (.getfield 15, 3) := by decide +kernel
theorem dX3_addTree_4 : decode cX3_addTree 4 = .ok (.iconst 5, 1) := by decide +kernel
theorem dX3_addTree_5 : decode cX3_addTree 5 = .ok (.if_icmp .ge 43, 3) := by decide +kernel
theorem dX3_addTree_8 : decode cX3_addTree 8 = .ok (.aload_n 0, 1) := by decide +kernel
theorem dX3_addTree_9 : decode cX3_addTree 9 = .ok (.getfield 34, 3) := by decide +kernel
theorem dX3_addTree_12 : decode cX3_addTree 12 = .ok (.aload_n 0, 1) := by decide +kernel
theorem dX3_addTree_13 : decode cX3_addTree 13 = .ok (.getfield 15, 3) := by decide +kernel
theorem dX3_addTree_16 : decode cX3_addTree 16 = .ok (.iload_n 1, 1) := by decide +kernel
theorem dX3_addTree_17 : decode cX3_addTree 17 = .ok (.iastore, 1) := by decide +kernel
theorem dX3_addTree_18 : decode cX3_addTree 18 = .ok (.aload_n 0, 1) := by decide +kernel
theorem dX3_addTree_19 : decode cX3_addTree 19 = .ok (.getfield 37, 3) := by decide +kernel
theorem dX3_addTree_22 : decode cX3_addTree 22 = .ok (.aload_n 0, 1) := by decide +kernel
theorem dX3_addTree_23 : decode cX3_addTree 23 = .ok (.getfield 15, 3) := by decide +kernel
theorem dX3_addTree_26 : decode cX3_addTree 26 = .ok (.iload_n 2, 1) := by decide +kernel
theorem dX3_addTree_27 : decode cX3_addTree 27 = .ok (.iastore, 1) := by decide +kernel
theorem dX3_addTree_28 : decode cX3_addTree 28 = .ok (.aload_n 0, 1) := by decide +kernel
theorem dX3_addTree_29 : decode cX3_addTree 29 = .ok (.getfield 40, 3) := by decide +kernel
theorem dX3_addTree_32 : decode cX3_addTree 32 = .ok (.aload_n 0, 1) := by decide +kernel
theorem dX3_addTree_33 : decode cX3_addTree 33 = .ok (.getfield 15, 3) := by decide +kernel
theorem dX3_addTree_36 : decode cX3_addTree 36 = .ok (.iload_n 3, 1) := by decide +kernel
theorem dX3_addTree_37 : decode cX3_addTree 37 = .ok (.iastore, 1) := by decide +kernel
theorem dX3_addTree_38 : decode cX3_addTree 38 = .ok (.aload_n 0, 1) := by decide +kernel
theorem dX3_addTree_39 : decode cX3_addTree 39 = .ok (.dup, 1) := by decide +kernel
theorem dX3_addTree_40 : decode cX3_addTree 40 = .ok (.getfield 15, 3) := by decide +kernel
theorem dX3_addTree_43 : decode cX3_addTree 43 = .ok (.iconst 1, 1) := by decide +kernel
theorem dX3_addTree_44 : decode cX3_addTree 44 = .ok (.iadd, 1) := by decide +kernel
theorem dX3_addTree_45 : decode cX3_addTree 45 = .ok (.putfield 15, 3) := by decide +kernel
theorem dX3_addTree_48 : decode cX3_addTree 48 = .ok (.return_, 1) := by decide +kernel
theorem dX3_hasHalf_0 : decode cX3_hasHalf 0 = .ok (.iload_n 1, 1) := by decide +kernel
theorem dX3_hasHalf_1 : decode cX3_hasHalf 1 = .ok (.ifCond .lt 15, 3) := by decide +kernel
theorem dX3_hasHalf_4 : decode cX3_hasHalf 4 = .ok (.iload_n 1, 1) := by decide +kernel
theorem dX3_hasHalf_5 : decode cX3_hasHalf 5 = .ok (.aload_n 0, 1) := by decide +kernel
theorem dX3_hasHalf_6 : decode cX3_hasHalf 6 = .ok (.getfield 9, 3) := by decide +kernel
theorem dX3_hasHalf_9 : decode cX3_hasHalf 9 = .ok (.if_icmp .ge 7, 3) := by decide +kernel
theorem dX3_hasHalf_12 : decode cX3_hasHalf 12 = .ok (.iconst 1, 1) := by decide +kernel
theorem dX3_hasHalf_13 : decode cX3_hasHalf 13 = .ok (.goto 4, 3) := by decide +kernel
theorem dX3_hasHalf_16 : decode cX3_hasHalf 16 = .ok (.iconst 0, 1) := by decide +kernel
theorem dX3_hasHalf_17 : decode cX3_hasHalf 17 = .ok (.ireturn, 1) := by decide +kernel
theorem dX3_hasTree_0 : decode cX3_hasTree 0 = .ok (.iload_n 1, 1) := by decide +kernel
theorem dX3_hasTree_1 : decode cX3_hasTree 1 = .ok (.ifCond .lt 15, 3) := by decide +kernel
theorem dX3_hasTree_4 : decode cX3_hasTree 4 = .ok (.iload_n 1, 1) := by decide +kernel
theorem dX3_hasTree_5 : decode cX3_hasTree 5 = .ok (.aload_n 0, 1) := by decide +kernel
theorem dX3_hasTree_6 : decode cX3_hasTree 6 = .ok (.getfield 15, 3) := by decide +kernel
theorem dX3_hasTree_9 : decode cX3_hasTree 9 = .ok (.if_icmp .ge 7, 3) := by decide +kernel
theorem dX3_hasTree_12 : decode cX3_hasTree 12 = .ok (.iconst 1, 1) := by decide +kernel
theorem dX3_hasTree_13 : decode cX3_hasTree 13 = .ok (.goto 4, 3) := by decide +kernel
theorem dX3_hasTree_16 : decode cX3_hasTree 16 = .ok (.iconst 0, 1) := by decide +kernel
theorem dX3_hasTree_17 : decode cX3_hasTree 17 = .ok (.ireturn, 1) := by decide +kernel
theorem dX3_everybody_0 : decode cX3_everybody 0 = .ok (.iconst 1, 1) := by decide +kernel
theorem dX3_everybody_1 : decode cX3_everybody 1 = .ok (.aload_n 0, 1) := by decide +kernel
theorem dX3_everybody_2 : decode cX3_everybody 2 = .ok (.getfield 9, 3) := by decide +kernel
theorem dX3_everybody_5 : decode cX3_everybody 5 = .ok (.ishl, 1) := by decide +kernel
theorem dX3_everybody_6 : decode cX3_everybody 6 = .ok (.iconst 1, 1) := by decide +kernel
theorem dX3_everybody_7 : decode cX3_everybody 7 = .ok (.isub, 1) := by decide +kernel
theorem dX3_everybody_8 : decode cX3_everybody 8 = .ok (.ireturn, 1) := by decide +kernel
set_option maxRecDepth 20000 in
theorem ggX3_couldFit_X3_hasHalf : GoodIn wsX3_couldFit wsX3_hasHalf := goodIn_r _ [7, 8, 9, 10, 11, 12, 13, 14, 15, 16, 17, 18] (by decide +kernel) (by decide +kernel)
set_option maxRecDepth 20000 in
theorem gX3_couldFit_X3_hasHalf : GoodIn wsX3_couldFit (wsV RX3 43 RX3 yX3_hasHalf wsX3_hasHalf) := goodIn_app (goodIn_of _ (by decide +kernel)) ggX3_couldFit_X3_hasHalf
theorem dX3_couldFit_0 : decode cX3_couldFit 0 = .ok (.aload_n 0, 1) := by decide +kernel
theorem dX3_couldFit_1 : decode cX3_couldFit 1 = .ok (.iload_n 1, 1) := by decide +kernel
theorem dX3_couldFit_2 : decode cX3_couldFit 2 = .ok (.invokevirtual 43, 3) := by decide +kernel
theorem dX3_couldFit_5 : decode cX3_couldFit 5 = .ok (.ifCond .eq 43, 3) := by decide +kernel
theorem dX3_couldFit_8 : decode cX3_couldFit 8 = .ok (.aload_n 0, 1) := by decide +kernel
theorem dX3_couldFit_9 : decode cX3_couldFit 9 = .ok (.iload_n 2, 1) := by decide +kernel
theorem dX3_couldFit_10 : decode cX3_couldFit 10 = .ok (.invokevirtual 43, 3) := by decide +kernel
theorem dX3_couldFit_13 : decode cX3_couldFit 13 = .ok (.ifCond .eq 35, 3) := by decide +kernel
theorem dX3_couldFit_16 : decode cX3_couldFit 16 = .ok (.aload_n 0, 1) := by decide +kernel
theorem dX3_couldFit_17 : decode cX3_couldFit 17 = .ok (.getfield 18, 3) := by decide +kernel
theorem dX3_couldFit_20 : decode cX3_couldFit 20 = .ok (.iload_n 1, 1) := by decide +kernel
theorem dX3_couldFit_21 : decode cX3_couldFit 21 = .ok (.iaload, 1) := by decide +kernel
theorem dX3_couldFit_22 : decode cX3_couldFit 22 = .ok (.aload_n 0, 1) := by decide +kernel
theorem dX3_couldFit_23 : decode cX3_couldFit 23 = .ok (.getfield 18, 3) := by decide +kernel
theorem dX3_couldFit_26 : decode cX3_couldFit 26 = .ok (.iload_n 2, 1) := by decide +kernel
theorem dX3_couldFit_27 : decode cX3_couldFit 27 = .ok (.iaload, 1) := by decide +kernel
theorem dX3_couldFit_28 : decode cX3_couldFit 28 = .ok (.if_icmp .eq 20, 3) := by decide +kernel
theorem dX3_couldFit_31 : decode cX3_couldFit 31 = .ok (.aload_n 0, 1) := by decide +kernel
theorem dX3_couldFit_32 : decode cX3_couldFit 32 = .ok (.getfield 31, 3) := by decide +kernel
theorem dX3_couldFit_35 : decode cX3_couldFit 35 = .ok (.iload_n 1, 1) := by decide +kernel
theorem dX3_couldFit_36 : decode cX3_couldFit 36 = .ok (.iaload, 1) := by decide +kernel
theorem dX3_couldFit_37 : decode cX3_couldFit 37 = .ok (.iload_n 2, 1) := by decide +kernel
theorem dX3_couldFit_38 : decode cX3_couldFit 38 = .ok (.ishr, 1) := by decide +kernel
theorem dX3_couldFit_39 : decode cX3_couldFit 39 = .ok (.iconst 1, 1) := by decide +kernel
theorem dX3_couldFit_40 : decode cX3_couldFit 40 = .ok (.iand, 1) := by decide +kernel
theorem dX3_couldFit_41 : decode cX3_couldFit 41 = .ok (.ifCond .ne 7, 3) := by decide +kernel
theorem dX3_couldFit_44 : decode cX3_couldFit 44 = .ok (.iconst 1, 1) := by decide +kernel
theorem dX3_couldFit_45 : decode cX3_couldFit 45 = .ok (.goto 4, 3) := by decide +kernel
theorem dX3_couldFit_48 : decode cX3_couldFit 48 = .ok (.iconst 0, 1) := by decide +kernel
theorem dX3_couldFit_49 : decode cX3_couldFit 49 = .ok (.ireturn, 1) := by decide +kernel
set_option maxRecDepth 20000 in
theorem ggX3_fits_X3_couldFit : GoodIn wsX3_fits wsX3_couldFit := goodIn_r _ [6, 7, 8, 9, 10, 11, 5, 12, 13, 14, 15, 16, 17, 18, 19, 20, 21, 22, 23] (by decide +kernel) (by decide +kernel)
set_option maxRecDepth 20000 in
theorem gX3_fits_X3_couldFit : GoodIn wsX3_fits (wsV RX3 47 RX3 yX3_couldFit wsX3_couldFit) := goodIn_app (goodIn_of _ (by decide +kernel)) ggX3_fits_X3_couldFit
theorem dX3_fits_0 : decode cX3_fits 0 = .ok (.aload_n 0, 1) := by decide +kernel
theorem dX3_fits_1 : decode cX3_fits 1 = .ok (.iload_n 1, 1) := by decide +kernel
theorem dX3_fits_2 : decode cX3_fits 2 = .ok (.iload_n 2, 1) := by decide +kernel
theorem dX3_fits_3 : decode cX3_fits 3 = .ok (.invokevirtual 47, 3) := by decide +kernel
theorem dX3_fits_6 : decode cX3_fits 6 = .ok (.ifCond .eq 22, 3) := by decide +kernel
theorem dX3_fits_9 : decode cX3_fits 9 = .ok (.aload_n 0, 1) := by decide +kernel
theorem dX3_fits_10 : decode cX3_fits 10 = .ok (.getfield 22, 3) := by decide +kernel
theorem dX3_fits_13 : decode cX3_fits 13 = .ok (.iload_n 1, 1) := by decide +kernel
theorem dX3_fits_14 : decode cX3_fits 14 = .ok (.iaload, 1) := by decide +kernel
theorem dX3_fits_15 : decode cX3_fits 15 = .ok (.aload_n 0, 1) := by decide +kernel
theorem dX3_fits_16 : decode cX3_fits 16 = .ok (.getfield 22, 3) := by decide +kernel
theorem dX3_fits_19 : decode cX3_fits 19 = .ok (.iload_n 2, 1) := by decide +kernel
theorem dX3_fits_20 : decode cX3_fits 20 = .ok (.iaload, 1) := by decide +kernel
theorem dX3_fits_21 : decode cX3_fits 21 = .ok (.if_icmp .ne 7, 3) := by decide +kernel
theorem dX3_fits_24 : decode cX3_fits 24 = .ok (.iconst 1, 1) := by decide +kernel
theorem dX3_fits_25 : decode cX3_fits 25 = .ok (.goto 4, 3) := by decide +kernel
theorem dX3_fits_28 : decode cX3_fits 28 = .ok (.iconst 0, 1) := by decide +kernel
theorem dX3_fits_29 : decode cX3_fits 29 = .ok (.ireturn, 1) := by decide +kernel
set_option maxRecDepth 20000 in
theorem ggX3_quarrelPairs_J6_bitCount_0f7a4 : GoodIn wsX3_quarrelPairs wsJ6_bitCount_0f7a4 := goodIn_r _ [6, 7, 8, 9] (by decide +kernel) (by decide +kernel)
set_option maxRecDepth 20000 in
theorem gX3_quarrelPairs_J6_bitCount_0f7a4 : GoodIn wsX3_quarrelPairs (va_wsS RX3 51 yJ6_bitCount_0f7a4 wsJ6_bitCount_0f7a4) := goodIn_app (goodIn_of _ (by decide +kernel)) ggX3_quarrelPairs_J6_bitCount_0f7a4
theorem dX3_quarrelPairs_0 : decode cX3_quarrelPairs 0 = .ok (.iconst 0, 1) := by decide +kernel
theorem dX3_quarrelPairs_1 : decode cX3_quarrelPairs 1 = .ok (.istore_n 1, 1) := by decide +kernel
theorem dX3_quarrelPairs_2 : decode cX3_quarrelPairs 2 = .ok (.iconst 0, 1) := by decide +kernel
theorem dX3_quarrelPairs_3 : decode cX3_quarrelPairs 3 = .ok (.istore_n 2, 1) := by decide +kernel
theorem dX3_quarrelPairs_4 : decode cX3_quarrelPairs 4 = .ok (.iload_n 2, 1) := by decide +kernel
theorem dX3_quarrelPairs_5 : decode cX3_quarrelPairs 5 = .ok (.aload_n 0, 1) := by decide +kernel
theorem dX3_quarrelPairs_6 : decode cX3_quarrelPairs 6 = .ok (.getfield 9, 3) := by decide +kernel
theorem dX3_quarrelPairs_9 : decode cX3_quarrelPairs 9 = .ok (.if_icmp .ge 21, 3) := by decide +kernel
theorem dX3_quarrelPairs_12 : decode cX3_quarrelPairs 12 = .ok (.iload_n 1, 1) := by decide +kernel
theorem dX3_quarrelPairs_13 : decode cX3_quarrelPairs 13 = .ok (.aload_n 0, 1) := by decide +kernel
theorem dX3_quarrelPairs_14 : decode cX3_quarrelPairs 14 = .ok (.getfield 31, 3) := by decide +kernel
theorem dX3_quarrelPairs_17 : decode cX3_quarrelPairs 17 = .ok (.iload_n 2, 1) := by decide +kernel
theorem dX3_quarrelPairs_18 : decode cX3_quarrelPairs 18 = .ok (.iaload, 1) := by decide +kernel
theorem dX3_quarrelPairs_19 : decode cX3_quarrelPairs 19 = .ok (.invokestatic 51, 3) := by decide +kernel
theorem dX3_quarrelPairs_22 : decode cX3_quarrelPairs 22 = .ok (.iadd, 1) := by decide +kernel
theorem dX3_quarrelPairs_23 : decode cX3_quarrelPairs 23 = .ok (.istore_n 1, 1) := by decide +kernel
theorem dX3_quarrelPairs_24 : decode cX3_quarrelPairs 24 = .ok (.iinc 2 1, 3) := by decide +kernel
theorem dX3_quarrelPairs_27 : decode cX3_quarrelPairs 27 = .ok (.goto (-23), 3) := by decide +kernel
theorem dX3_quarrelPairs_30 : decode cX3_quarrelPairs 30 = .ok (.iload_n 1, 1) := by decide +kernel
theorem dX3_quarrelPairs_31 : decode cX3_quarrelPairs 31 = .ok (.iconst 2, 1) := by decide +kernel
theorem dX3_quarrelPairs_32 : decode cX3_quarrelPairs 32 = .ok (.idiv, 1) := by decide +kernel
theorem dX3_quarrelPairs_33 : decode cX3_quarrelPairs 33 = .ok (.ireturn, 1) := by decide +kernel
set_option maxRecDepth 20000 in
theorem ggX3_isRipe_X3_hasTree : GoodIn wsX3_isRipe wsX3_hasTree := goodIn_r _ [6, 7, 8, 9, 10, 11, 12, 13, 14, 15, 16, 17] (by decide +kernel) (by decide +kernel)
set_option maxRecDepth 20000 in
theorem gX3_isRipe_X3_hasTree : GoodIn wsX3_isRipe (wsV RX3 57 RX3 yX3_hasTree wsX3_hasTree) := goodIn_app (goodIn_of _ (by decide +kernel)) ggX3_isRipe_X3_hasTree
theorem dX3_isRipe_0 : decode cX3_isRipe 0 = .ok (.aload_n 0, 1) := by decide +kernel
theorem dX3_isRipe_1 : decode cX3_isRipe 1 = .ok (.iload_n 1, 1) := by decide +kernel
theorem dX3_isRipe_2 : decode cX3_isRipe 2 = .ok (.invokevirtual 57, 3) := by decide +kernel
theorem dX3_isRipe_5 : decode cX3_isRipe 5 = .ok (.ifCond .eq 29, 3) := by decide +kernel
theorem dX3_isRipe_8 : decode cX3_isRipe 8 = .ok (.iload_n 2, 1) := by decide +kernel
theorem dX3_isRipe_9 : decode cX3_isRipe 9 = .ok (.aload_n 0, 1) := by decide +kernel
theorem dX3_isRipe_10 : decode cX3_isRipe 10 = .ok (.getfield 37, 3) := by decide +kernel
theorem dX3_isRipe_13 : decode cX3_isRipe 13 = .ok (.iload_n 1, 1) := by decide +kernel
theorem dX3_isRipe_14 : decode cX3_isRipe 14 = .ok (.iaload, 1) := by decide +kernel
theorem dX3_isRipe_15 : decode cX3_isRipe 15 = .ok (.if_icmp .lt 19, 3) := by decide +kernel
theorem dX3_isRipe_18 : decode cX3_isRipe 18 = .ok (.iload_n 2, 1) := by decide +kernel
theorem dX3_isRipe_19 : decode cX3_isRipe 19 = .ok (.aload_n 0, 1) := by decide +kernel
theorem dX3_isRipe_20 : decode cX3_isRipe 20 = .ok (.getfield 37, 3) := by decide +kernel
theorem dX3_isRipe_23 : decode cX3_isRipe 23 = .ok (.iload_n 1, 1) := by decide +kernel
theorem dX3_isRipe_24 : decode cX3_isRipe 24 = .ok (.iaload, 1) := by decide +kernel
theorem dX3_isRipe_25 : decode cX3_isRipe 25 = .ok (.iconst 3, 1) := by decide +kernel
theorem dX3_isRipe_26 : decode cX3_isRipe 26 = .ok (.iadd, 1) := by decide +kernel
theorem dX3_isRipe_27 : decode cX3_isRipe 27 = .ok (.if_icmp .gt 7, 3) := by decide +kernel
theorem dX3_isRipe_30 : decode cX3_isRipe 30 = .ok (.iconst 1, 1) := by decide +kernel
theorem dX3_isRipe_31 : decode cX3_isRipe 31 = .ok (.goto 4, 3) := by decide +kernel
theorem dX3_isRipe_34 : decode cX3_isRipe 34 = .ok (.iconst 0, 1) := by decide +kernel
theorem dX3_isRipe_35 : decode cX3_isRipe 35 = .ok (.ireturn, 1) := by decide +kernel
theorem dX4_init_0 : decode cX4_init 0 = .ok (.aload_n 0, 1) := by decide +kernel
theorem dX4_init_1 : decode cX4_init 1 = .ok (.invokespecial 3, 3) := by decide +kernel
theorem dX4_init_4 : decode cX4_init 4 = .ok (.aload_n 0, 1) := by decide +kernel
theorem dX4_init_5 : decode cX4_init 5 = .ok (.iconst 0, 1) := by decide +kernel
theorem dX4_init_6 : decode cX4_init 6 = .ok (.putfield 9, 3) := by decide +kernel
theorem dX4_init_9 : decode cX4_init 9 = .ok (.aload_n 0, 1) := by decide +kernel
theorem dX4_init_10 : decode cX4_init 10 = .ok (.iconst 0, 1) := by decide +kernel
theorem dX4_init_11 : decode cX4_init 11 = .ok (.putfield 15, 3) := by decide +kernel
theorem dX4_init_14 : decode cX4_init 14 = .ok (.aload_n 0, 1) := by decide +kernel
theorem dX4_init_15 : decode cX4_init 15 = .ok (.bipush 16, 2) := by decide +kernel
theorem dX4_init_17 : decode cX4_init 17 = .ok (.newarray .int, 2) := by decide +kernel
theorem dX4_init_19 : decode cX4_init 19 = .ok (.putfield 18, 3) := by decide +kernel
theorem dX4_init_22 : decode cX4_init 22 = .ok (.aload_n 0, 1) := by decide +kernel
theorem dX4_init_23 : decode cX4_init 23 = .ok (.bipush 16, 2) := by decide +kernel
theorem dX4_init_25 : decode cX4_init 25 = .ok (.newarray .int, 2) := by decide +kernel
theorem dX4_init_27 : decode cX4_init 27 = .ok (.putfield 22, 3) := by decide +kernel
theorem dX4_init_30 : decode cX4_init 30 = .ok (.aload_n 0, 1) := by decide +kernel
theorem dX4_init_31 : decode cX4_init 31 = .ok (.bipush 16, 2) := by decide +kernel
theorem dX4_init_33 : decode cX4_init 33 = .ok (.newarray .int, 2) := by decide +kernel
theorem dX4_init_35 : decode cX4_init 35 = .ok (.putfield 25, 3) := by decide +kernel
theorem dX4_init_38 : decode cX4_init 38 = .ok (.aload_n 0, 1) := by decide +kernel
theorem dX4_init_39 : decode cX4_init 39 = .ok (.bipush 16, 2) := by decide +kernel
theorem dX4_init_41 : decode cX4_init 41 = .ok (.newarray .int, 2) := by decide +kernel
theorem dX4_init_43 : decode cX4_init 43 = .ok (.putfield 28, 3) := by decide +kernel
theorem dX4_init_46 : decode cX4_init 46 = .ok (.aload_n 0, 1) := by decide +kernel
theorem dX4_init_47 : decode cX4_init 47 = .ok (.bipush 16, 2) := by decide +kernel
theorem dX4_init_49 : decode cX4_init 49 = .ok (.newarray .int, 2) := by decide +kernel
theorem dX4_init_51 : decode cX4_init 51 = .ok (.putfield 31, 3) := by decide +kernel
theorem dX4_init_54 : decode cX4_init 54 = .ok (.aload_n 0, 1) := by decide +kernel
theorem dX4_init_55 : decode cX4_init 55 = .ok (.bipush 16, 2) := by decide +kernel
theorem dX4_init_57 : decode cX4_init 57 = .ok (.newarray .int, 2) := by decide +kernel
theorem dX4_init_59 : decode cX4_init 59 = .ok (.putfield 34, 3) := by decide +kernel
theorem dX4_init_62 : decode cX4_init 62 = .ok (.return_, 1) := by decide +kernel
set_option maxRecDepth 20000 in
theorem ggX4_list_X4_listOf : GoodIn wsX4_list wsX4_listOf := goodIn_r _ [9, 3, 1, 10, 11, 12, 13, 14, 15, 16, 17, 18, 19, 20, 21, 22, 23, 24, 25, 26, 27, 28, 29, 30, 31, 32, 33, 34, 35, 36, 37, 38, 39, 48, 49, 50, 51, 52, 53, 54, 55, 56, 57, 40, 41, 42, 43, 44, 45, 46, 47] (by decide +kernel) (by decide +kernel)
set_option maxRecDepth 20000 in
theorem gX4_list_X4_listOf : GoodIn wsX4_list (wsV RX4 45 RX4 yX4_listOf wsX4_listOf) := goodIn_app (goodIn_of _ (by decide +kernel)) ggX4_list_X4_listOf
theorem dX4_list_0 : decode cX4_list 0 = .ok (.aload_n 0, 1) := by decide +kernel
theorem dX4_list_1 : decode cX4_list 1 = .ok (.iconst 0, 1) := by decide +kernel
theorem dX4_list_2 : decode cX4_list 2 = .ok (.putfield 9, 3) := by decide +kernel
theorem dX4_list_5 : decode cX4_list 5 = .ok (.aload_n 0, 1) := by decide +kernel
theorem dX4_list_6 : decode cX4_list 6 = .ok (.iconst 0, 1) := by decide +kernel
theorem dX4_list_7 : decode cX4_list 7 = .ok (.putfield 15, 3) := by decide +kernel
theorem dX4_list_10 : decode cX4_list 10 = .ok (.iconst 0, 1) := by decide +kernel
theorem dX4_list_11 : decode cX4_list 11 = .ok (.istore_n 2, 1) := by decide +kernel
theorem dX4_list_12 : decode cX4_list 12 = .ok (.iload_n 2, 1) := by decide +kernel
theorem dX4_list_13 : decode cX4_list 13 = .ok (.aload_n 1, 1) := by decide +kernel
theorem dX4_list_14 : decode cX4_list 14 = .ok (.getfield 37, 3) := by decide +kernel
theorem dX4_list_17 : decode cX4_list 17 = .ok (.if_icmp .ge 36, 3) := by decide +kernel
theorem dX4_list_20 : decode cX4_list 20 = .ok (.aload_n 1, 1) := by decide +kernel
theorem dX4_list_21 : decode cX4_list 21 = .ok (.getfield 42, 3) := by decide +kernel
theorem dX4_list_24 : decode cX4_list 24 = .ok (.iload_n 2, 1) := by decide +kernel
theorem dX4_list_25 : decode cX4_list 25 = .ok (.iaload, 1) := by decide +kernel
theorem dX4_list_26 : decode cX4_list 26 = .ok (.ifCond .ne 21, 3) := by decide +kernel
theorem dX4_list_29 : decode cX4_list 29 = .ok (.aload_n 0, 1) := by decide +kernel
theorem dX4_list_30 : decode cX4_list 30 = .ok (.dup, 1) := by decide +kernel
theorem dX4_list_31 : decode cX4_list 31 = .ok (.getfield 15, 3) := by decide +kernel
theorem dX4_list_34 : decode cX4_list 34 = .ok (.iconst 1, 1) := by decide +kernel
theorem dX4_list_35 : decode cX4_list 35 = .ok (.iload_n 2, 1) := by decide +kernel
theorem dX4_list_36 : decode cX4_list 36 = .ok (.ishl, 1) := by decide +kernel
theorem dX4_list_37 : decode cX4_list 37 = .ok (.ior, 1) := by decide +kernel
theorem dX4_list_38 : decode cX4_list 38 = .ok (.putfield 15, 3) := by decide +kernel
theorem dX4_list_41 : decode cX4_list 41 = .ok (.aload_n 0, 1) := by decide +kernel
theorem dX4_list_42 : decode cX4_list 42 = .ok (.aload_n 1, 1) := by decide +kernel
theorem dX4_list_43 : decode cX4_list 43 = .ok (.iload_n 2, 1) := by decide +kernel
theorem dX4_list_44 : decode cX4_list 44 = .ok (.invokevirtual 45, 3) := by decide +kernel
theorem dX4_list_47 : decode cX4_list 47 = .ok (.iinc 2 1, 3) := by decide +kernel
theorem dX4_list_50 : decode cX4_list 50 = .ok (.goto (-38), 3) := by decide +kernel
theorem dX4_list_53 : decode cX4_list 53 = .ok (.return_, 1) := by decide +kernel
set_option maxRecDepth 20000 in
theorem ggX4_listOf_X3_fits : GoodIn wsX4_listOf wsX3_fits := goodIn_r _ [20, 21, 22, 23, 24, 19, 25, 26, 27, 28, 29, 30, 31, 32, 33, 34, 35, 36, 37, 38, 39, 40, 41, 42] (by decide +kernel) (by decide +kernel)
set_option maxRecDepth 20000 in
theorem gX4_listOf_X3_fits : GoodIn wsX4_listOf (wsV RX4 49 RX3 yX3_fits wsX3_fits) := goodIn_app (goodIn_of _ (by decide +kernel)) ggX4_listOf_X3_fits
theorem dX4_listOf_0 : decode cX4_listOf 0 = .ok (.iconst 0, 1) := by decide +kernel
theorem dX4_listOf_1 : decode cX4_listOf 1 = .ok (.istore_n 3, 1) := by decide +kernel
theorem dX4_listOf_2 : decode cX4_listOf 2 = .ok (.iload_n 3, 1) := by decide +kernel
theorem dX4_listOf_3 : decode cX4_listOf 3 = .ok (.aload_n 1, 1) := by decide +kernel
theorem dX4_listOf_4 : decode cX4_listOf 4 = .ok (.getfield 37, 3) := by decide +kernel
theorem dX4_listOf_7 : decode cX4_listOf 7 = .ok (.if_icmp .ge 134, 3) := by decide +kernel
theorem dX4_listOf_10 : decode cX4_listOf 10 = .ok (.aload_n 1, 1) := by decide +kernel
theorem dX4_listOf_11 : decode cX4_listOf 11 = .ok (.iload_n 2, 1) := by decide +kernel
theorem dX4_listOf_12 : decode cX4_listOf 12 = .ok (.iload_n 3, 1) := by decide +kernel
theorem dX4_listOf_13 : decode cX4_listOf 13 = .ok (.invokevirtual 49, 3) := by decide +kernel
theorem dX4_listOf_16 : decode cX4_listOf 16 = .ok (.ifCond .eq 119, 3) := by decide +kernel
theorem dX4_listOf_19 : decode cX4_listOf 19 = .ok (.aload_n 0, 1) := by decide +kernel
theorem dX4_listOf_20 : decode cX4_listOf 20 = .ok (.getfield 9, 3) := by decide +kernel
theorem dX4_listOf_23 : decode cX4_listOf 23 = .ok (.bipush 16, 2) := by decide +kernel
theorem dX4_listOf_25 : decode cX4_listOf 25 = .ok (.if_icmp .ge 110, 3) := by decide +kernel
theorem dX4_listOf_28 : decode cX4_listOf 28 = .ok (.aload_n 0, 1) := by decide +kernel
theorem dX4_listOf_29 : decode cX4_listOf 29 = .ok (.getfield 18, 3) := by decide +kernel
theorem dX4_listOf_32 : decode cX4_listOf 32 = .ok (.aload_n 0, 1) := by decide +kernel
theorem dX4_listOf_33 : decode cX4_listOf 33 = .ok (.getfield 9, 3) := by decide +kernel
theorem dX4_listOf_36 : decode cX4_listOf 36 = .ok (.iload_n 2, 1) := by decide +kernel
theorem dX4_listOf_37 : decode cX4_listOf 37 = .ok (.iastore, 1) := by decide +kernel
theorem dX4_listOf_38 : decode cX4_listOf 38 = .ok (.aload_n 0, 1) := by decide +kernel
theorem dX4_listOf_39 : decode cX4_listOf 39 = .ok (.getfield 22, 3) := by decide +kernel
theorem dX4_listOf_42 : decode cX4_listOf 42 = .ok (.aload_n 0, 1) := by decide +kernel
theorem dX4_listOf_43 : decode cX4_listOf 43 = .ok (.getfield 9, 3) := by decide +kernel
theorem dX4_listOf_46 : decode cX4_listOf 46 = .ok (.iload_n 3, 1) := by decide +kernel
theorem dX4_listOf_47 : decode cX4_listOf 47 = .ok (.iastore, 1) := by decide +kernel
theorem dX4_listOf_48 : decode cX4_listOf 48 = .ok (.aload_n 0, 1) := by decide +kernel
theorem dX4_listOf_49 : decode cX4_listOf 49 = .ok (.getfield 25, 3) := by decide +kernel
theorem dX4_listOf_52 : decode cX4_listOf 52 = .ok (.aload_n 0, 1) := by decide +kernel
theorem dX4_listOf_53 : decode cX4_listOf 53 = .ok (.getfield 9, 3) := by decide +kernel
theorem dX4_listOf_56 : decode cX4_listOf 56 = .ok (.iconst 1, 1) := by decide +kernel
theorem dX4_listOf_57 : decode cX4_listOf 57 = .ok (.iload_n 2, 1) := by decide +kernel
theorem dX4_listOf_58 : decode cX4_listOf 58 = .ok (.ishl, 1) := by decide +kernel
theorem dX4_listOf_59 : decode cX4_listOf 59 = .ok (.iconst 1, 1) := by decide +kernel
theorem dX4_listOf_60 : decode cX4_listOf 60 = .ok (.iload_n 3, 1) := by decide +kernel
theorem dX4_listOf_61 : decode cX4_listOf 61 = .ok (.ishl, 1) := by decide +kernel
theorem dX4_listOf_62 : decode cX4_listOf 62 = .ok (.ior, 1) := by decide +kernel
theorem dX4_listOf_63 : decode cX4_listOf 63 = .ok (.iastore, 1) := by decide +kernel
theorem dX4_listOf_64 : decode cX4_listOf 64 = .ok (.aload_n 0, 1) := by decide +kernel
theorem dX4_listOf_65 : decode cX4_listOf 65 = .ok (.getfield 28, 3) := by decide +kernel
theorem dX4_listOf_68 : decode cX4_listOf 68 = .ok (.aload_n 0, 1) := by decide +kernel
theorem dX4_listOf_69 : decode cX4_listOf 69 = .ok (.getfield 9, 3) := by decide +kernel
theorem dX4_listOf_72 : decode cX4_listOf 72 = .ok (.aload_n 1, 1) := by decide +kernel
theorem dX4_listOf_73 : decode cX4_listOf 73 = .ok (.getfield 53, 3) := by decide +kernel
theorem dX4_listOf_76 : decode cX4_listOf 76 = .ok (.iload_n 2, 1) := by decide +kernel
theorem dX4_listOf_77 : decode cX4_listOf 77 = .ok (.iaload, 1) := by decide +kernel
theorem dX4_listOf_78 : decode cX4_listOf 78 = .ok (.iastore, 1) := by decide +kernel
theorem dX4_listOf_79 : decode cX4_listOf 79 = .ok (.aload_n 0, 1) := by decide +kernel
theorem dX4_listOf_80 : decode cX4_listOf 80 = .ok (.getfield 31, 3) := by decide +kernel
theorem dX4_listOf_83 : decode cX4_listOf 83 = .ok (.aload_n 0, 1) := by decide +kernel
theorem dX4_listOf_84 : decode cX4_listOf 84 = .ok (.getfield 9, 3) := by decide +kernel
theorem dX4_listOf_87 : decode cX4_listOf 87 = .ok (.aload_n 1, 1) := by decide +kernel
theorem dX4_listOf_88 : decode cX4_listOf 88 = .ok (.getfield 54, 3) := by decide +kernel
theorem dX4_listOf_91 : decode cX4_listOf 91 = .ok (.iload_n 2, 1) := by decide +kernel
theorem dX4_listOf_92 : decode cX4_listOf 92 = .ok (.iaload, 1) := by decide +kernel
theorem dX4_listOf_93 : decode cX4_listOf 93 = .ok (.aload_n 1, 1) := by decide +kernel
theorem dX4_listOf_94 : decode cX4_listOf 94 = .ok (.getfield 54, 3) := by decide +kernel
theorem dX4_listOf_97 : decode cX4_listOf 97 = .ok (.iload_n 3, 1) := by decide +kernel
theorem dX4_listOf_98 : decode cX4_listOf 98 = .ok (.iaload, 1) := by decide +kernel
theorem dX4_listOf_99 : decode cX4_listOf 99 = .ok (.invokestatic 57, 3) := by decide +kernel
theorem dX4_listOf_102 : decode cX4_listOf 102 = .ok (.iastore, 1) := by decide +kernel
theorem dX4_listOf_103 : decode cX4_listOf 103 = .ok (.aload_n 0, 1) := by decide +kernel
theorem dX4_listOf_104 : decode cX4_listOf 104 = .ok (.getfield 34, 3) := by decide +kernel
theorem dX4_listOf_107 : decode cX4_listOf 107 = .ok (.aload_n 0, 1) := by decide +kernel
theorem dX4_listOf_108 : decode cX4_listOf 108 = .ok (.getfield 9, 3) := by decide +kernel
theorem dX4_listOf_111 : decode cX4_listOf 111 = .ok (.aload_n 1, 1) := by decide +kernel
theorem dX4_listOf_112 : decode cX4_listOf 112 = .ok (.getfield 63, 3) := by decide +kernel
theorem dX4_listOf_115 : decode cX4_listOf 115 = .ok (.iload_n 2, 1) := by decide +kernel
theorem dX4_listOf_116 : decode cX4_listOf 116 = .ok (.iaload, 1) := by decide +kernel
theorem dX4_listOf_117 : decode cX4_listOf 117 = .ok (.aload_n 1, 1) := by decide +kernel
theorem dX4_listOf_118 : decode cX4_listOf 118 = .ok (.getfield 63, 3) := by decide +kernel
theorem dX4_listOf_121 : decode cX4_listOf 121 = .ok (.iload_n 3, 1) := by decide +kernel
theorem dX4_listOf_122 : decode cX4_listOf 122 = .ok (.iaload, 1) := by decide +kernel
theorem dX4_listOf_123 : decode cX4_listOf 123 = .ok (.iadd, 1) := by decide +kernel
theorem dX4_listOf_124 : decode cX4_listOf 124 = .ok (.iastore, 1) := by decide +kernel
theorem dX4_listOf_125 : decode cX4_listOf 125 = .ok (.aload_n 0, 1) := by decide +kernel
theorem dX4_listOf_126 : decode cX4_listOf 126 = .ok (.dup, 1) := by decide +kernel
theorem dX4_listOf_127 : decode cX4_listOf 127 = .ok (.getfield 9, 3) := by decide +kernel
theorem dX4_listOf_130 : decode cX4_listOf 130 = .ok (.iconst 1, 1) := by decide +kernel
theorem dX4_listOf_131 : decode cX4_listOf 131 = .ok (.iadd, 1) := by decide +kernel
theorem dX4_listOf_132 : decode cX4_listOf 132 = .ok (.putfield 9, 3) := by decide +kernel
theorem dX4_listOf_135 : decode cX4_listOf 135 = .ok (.iinc 3 1, 3) := by decide +kernel
theorem dX4_listOf_138 : decode cX4_listOf 138 = .ok (.goto (-136), 3) := by decide +kernel
theorem dX4_listOf_141 : decode cX4_listOf 141 = .ok (.return_, 1) := by decide +kernel
theorem dX4_indexOf_0 : decode cX4_indexOf 0 = .ok (.iconst 0, 1) := by decide +kernel
theorem dX4_indexOf_1 : decode cX4_indexOf 1 = .ok (.istore_n 2, 1) := by decide +kernel
theorem dX4_indexOf_2 : decode cX4_indexOf 2 = .ok (.iload_n 2, 1) := by decide +kernel
theorem dX4_indexOf_3 : decode cX4_indexOf 3 = .ok (.aload_n 0, 1) := by decide +kernel
theorem dX4_indexOf_4 : decode cX4_indexOf 4 = .ok (.getfield 9, 3) := by decide +kernel
theorem dX4_indexOf_7 : decode cX4_indexOf 7 = .ok (.if_icmp .ge 21, 3) := by decide +kernel
theorem dX4_indexOf_10 : decode cX4_indexOf 10 = .ok (.aload_n 0, 1) := by decide +kernel
theorem dX4_indexOf_11 : decode cX4_indexOf 11 = .ok (.getfield 25, 3) := by decide +kernel
theorem dX4_indexOf_14 : decode cX4_indexOf 14 = .ok (.iload_n 2, 1) := by decide +kernel
theorem dX4_indexOf_15 : decode cX4_indexOf 15 = .ok (.iaload, 1) := by decide +kernel
theorem dX4_indexOf_16 : decode cX4_indexOf 16 = .ok (.iload_n 1, 1) := by decide +kernel
theorem dX4_indexOf_17 : decode cX4_indexOf 17 = .ok (.if_icmp .ne 5, 3) := by decide +kernel
theorem dX4_indexOf_20 : decode cX4_indexOf 20 = .ok (.iload_n 2, 1) := by decide +kernel
theorem dX4_indexOf_21 : decode cX4_indexOf 21 = .ok (.ireturn, 1) := by decide +kernel
theorem dX4_indexOf_22 : decode cX4_indexOf 22 = .ok (.iinc 2 1, 3) := by decide +kernel
theorem dX4_indexOf_25 : decode cX4_indexOf 25 = .ok (.goto (-23), 3) := by decide +kernel
theorem dX4_indexOf_28 : decode cX4_indexOf 28 = .ok (.iconst (-1), 1) := by decide +kernel
theorem dX4_indexOf_29 : decode cX4_indexOf 29 = .ok (.ireturn, 1) := by decide +kernel
theorem dX4_numberOf_0 : decode cX4_numberOf 0 = .ok (.iload_n 1, 1) := by decide +kernel
theorem dX4_numberOf_1 : decode cX4_numberOf 1 = .ok (.ifCond .lt 30, 3) := by decide +kernel
theorem dX4_numberOf_4 : decode cX4_numberOf 4 = .ok (.iload_n 1, 1) := by decide +kernel
theorem dX4_numberOf_5 : decode cX4_numberOf 5 = .ok (.aload_n 0, 1) := by decide +kernel
theorem dX4_numberOf_6 : decode cX4_numberOf 6 = .ok (.getfield 9, 3) := by decide +kernel
theorem dX4_numberOf_9 : decode cX4_numberOf 9 = .ok (.if_icmp .ge 22, 3) := by decide +kernel
theorem dX4_numberOf_12 : decode cX4_numberOf 12 = .ok (.bipush 10, 2) := by decide +kernel
theorem dX4_numberOf_14 : decode cX4_numberOf 14 = .ok (.aload_n 0, 1) := by decide +kernel
theorem dX4_numberOf_15 : decode cX4_numberOf 15 = .ok (.getfield 18, 3) := by decide +kernel
theorem dX4_numberOf_18 : decode cX4_numberOf 18 = .ok (.iload_n 1, 1) := by decide +kernel
theorem dX4_numberOf_19 : decode cX4_numberOf 19 = .ok (.iaload, 1) := by decide +kernel
theorem dX4_numberOf_20 : decode cX4_numberOf 20 = .ok (.imul, 1) := by decide +kernel
theorem dX4_numberOf_21 : decode cX4_numberOf 21 = .ok (.aload_n 0, 1) := by decide +kernel
theorem dX4_numberOf_22 : decode cX4_numberOf 22 = .ok (.getfield 22, 3) := by decide +kernel
theorem dX4_numberOf_25 : decode cX4_numberOf 25 = .ok (.iload_n 1, 1) := by decide +kernel
theorem dX4_numberOf_26 : decode cX4_numberOf 26 = .ok (.iaload, 1) := by decide +kernel
theorem dX4_numberOf_27 : decode cX4_numberOf 27 = .ok (.iadd, 1) := by decide +kernel
theorem dX4_numberOf_28 : decode cX4_numberOf 28 = .ok (.goto 5, 3) := by decide +kernel
theorem dX4_numberOf_31 : decode cX4_numberOf 31 = .ok (.bipush (-9), 2) := by decide +kernel
theorem dX4_numberOf_33 : decode cX4_numberOf 33 = .ok (.ireturn, 1) := by decide +kernel
theorem dX4_howManyWith_0 : decode cX4_howManyWith 0 = .ok (.iconst 0, 1) := by decide +kernel
theorem dX4_howManyWith_1 : decode cX4_howManyWith 1 = .ok (.istore_n 2, 1) := by decide +kernel
theorem dX4_howManyWith_2 : decode cX4_howManyWith 2 = .ok (.iconst 0, 1) := by decide +kernel
theorem dX4_howManyWith_3 : decode cX4_howManyWith 3 = .ok (.istore_n 3, 1) := by decide +kernel
theorem dX4_howManyWith_4 : decode cX4_howManyWith 4 = .ok (.iload_n 3, 1) := by decide +kernel
theorem dX4_howManyWith_5 : decode cX4_howManyWith 5 = .ok (.aload_n 0, 1) := by decide +kernel
theorem dX4_howManyWith_6 : decode cX4_howManyWith 6 = .ok (.getfield 9, 3) := by decide +kernel
theorem dX4_howManyWith_9 : decode cX4_howManyWith 9 = .ok (.if_icmp .ge 22, 3) := by decide +kernel
theorem dX4_howManyWith_12 : decode cX4_howManyWith 12 = .ok (.iload_n 2, 1) := by decide +kernel
theorem dX4_howManyWith_13 : decode cX4_howManyWith 13 = .ok (.aload_n 0, 1) := by decide +kernel
theorem dX4_howManyWith_14 : decode cX4_howManyWith 14 = .ok (.getfield 25, 3) := by decide +kernel
theorem dX4_howManyWith_17 : decode cX4_howManyWith 17 = .ok (.iload_n 3, 1) := by decide +kernel
theorem dX4_howManyWith_18 : decode cX4_howManyWith 18 = .ok (.iaload, 1) := by decide +kernel
theorem dX4_howManyWith_19 : decode cX4_howManyWith 19 = .ok (.iload_n 1, 1) := by decide +kernel
theorem dX4_howManyWith_20 : decode cX4_howManyWith 20 = .ok (.ishr, 1) := by decide +kernel
theorem dX4_howManyWith_21 : decode cX4_howManyWith 21 = .ok (.iconst 1, 1) := by decide +kernel
theorem dX4_howManyWith_22 : decode cX4_howManyWith 22 = .ok (.iand, 1) := by decide +kernel
theorem dX4_howManyWith_23 : decode cX4_howManyWith 23 = .ok (.iadd, 1) := by decide +kernel
theorem dX4_howManyWith_24 : decode cX4_howManyWith 24 = .ok (.istore_n 2, 1) := by decide +kernel
theorem dX4_howManyWith_25 : decode cX4_howManyWith 25 = .ok (.iinc 3 1, 3) := by decide +kernel
theorem dX4_howManyWith_28 : decode cX4_howManyWith 28 = .ok (.goto (-24), 3) := by decide +kernel
theorem dX4_howManyWith_31 : decode cX4_howManyWith 31 = .ok (.iload_n 2, 1) := by decide +kernel
theorem dX4_howManyWith_32 : decode cX4_howManyWith 32 = .ok (.ireturn, 1) := by decide +kernel
theorem dX4_leavesMarks_0 : decode cX4_leavesMarks 0 = .ok (.aload_n 0, 1) := by decide +kernel
theorem dX4_leavesMarks_1 : decode cX4_leavesMarks 1 = .ok (.getfield 28, 3) := by decide +kernel
theorem dX4_leavesMarks_4 : decode cX4_leavesMarks 4 = .ok (.iload_n 1, 1) := by decide +kernel
theorem dX4_leavesMarks_5 : decode cX4_leavesMarks 5 = .ok (.iaload, 1) := by decide +kernel
theorem dX4_leavesMarks_6 : decode cX4_leavesMarks 6 = .ok (.iload_n 2, 1) := by decide +kernel
theorem dX4_leavesMarks_7 : decode cX4_leavesMarks 7 = .ok (.if_icmp .ne 17, 3) := by decide +kernel
theorem dX4_leavesMarks_10 : decode cX4_leavesMarks 10 = .ok (.aload_n 0, 1) := by decide +kernel
theorem dX4_leavesMarks_11 : decode cX4_leavesMarks 11 = .ok (.getfield 31, 3) := by decide +kernel
theorem dX4_leavesMarks_14 : decode cX4_leavesMarks 14 = .ok (.iload_n 1, 1) := by decide +kernel
theorem dX4_leavesMarks_15 : decode cX4_leavesMarks 15 = .ok (.iaload, 1) := by decide +kernel
theorem dX4_leavesMarks_16 : decode cX4_leavesMarks 16 = .ok (.iload_n 3, 1) := by decide +kernel
theorem dX4_leavesMarks_17 : decode cX4_leavesMarks 17 = .ok (.if_icmp .lt 7, 3) := by decide +kernel
theorem dX4_leavesMarks_20 : decode cX4_leavesMarks 20 = .ok (.iconst 1, 1) := by decide +kernel
theorem dX4_leavesMarks_21 : decode cX4_leavesMarks 21 = .ok (.goto 4, 3) := by decide +kernel
theorem dX4_leavesMarks_24 : decode cX4_leavesMarks 24 = .ok (.iconst 0, 1) := by decide +kernel
theorem dX4_leavesMarks_25 : decode cX4_leavesMarks 25 = .ok (.ireturn, 1) := by decide +kernel
set_option maxRecDepth 20000 in
theorem ggX4_howMany_X4_leavesMarks : GoodIn wsX4_howMany wsX4_leavesMarks := goodIn_r _ [6, 7, 8, 9, 10, 11, 12, 13, 14, 15, 16] (by decide +kernel) (by decide +kernel)
set_option maxRecDepth 20000 in
theorem gX4_howMany_X4_leavesMarks : GoodIn wsX4_howMany (wsV RX4 66 RX4 yX4_leavesMarks wsX4_leavesMarks) := goodIn_app (goodIn_of _ (by decide +kernel)) ggX4_howMany_X4_leavesMarks
theorem dX4_howMany_0 : decode cX4_howMany 0 = .ok (.iconst 0, 1) := by decide +kernel
theorem dX4_howMany_1 : decode cX4_howMany 1 = .ok (.istore_n 3, 1) := by decide +kernel
theorem dX4_howMany_2 : decode cX4_howMany 2 = .ok (.iconst 0, 1) := by decide +kernel
theorem dX4_howMany_3 : decode cX4_howMany 3 = .ok (.istore 4, 2) := by decide +kernel
theorem dX4_howMany_5 : decode cX4_howMany 5 = .ok (.iload 4, 2) := by decide +kernel
theorem dX4_howMany_7 : decode cX4_howMany 7 = .ok (.aload_n 0, 1) := by decide +kernel
theorem dX4_howMany_8 : decode cX4_howMany 8 = .ok (.getfield 9, 3) := by decide +kernel
theorem dX4_howMany_11 : decode cX4_howMany 11 = .ok (.if_icmp .ge 23, 3) := by decide +kernel
theorem dX4_howMany_14 : decode cX4_howMany 14 = .ok (.aload_n 0, 1) := by decide +kernel
theorem dX4_howMany_15 : decode cX4_howMany 15 = .ok (.iload 4, 2) := by decide +kernel
theorem dX4_howMany_17 : decode cX4_howMany 17 = .ok (.iload_n 1, 1) := by decide +kernel
theorem dX4_howMany_18 : decode cX4_howMany 18 = .ok (.iload_n 2, 1) := by decide +kernel
theorem dX4_howMany_19 : decode cX4_howMany 19 = .ok (.invokevirtual 66, 3) := by decide +kernel
theorem dX4_howMany_22 : decode cX4_howMany 22 = .ok (.ifCond .eq 6, 3) := by decide +kernel
theorem dX4_howMany_25 : decode cX4_howMany 25 = .ok (.iinc 3 1, 3) := by decide +kernel
theorem dX4_howMany_28 : decode cX4_howMany 28 = .ok (.iinc 4 1, 3) := by decide +kernel
theorem dX4_howMany_31 : decode cX4_howMany 31 = .ok (.goto (-26), 3) := by decide +kernel
theorem dX4_howMany_34 : decode cX4_howMany 34 = .ok (.iload_n 3, 1) := by decide +kernel
theorem dX4_howMany_35 : decode cX4_howMany 35 = .ok (.ireturn, 1) := by decide +kernel
set_option maxRecDepth 20000 in
theorem ggX4_firstOf_X4_leavesMarks : GoodIn wsX4_firstOf wsX4_leavesMarks := goodIn_r _ [6, 7, 8, 15, 16, 17, 18, 19, 20, 21, 22] (by decide +kernel) (by decide +kernel)
set_option maxRecDepth 20000 in
theorem gX4_firstOf_X4_leavesMarks : GoodIn wsX4_firstOf (wsV RX4 66 RX4 yX4_leavesMarks wsX4_leavesMarks) := goodIn_app (goodIn_of _ (by decide +kernel)) ggX4_firstOf_X4_leavesMarks
set_option maxRecDepth 20000 in
theorem ggX4_firstOf_X4_numberOf : GoodIn wsX4_firstOf wsX4_numberOf := goodIn_r _ [12, 1, 13, 14, 15, 16, 17, 18, 19, 20, 21, 22] (by decide +kernel) (by decide +kernel)
set_option maxRecDepth 20000 in
theorem gX4_firstOf_X4_numberOf : GoodIn wsX4_firstOf (wsV RX4 70 RX4 yX4_numberOf wsX4_numberOf) := goodIn_app (goodIn_of _ (by decide +kernel)) ggX4_firstOf_X4_numberOf
theorem dX4_firstOf_0 : decode cX4_firstOf 0 = .ok (.iconst 0, 1) := by decide +kernel
theorem dX4_firstOf_1 : decode cX4_firstOf 1 = .ok (.istore_n 3, 1) := by decide +kernel
theorem dX4_firstOf_2 : decode cX4_firstOf 2 = .ok (.iload_n 3, 1) := by decide +kernel
theorem dX4_firstOf_3 : decode cX4_firstOf 3 = .ok (.aload_n 0, 1) := by decide +kernel
theorem dX4_firstOf_4 : decode cX4_firstOf 4 = .ok (.getfield 9, 3) := by decide +kernel
theorem dX4_firstOf_7 : decode cX4_firstOf 7 = .ok (.if_icmp .ge 25, 3) := by decide +kernel
theorem dX4_firstOf_10 : decode cX4_firstOf 10 = .ok (.aload_n 0, 1) := by decide +kernel
theorem dX4_firstOf_11 : decode cX4_firstOf 11 = .ok (.iload_n 3, 1) := by decide +kernel
theorem dX4_firstOf_12 : decode cX4_firstOf 12 = .ok (.iload_n 1, 1) := by decide +kernel
theorem dX4_firstOf_13 : decode cX4_firstOf 13 = .ok (.iload_n 2, 1) := by decide +kernel
theorem dX4_firstOf_14 : decode cX4_firstOf 14 = .ok (.invokevirtual 66, 3) := by decide +kernel
theorem dX4_firstOf_17 : decode cX4_firstOf 17 = .ok (.ifCond .eq 9, 3) := by decide +kernel
theorem dX4_firstOf_20 : decode cX4_firstOf 20 = .ok (.aload_n 0, 1) := by decide +kernel
theorem dX4_firstOf_21 : decode cX4_firstOf 21 = .ok (.iload_n 3, 1) := by decide +kernel
theorem dX4_firstOf_22 : decode cX4_firstOf 22 = .ok (.invokevirtual 70, 3) := by decide +kernel
theorem dX4_firstOf_25 : decode cX4_firstOf 25 = .ok (.ireturn, 1) := by decide +kernel
theorem dX4_firstOf_26 : decode cX4_firstOf 26 = .ok (.iinc 3 1, 3) := by decide +kernel
theorem dX4_firstOf_29 : decode cX4_firstOf 29 = .ok (.goto (-27), 3) := by decide +kernel
theorem dX4_firstOf_32 : decode cX4_firstOf 32 = .ok (.bipush (-9), 2) := by decide +kernel
theorem dX4_firstOf_34 : decode cX4_firstOf 34 = .ok (.ireturn, 1) := by decide +kernel
theorem dX5_init_0 : decode cX5_init 0 = .ok (.aload_n 0, 1) := by decide +kernel
theorem dX5_init_1 : decode cX5_init 1 = .ok (.invokespecial 3, 3) := by decide +kernel
theorem dX5_init_4 : decode cX5_init 4 = .ok (.aload_n 0, 1) := by decide +kernel
theorem dX5_init_5 : decode cX5_init 5 = .ok (.iconst 5, 1) := by decide +kernel
theorem dX5_init_6 : decode cX5_init 6 = .ok (.newarray .int, 2) := by decide +kernel
theorem dX5_init_8 : decode cX5_init 8 = .ok (.putfield 9, 3) := by decide +kernel
theorem dX5_init_11 : decode cX5_init 11 = .ok (.aload_n 0, 1) := by decide +kernel
theorem dX5_init_12 : decode cX5_init 12 = .ok (.iconst 5, 1) := by decide +kernel
theorem dX5_init_13 : decode cX5_init 13 = .ok (.bipush 16, 2) := by decide +kernel
theorem dX5_init_15 : decode cX5_init 15 = .ok (.multianewarray 15 2, 4) := by decide +kernel
theorem dX5_init_19 : decode cX5_init 19 = .ok (.putfield 17, 3) := by decide +kernel
theorem dX5_init_22 : decode cX5_init 22 = .ok (.aload_n 0, 1) := by decide +kernel
theorem dX5_init_23 : decode cX5_init 23 = .ok (.bipush 6, 2) := by decide +kernel
theorem dX5_init_25 : decode cX5_init 25 = .ok (.sipush 256, 3) := by decide +kernel
theorem dX5_init_28 : decode cX5_init 28 = .ok (.multianewarray 15 2, 4) := by decide +kernel
theorem dX5_init_32 : decode cX5_init 32 = .ok (.putfield 20, 3) := by decide +kernel
theorem dX5_init_35 : decode cX5_init 35 = .ok (.return_, 1) := by decide +kernel
set_option maxRecDepth 20000 in
theorem ggX5_make_J7_fill_53178 : GoodIn wsX5_make wsJ7_fill_53178 := goodIn_r _ [8] (by decide +kernel) (by decide +kernel)
set_option maxRecDepth 20000 in
theorem gX5_make_J7_fill_53178 : GoodIn wsX5_make (va_wsS RX5 29 yJ7_fill_53178 wsJ7_fill_53178) := goodIn_app (goodIn_of _ (by decide +kernel)) ggX5_make_J7_fill_53178
set_option maxRecDepth 20000 in
theorem ggX5_make_X2_pickable : GoodIn wsX5_make wsX2_pickable := goodIn_r _ [13, 14, 15, 16, 17, 18, 19, 20, 21, 22, 23, 24, 25, 26, 27, 28, 29, 30, 31, 32, 33, 34, 35, 36, 100, 101, 102, 103, 104, 105, 106, 92, 93, 94, 95, 96, 97, 98, 99, 82, 83, 84, 85, 86, 87, 88, 89, 90, 91] (by decide +kernel) (by decide +kernel)
set_option maxRecDepth 20000 in
theorem gX5_make_X2_pickable : GoodIn wsX5_make (wsV RX5 40 RX2 yX2_pickable wsX2_pickable) := goodIn_app (goodIn_of _ (by decide +kernel)) ggX5_make_X2_pickable
set_option maxRecDepth 20000 in
theorem ggX5_make_X3_everybody : GoodIn wsX5_make wsX3_everybody := goodIn_r _ [40, 41, 82, 83, 84, 85, 86, 87, 88, 89, 90, 91] (by decide +kernel) (by decide +kernel)
set_option maxRecDepth 20000 in
theorem gX5_make_X3_everybody : GoodIn wsX5_make (wsV RX5 46 RX3 yX3_everybody wsX3_everybody) := goodIn_app (goodIn_of _ (by decide +kernel)) ggX5_make_X3_everybody
set_option maxRecDepth 20000 in
theorem ggX5_make_X5_canBeTaken : GoodIn wsX5_make wsX5_canBeTaken := goodIn_r _ [45, 46, 47, 48, 49, 50, 51, 52, 53, 92, 93, 94, 95, 96, 97, 98, 99] (by decide +kernel) (by decide +kernel)
set_option maxRecDepth 20000 in
theorem gX5_make_X5_canBeTaken : GoodIn wsX5_make (va_wsS RX5 50 yX5_canBeTaken wsX5_canBeTaken) := goodIn_app (goodIn_of _ (by decide +kernel)) ggX5_make_X5_canBeTaken
set_option maxRecDepth 20000 in
theorem ggX5_make_X5_mostFrom : GoodIn wsX5_make wsX5_mostFrom := goodIn_r _ [57, 1, 3, 58, 59, 24, 60, 61, 62, 63, 44, 64, 4, 65, 66, 67, 68, 69, 79, 80, 81, 92, 93, 94, 95, 96, 97, 98, 99] (by decide +kernel) (by decide +kernel)
set_option maxRecDepth 20000 in
theorem gX5_make_X5_mostFrom : GoodIn wsX5_make (wsV RX5 54 RX5 yX5_mostFrom wsX5_mostFrom) := goodIn_app (goodIn_of _ (by decide +kernel)) ggX5_make_X5_mostFrom
set_option maxRecDepth 20000 in
theorem ggX5_make_X5_choose : GoodIn wsX5_make wsX5_choose := goodIn_r _ [73, 2, 74, 65, 75, 76, 77, 44, 78, 1, 3, 61, 62, 63, 64, 4, 66, 67, 68, 69, 82, 83, 84, 85, 86, 87, 88, 89, 90, 91, 79, 80, 81, 92, 93, 94, 95, 96, 97, 98, 99] (by decide +kernel) (by decide +kernel)
set_option maxRecDepth 20000 in
theorem gX5_make_X5_choose : GoodIn wsX5_make (wsV RX5 58 RX5 yX5_choose wsX5_choose) := goodIn_app (goodIn_of _ (by decide +kernel)) ggX5_make_X5_choose
theorem dX5_make_0 : decode cX5_make 0 = .ok (.aload_n 0, 1) := by decide +kernel
theorem dX5_make_1 : decode cX5_make 1 = .ok (.getfield 20, 3) := by decide +kernel
theorem dX5_make_4 : decode cX5_make 4 = .ok (.aload_n 1, 1) := by decide +kernel
theorem dX5_make_5 : decode cX5_make 5 = .ok (.getfield 23, 3) := by decide +kernel
theorem dX5_make_8 : decode cX5_make 8 = .ok (.aaload, 1) := by decide +kernel
theorem dX5_make_9 : decode cX5_make 9 = .ok (.iconst 0, 1) := by decide +kernel
theorem dX5_make_10 : decode cX5_make 10 = .ok (.invokestatic 29, 3) := by decide +kernel
theorem dX5_make_13 : decode cX5_make 13 = .ok (.aload_n 1, 1) := by decide +kernel
theorem dX5_make_14 : decode cX5_make 14 = .ok (.getfield 23, 3) := by decide +kernel
theorem dX5_make_17 : decode cX5_make 17 = .ok (.iconst 1, 1) := by decide +kernel
theorem dX5_make_18 : decode cX5_make 18 = .ok (.isub, 1) := by decide +kernel
theorem dX5_make_19 : decode cX5_make 19 = .ok (.istore 4, 2) := by decide +kernel
theorem dX5_make_21 : decode cX5_make 21 = .ok (.iload 4, 2) := by decide +kernel
theorem dX5_make_23 : decode cX5_make 23 = .ok (.ifCond .lt 95, 3) := by decide +kernel
theorem dX5_make_26 : decode cX5_make 26 = .ok (.iconst 0, 1) := by decide +kernel
theorem dX5_make_27 : decode cX5_make 27 = .ok (.istore 5, 2) := by decide +kernel
theorem dX5_make_29 : decode cX5_make 29 = .ok (.iload 5, 2) := by decide +kernel
theorem dX5_make_31 : decode cX5_make 31 = .ok (.aload_n 2, 1) := by decide +kernel
theorem dX5_make_32 : decode cX5_make 32 = .ok (.getfield 35, 3) := by decide +kernel
theorem dX5_make_35 : decode cX5_make 35 = .ok (.if_icmp .ge 29, 3) := by decide +kernel
theorem dX5_make_38 : decode cX5_make 38 = .ok (.aload_n 0, 1) := by decide +kernel
theorem dX5_make_39 : decode cX5_make 39 = .ok (.getfield 17, 3) := by decide +kernel
theorem dX5_make_42 : decode cX5_make 42 = .ok (.iload 4, 2) := by decide +kernel
theorem dX5_make_44 : decode cX5_make 44 = .ok (.aaload, 1) := by decide +kernel
theorem dX5_make_45 : decode cX5_make 45 = .ok (.iload 5, 2) := by decide +kernel
theorem dX5_make_47 : decode cX5_make 47 = .ok (.aload_n 3, 1) := by decide +kernel
theorem dX5_make_48 : decode cX5_make 48 = .ok (.aload_n 1, 1) := by decide +kernel
theorem dX5_make_49 : decode cX5_make 49 = .ok (.aload_n 2, 1) := by decide +kernel
theorem dX5_make_50 : decode cX5_make 50 = .ok (.iload 5, 2) := by decide +kernel
theorem dX5_make_52 : decode cX5_make 52 = .ok (.iload 4, 2) := by decide +kernel
theorem dX5_make_54 : decode cX5_make 54 = .ok (.invokevirtual 40, 3) := by decide +kernel
theorem dX5_make_57 : decode cX5_make 57 = .ok (.iastore, 1) := by decide +kernel
theorem dX5_make_58 : decode cX5_make 58 = .ok (.iinc 5 1, 3) := by decide +kernel
theorem dX5_make_61 : decode cX5_make 61 = .ok (.goto (-32), 3) := by decide +kernel
theorem dX5_make_64 : decode cX5_make 64 = .ok (.iconst 0, 1) := by decide +kernel
theorem dX5_make_65 : decode cX5_make 65 = .ok (.istore 5, 2) := by decide +kernel
theorem dX5_make_67 : decode cX5_make 67 = .ok (.iload 5, 2) := by decide +kernel
theorem dX5_make_69 : decode cX5_make 69 = .ok (.aload_n 1, 1) := by decide +kernel
theorem dX5_make_70 : decode cX5_make 70 = .ok (.invokevirtual 46, 3) := by decide +kernel
theorem dX5_make_73 : decode cX5_make 73 = .ok (.if_icmp .gt 39, 3) := by decide +kernel
theorem dX5_make_76 : decode cX5_make 76 = .ok (.aload_n 2, 1) := by decide +kernel
theorem dX5_make_77 : decode cX5_make 77 = .ok (.iload 5, 2) := by decide +kernel
theorem dX5_make_79 : decode cX5_make 79 = .ok (.iload 4, 2) := by decide +kernel
theorem dX5_make_81 : decode cX5_make 81 = .ok (.invokestatic 50, 3) := by decide +kernel
theorem dX5_make_84 : decode cX5_make 84 = .ok (.ifCond .eq 22, 3) := by decide +kernel
theorem dX5_make_87 : decode cX5_make 87 = .ok (.aload_n 0, 1) := by decide +kernel
theorem dX5_make_88 : decode cX5_make 88 = .ok (.getfield 20, 3) := by decide +kernel
theorem dX5_make_91 : decode cX5_make 91 = .ok (.iload 4, 2) := by decide +kernel
theorem dX5_make_93 : decode cX5_make 93 = .ok (.aaload, 1) := by decide +kernel
theorem dX5_make_94 : decode cX5_make 94 = .ok (.iload 5, 2) := by decide +kernel
theorem dX5_make_96 : decode cX5_make 96 = .ok (.aload_n 0, 1) := by decide +kernel
theorem dX5_make_97 : decode cX5_make 97 = .ok (.aload_n 2, 1) := by decide +kernel
theorem dX5_make_98 : decode cX5_make 98 = .ok (.iload 5, 2) := by decide +kernel
theorem dX5_make_100 : decode cX5_make 100 = .ok (.iload 4, 2) := by decide +kernel
theorem dX5_make_102 : decode cX5_make 102 = .ok (.invokevirtual 54, 3) := by decide +kernel
theorem dX5_make_105 : decode cX5_make 105 = .ok (.iastore, 1) := by decide +kernel
theorem dX5_make_106 : decode cX5_make 106 = .ok (.iinc 5 1, 3) := by decide +kernel
theorem dX5_make_109 : decode cX5_make 109 = .ok (.goto (-42), 3) := by decide +kernel
theorem dX5_make_112 : decode cX5_make 112 = .ok (.iinc 4 (-1), 3) := by decide +kernel
theorem dX5_make_115 : decode cX5_make 115 = .ok (.goto (-94), 3) := by decide +kernel
theorem dX5_make_118 : decode cX5_make 118 = .ok (.aload_n 0, 1) := by decide +kernel
theorem dX5_make_119 : decode cX5_make 119 = .ok (.aload_n 1, 1) := by decide +kernel
theorem dX5_make_120 : decode cX5_make 120 = .ok (.aload_n 2, 1) := by decide +kernel
theorem dX5_make_121 : decode cX5_make 121 = .ok (.invokevirtual 58, 3) := by decide +kernel
theorem dX5_make_124 : decode cX5_make 124 = .ok (.aload_n 0, 1) := by decide +kernel
theorem dX5_make_125 : decode cX5_make 125 = .ok (.getfield 20, 3) := by decide +kernel
theorem dX5_make_128 : decode cX5_make 128 = .ok (.iconst 0, 1) := by decide +kernel
theorem dX5_make_129 : decode cX5_make 129 = .ok (.aaload, 1) := by decide +kernel
theorem dX5_make_130 : decode cX5_make 130 = .ok (.iconst 0, 1) := by decide +kernel
theorem dX5_make_131 : decode cX5_make 131 = .ok (.iaload, 1) := by decide +kernel
theorem dX5_make_132 : decode cX5_make 132 = .ok (.ireturn, 1) := by decide +kernel
set_option maxRecDepth 20000 in
theorem ggX5_canBeTaken_J6_bitCount_0f7a4 : GoodIn wsX5_canBeTaken wsJ6_bitCount_0f7a4 := goodIn_r _ [5, 6, 7, 8] (by decide +kernel) (by decide +kernel)
set_option maxRecDepth 20000 in
theorem gX5_canBeTaken_J6_bitCount_0f7a4 : GoodIn wsX5_canBeTaken (va_wsS RX5 62 yJ6_bitCount_0f7a4 wsJ6_bitCount_0f7a4) := goodIn_app (goodIn_of _ (by decide +kernel)) ggX5_canBeTaken_J6_bitCount_0f7a4
theorem dX5_canBeTaken_0 : decode cX5_canBeTaken 0 = .ok (.iload_n 1, 1) := by decide +kernel
theorem dX5_canBeTaken_1 : decode cX5_canBeTaken 1 = .ok (.invokestatic 62, 3) := by decide +kernel
theorem dX5_canBeTaken_4 : decode cX5_canBeTaken 4 = .ok (.istore_n 3, 1) := by decide +kernel
theorem dX5_canBeTaken_5 : decode cX5_canBeTaken 5 = .ok (.iload_n 3, 1) := by decide +kernel
theorem dX5_canBeTaken_6 : decode cX5_canBeTaken 6 = .ok (.iconst 2, 1) := by decide +kernel
theorem dX5_canBeTaken_7 : decode cX5_canBeTaken 7 = .ok (.iload_n 2, 1) := by decide +kernel
