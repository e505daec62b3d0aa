theorem dX10_worth_107 : decode cX10_worth 107 = .ok (.invokestatic 172, 3) := by decide +kernel
theorem dX10_worth_110 : decode cX10_worth 110 = .ok (.istore 5, 2) := by decide +kernel
theorem dX10_worth_112 : decode cX10_worth 112 = .ok (.iload 4, 2) := by decide +kernel
theorem dX10_worth_114 : decode cX10_worth 114 = .ok (.iload 5, 2) := by decide +kernel
theorem dX10_worth_116 : decode cX10_worth 116 = .ok (.invokestatic 175, 3) := by decide +kernel
theorem dX10_worth_119 : decode cX10_worth 119 = .ok (.istore 6, 2) := by decide +kernel
theorem dX10_worth_121 : decode cX10_worth 121 = .ok (.iload_n 2, 1) := by decide +kernel
theorem dX10_worth_122 : decode cX10_worth 122 = .ok (.ifCond .ne 11, 3) := by decide +kernel
theorem dX10_worth_125 : decode cX10_worth 125 = .ok (.iload 4, 2) := by decide +kernel
theorem dX10_worth_127 : decode cX10_worth 127 = .ok (.iload 6, 2) := by decide +kernel
theorem dX10_worth_129 : decode cX10_worth 129 = .ok (.idiv, 1) := by decide +kernel
theorem dX10_worth_130 : decode cX10_worth 130 = .ok (.goto 8, 3) := by decide +kernel
theorem dX10_worth_133 : decode cX10_worth 133 = .ok (.iload 5, 2) := by decide +kernel
theorem dX10_worth_135 : decode cX10_worth 135 = .ok (.iload 6, 2) := by decide +kernel
theorem dX10_worth_137 : decode cX10_worth 137 = .ok (.idiv, 1) := by decide +kernel
theorem dX10_worth_138 : decode cX10_worth 138 = .ok (.ireturn, 1) := by decide +kernel
set_option maxRecDepth 20000 in
theorem ggX10_likes_X10_ladder : GoodIn wsX10_likes wsX10_ladder := goodIn_r _ [6, 7, 8, 9, 10, 11, 12, 13, 14, 15, 16, 17, 18, 19, 20, 21, 22, 23, 24, 25, 26, 27, 28, 29, 30, 31, 32, 33, 34] (by decide +kernel) (by decide +kernel)
set_option maxRecDepth 20000 in
theorem gX10_likes_X10_ladder : GoodIn wsX10_likes (wsV RX10 133 RX10 yX10_ladder wsX10_ladder) := goodIn_app (goodIn_of _ (by decide +kernel)) ggX10_likes_X10_ladder
theorem dX10_likes_0 : decode cX10_likes 0 = .ok (.iload_n 2, 1) := by decide +kernel
theorem dX10_likes_1 : decode cX10_likes 1 = .ok (.bipush (-9), 2) := by decide +kernel
theorem dX10_likes_3 : decode cX10_likes 3 = .ok (.if_icmp .eq 9, 3) := by decide +kernel
theorem dX10_likes_6 : decode cX10_likes 6 = .ok (.iload_n 3, 1) := by decide +kernel
theorem dX10_likes_7 : decode cX10_likes 7 = .ok (.bipush (-9), 2) := by decide +kernel
theorem dX10_likes_9 : decode cX10_likes 9 = .ok (.if_icmp .ne 15, 3) := by decide +kernel
theorem dX10_likes_12 : decode cX10_likes 12 = .ok (.iload_n 2, 1) := by decide +kernel
theorem dX10_likes_13 : decode cX10_likes 13 = .ok (.bipush (-9), 2) := by decide +kernel
theorem dX10_likes_15 : decode cX10_likes 15 = .ok (.if_icmp .eq 7, 3) := by decide +kernel
theorem dX10_likes_18 : decode cX10_likes 18 = .ok (.iconst 1, 1) := by decide +kernel
theorem dX10_likes_19 : decode cX10_likes 19 = .ok (.goto 4, 3) := by decide +kernel
theorem dX10_likes_22 : decode cX10_likes 22 = .ok (.iconst 0, 1) := by decide +kernel
theorem dX10_likes_23 : decode cX10_likes 23 = .ok (.ireturn, 1) := by decide +kernel
theorem dX10_likes_24 : decode cX10_likes 24 = .ok (.aload_n 0, 1) := by decide +kernel
theorem dX10_likes_25 : decode cX10_likes 25 = .ok (.iload_n 1, 1) := by decide +kernel
theorem dX10_likes_26 : decode cX10_likes 26 = .ok (.iload_n 2, 1) := by decide +kernel
theorem dX10_likes_27 : decode cX10_likes 27 = .ok (.invokevirtual 133, 3) := by decide +kernel
theorem dX10_likes_30 : decode cX10_likes 30 = .ok (.istore 4, 2) := by decide +kernel
theorem dX10_likes_32 : decode cX10_likes 32 = .ok (.aload_n 0, 1) := by decide +kernel
theorem dX10_likes_33 : decode cX10_likes 33 = .ok (.iload_n 1, 1) := by decide +kernel
theorem dX10_likes_34 : decode cX10_likes 34 = .ok (.iload_n 3, 1) := by decide +kernel
theorem dX10_likes_35 : decode cX10_likes 35 = .ok (.invokevirtual 133, 3) := by decide +kernel
theorem dX10_likes_38 : decode cX10_likes 38 = .ok (.istore 5, 2) := by decide +kernel
theorem dX10_likes_40 : decode cX10_likes 40 = .ok (.iload 4, 2) := by decide +kernel
theorem dX10_likes_42 : decode cX10_likes 42 = .ok (.iload 5, 2) := by decide +kernel
theorem dX10_likes_44 : decode cX10_likes 44 = .ok (.if_icmp .eq 18, 3) := by decide +kernel
theorem dX10_likes_47 : decode cX10_likes 47 = .ok (.iload 4, 2) := by decide +kernel
theorem dX10_likes_49 : decode cX10_likes 49 = .ok (.iload 5, 2) := by decide +kernel
theorem dX10_likes_51 : decode cX10_likes 51 = .ok (.if_icmp .le 7, 3) := by decide +kernel
theorem dX10_likes_54 : decode cX10_likes 54 = .ok (.iconst 1, 1) := by decide +kernel
theorem dX10_likes_55 : decode cX10_likes 55 = .ok (.goto 55, 3) := by decide +kernel
theorem dX10_likes_58 : decode cX10_likes 58 = .ok (.iconst 0, 1) := by decide +kernel
theorem dX10_likes_59 : decode cX10_likes 59 = .ok (.goto 51, 3) := by decide +kernel
theorem dX10_likes_62 : decode cX10_likes 62 = .ok (.aload_n 0, 1) := by decide +kernel
theorem dX10_likes_63 : decode cX10_likes 63 = .ok (.getfield 26, 3) := by decide +kernel
theorem dX10_likes_66 : decode cX10_likes 66 = .ok (.iload_n 2, 1) := by decide +kernel
theorem dX10_likes_67 : decode cX10_likes 67 = .ok (.iaload, 1) := by decide +kernel
theorem dX10_likes_68 : decode cX10_likes 68 = .ok (.aload_n 0, 1) := by decide +kernel
theorem dX10_likes_69 : decode cX10_likes 69 = .ok (.getfield 26, 3) := by decide +kernel
theorem dX10_likes_72 : decode cX10_likes 72 = .ok (.iload_n 3, 1) := by decide +kernel
theorem dX10_likes_73 : decode cX10_likes 73 = .ok (.iaload, 1) := by decide +kernel
theorem dX10_likes_74 : decode cX10_likes 74 = .ok (.if_icmp .eq 26, 3) := by decide +kernel
theorem dX10_likes_77 : decode cX10_likes 77 = .ok (.aload_n 0, 1) := by decide +kernel
theorem dX10_likes_78 : decode cX10_likes 78 = .ok (.getfield 26, 3) := by decide +kernel
theorem dX10_likes_81 : decode cX10_likes 81 = .ok (.iload_n 2, 1) := by decide +kernel
theorem dX10_likes_82 : decode cX10_likes 82 = .ok (.iaload, 1) := by decide +kernel
theorem dX10_likes_83 : decode cX10_likes 83 = .ok (.aload_n 0, 1) := by decide +kernel
theorem dX10_likes_84 : decode cX10_likes 84 = .ok (.getfield 26, 3) := by decide +kernel
theorem dX10_likes_87 : decode cX10_likes 87 = .ok (.iload_n 3, 1) := by decide +kernel
theorem dX10_likes_88 : decode cX10_likes 88 = .ok (.iaload, 1) := by decide +kernel
theorem dX10_likes_89 : decode cX10_likes 89 = .ok (.if_icmp .le 7, 3) := by decide +kernel
theorem dX10_likes_92 : decode cX10_likes 92 = .ok (.iconst 1, 1) := by decide +kernel
theorem dX10_likes_93 : decode cX10_likes 93 = .ok (.goto 17, 3) := by decide +kernel
theorem dX10_likes_96 : decode cX10_likes 96 = .ok (.iconst 0, 1) := by decide +kernel
theorem dX10_likes_97 : decode cX10_likes 97 = .ok (.goto 13, 3) := by decide +kernel
theorem dX10_likes_100 : decode cX10_likes 100 = .ok (.iload_n 2, 1) := by decide +kernel
theorem dX10_likes_101 : decode cX10_likes 101 = .ok (.iload_n 3, 1) := by decide +kernel
theorem dX10_likes_102 : decode cX10_likes 102 = .ok (.if_icmp .ge 7, 3) := by decide +kernel
theorem dX10_likes_105 : decode cX10_likes 105 = .ok (.iconst 1, 1) := by decide +kernel
theorem dX10_likes_106 : decode cX10_likes 106 = .ok (.goto 4, 3) := by decide +kernel
theorem dX10_likes_109 : decode cX10_likes 109 = .ok (.iconst 0, 1) := by decide +kernel
theorem dX10_likes_110 : decode cX10_likes 110 = .ok (.ireturn, 1) := by decide +kernel
set_option maxRecDepth 20000 in
theorem ggX10_asksNext_X10_fits : GoodIn wsX10_asksNext wsX10_fits := goodIn_r _ [7, 8, 9, 10, 21, 22, 23, 24, 25, 26, 27, 28, 29, 30, 31, 32, 33, 34, 35, 36, 37, 38, 39, 40, 41, 42, 43, 44, 45, 46, 47] (by decide +kernel) (by decide +kernel)
set_option maxRecDepth 20000 in
theorem gX10_asksNext_X10_fits : GoodIn wsX10_asksNext (wsV RX10 129 RX10 yX10_fits wsX10_fits) := goodIn_app (goodIn_of _ (by decide +kernel)) ggX10_asksNext_X10_fits
set_option maxRecDepth 20000 in
theorem ggX10_asksNext_X10_likes : GoodIn wsX10_asksNext wsX10_likes := goodIn_r _ [14, 15, 16, 17, 18, 6, 19, 20, 21, 22, 23, 24, 25, 26, 27, 28, 29, 30, 31, 32, 33, 34, 35, 36, 37, 38, 39, 40, 41, 42, 43, 44, 45, 46, 47] (by decide +kernel) (by decide +kernel)
set_option maxRecDepth 20000 in
theorem gX10_asksNext_X10_likes : GoodIn wsX10_asksNext (wsV RX10 178 RX10 yX10_likes wsX10_likes) := goodIn_app (goodIn_of _ (by decide +kernel)) ggX10_asksNext_X10_likes
theorem dX10_asksNext_0 : decode cX10_asksNext 0 = .ok (.bipush (-9), 2) := by decide +kernel
theorem dX10_asksNext_2 : decode cX10_asksNext 2 = .ok (.istore_n 2, 1) := by decide +kernel
theorem dX10_asksNext_3 : decode cX10_asksNext 3 = .ok (.iconst 0, 1) := by decide +kernel
theorem dX10_asksNext_4 : decode cX10_asksNext 4 = .ok (.istore_n 3, 1) := by decide +kernel
theorem dX10_asksNext_5 : decode cX10_asksNext 5 = .ok (.iload_n 3, 1) := by decide +kernel
theorem dX10_asksNext_6 : decode cX10_asksNext 6 = .ok (.aload_n 0, 1) := by decide +kernel
theorem dX10_asksNext_7 : decode cX10_asksNext 7 = .ok (.getfield 13, 3) := by decide +kernel
theorem dX10_asksNext_10 : decode cX10_asksNext 10 = .ok (.iconst 0, 1) := by decide +kernel
theorem dX10_asksNext_11 : decode cX10_asksNext 11 = .ok (.iaload, 1) := by decide +kernel
theorem dX10_asksNext_12 : decode cX10_asksNext 12 = .ok (.if_icmp .ge 64, 3) := by decide +kernel
theorem dX10_asksNext_15 : decode cX10_asksNext 15 = .ok (.iload_n 3, 1) := by decide +kernel
theorem dX10_asksNext_16 : decode cX10_asksNext 16 = .ok (.iload_n 1, 1) := by decide +kernel
theorem dX10_asksNext_17 : decode cX10_asksNext 17 = .ok (.if_icmp .eq 29, 3) := by decide +kernel
theorem dX10_asksNext_20 : decode cX10_asksNext 20 = .ok (.aload_n 0, 1) := by decide +kernel
theorem dX10_asksNext_21 : decode cX10_asksNext 21 = .ok (.iload_n 1, 1) := by decide +kernel
theorem dX10_asksNext_22 : decode cX10_asksNext 22 = .ok (.iload_n 3, 1) := by decide +kernel
theorem dX10_asksNext_23 : decode cX10_asksNext 23 = .ok (.invokevirtual 129, 3) := by decide +kernel
theorem dX10_asksNext_26 : decode cX10_asksNext 26 = .ok (.ifCond .eq 20, 3) := by decide +kernel
theorem dX10_asksNext_29 : decode cX10_asksNext 29 = .ok (.aload_n 0, 1) := by decide +kernel
theorem dX10_asksNext_30 : decode cX10_asksNext 30 = .ok (.getfield 63, 3) := by decide +kernel
theorem dX10_asksNext_33 : decode cX10_asksNext 33 = .ok (.iload_n 1, 1) := by decide +kernel
theorem dX10_asksNext_34 : decode cX10_asksNext 34 = .ok (.iaload, 1) := by decide +kernel
theorem dX10_asksNext_35 : decode cX10_asksNext 35 = .ok (.iload_n 3, 1) := by decide +kernel
theorem dX10_asksNext_36 : decode cX10_asksNext 36 = .ok (.ishr, 1) := by decide +kernel
theorem dX10_asksNext_37 : decode cX10_asksNext 37 = .ok (.iconst 1, 1) := by decide +kernel
theorem dX10_asksNext_38 : decode cX10_asksNext 38 = .ok (.iand, 1) := by decide +kernel
theorem dX10_asksNext_39 : decode cX10_asksNext 39 = .ok (.ifCond .ne 7, 3) := by decide +kernel
theorem dX10_asksNext_42 : decode cX10_asksNext 42 = .ok (.iconst 1, 1) := by decide +kernel
theorem dX10_asksNext_43 : decode cX10_asksNext 43 = .ok (.goto 4, 3) := by decide +kernel
theorem dX10_asksNext_46 : decode cX10_asksNext 46 = .ok (.iconst 0, 1) := by decide +kernel
theorem dX10_asksNext_47 : decode cX10_asksNext 47 = .ok (.istore 4, 2) := by decide +kernel
theorem dX10_asksNext_49 : decode cX10_asksNext 49 = .ok (.iload 4, 2) := by decide +kernel
theorem dX10_asksNext_51 : decode cX10_asksNext 51 = .ok (.ifCond .eq 17, 3) := by decide +kernel
theorem dX10_asksNext_54 : decode cX10_asksNext 54 = .ok (.aload_n 0, 1) := by decide +kernel
theorem dX10_asksNext_55 : decode cX10_asksNext 55 = .ok (.iload_n 1, 1) := by decide +kernel
theorem dX10_asksNext_56 : decode cX10_asksNext 56 = .ok (.iload_n 3, 1) := by decide +kernel
theorem dX10_asksNext_57 : decode cX10_asksNext 57 = .ok (.iload_n 2, 1) := by decide +kernel
theorem dX10_asksNext_58 : decode cX10_asksNext 58 = .ok (.invokevirtual 178, 3) := by decide +kernel
theorem dX10_asksNext_61 : decode cX10_asksNext 61 = .ok (.ifCond .eq 7, 3) := by decide +kernel
theorem dX10_asksNext_64 : decode cX10_asksNext 64 = .ok (.iload_n 3, 1) := by decide +kernel
theorem dX10_asksNext_65 : decode cX10_asksNext 65 = .ok (.goto 4, 3) := by decide +kernel
theorem dX10_asksNext_68 : decode cX10_asksNext 68 = .ok (.iload_n 2, 1) := by decide +kernel
theorem dX10_asksNext_69 : decode cX10_asksNext 69 = .ok (.istore_n 2, 1) := by decide +kernel
theorem dX10_asksNext_70 : decode cX10_asksNext 70 = .ok (.iinc 3 1, 3) := by decide +kernel
theorem dX10_asksNext_73 : decode cX10_asksNext 73 = .ok (.goto (-68), 3) := by decide +kernel
theorem dX10_asksNext_76 : decode cX10_asksNext 76 = .ok (.iload_n 2, 1) := by decide +kernel
theorem dX10_asksNext_77 : decode cX10_asksNext 77 = .ok (.ireturn, 1) := by decide +kernel
set_option maxRecDepth 20000 in
theorem ggX10_ask_X10_asksNext : GoodIn wsX10_ask wsX10_asksNext := goodIn_r _ [9, 3, 2, 10, 11, 12, 8, 13, 4, 14, 15, 16, 17, 18, 19, 20, 21, 22, 23, 24, 25, 26, 27, 28, 29, 30, 31, 32, 33, 34, 35, 36, 37, 38, 39, 40, 41, 42, 43, 44, 45, 46, 47, 48, 49, 50, 51, 52] (by decide +kernel) (by decide +kernel)
set_option maxRecDepth 20000 in
theorem gX10_ask_X10_asksNext : GoodIn wsX10_ask (wsV RX10 181 RX10 yX10_asksNext wsX10_asksNext) := goodIn_app (goodIn_of _ (by decide +kernel)) ggX10_ask_X10_asksNext
set_option maxRecDepth 20000 in
theorem ggX10_ask_X10_likes : GoodIn wsX10_ask wsX10_likes := goodIn_r _ [19, 20, 21, 22, 23, 8, 24, 25, 26, 27, 28, 29, 30, 31, 32, 33, 34, 35, 36, 37, 38, 39, 40, 41, 42, 43, 44, 45, 46, 47, 48, 49, 50, 51, 52] (by decide +kernel) (by decide +kernel)
set_option maxRecDepth 20000 in
theorem gX10_ask_X10_likes : GoodIn wsX10_ask (wsV RX10 178 RX10 yX10_likes wsX10_likes) := goodIn_app (goodIn_of _ (by decide +kernel)) ggX10_ask_X10_likes
theorem dX10_ask_0 : decode cX10_ask 0 = .ok (.iconst 0, 1) := by decide +kernel
theorem dX10_ask_1 : decode cX10_ask 1 = .ok (.istore_n 1, 1) := by decide +kernel
theorem dX10_ask_2 : decode cX10_ask 2 = .ok (.iload_n 1, 1) := by decide +kernel
theorem dX10_ask_3 : decode cX10_ask 3 = .ok (.bipush 8, 2) := by decide +kernel
theorem dX10_ask_5 : decode cX10_ask 5 = .ok (.if_icmp .ge 24, 3) := by decide +kernel
theorem dX10_ask_8 : decode cX10_ask 8 = .ok (.aload_n 0, 1) := by decide +kernel
theorem dX10_ask_9 : decode cX10_ask 9 = .ok (.getfield 60, 3) := by decide +kernel
theorem dX10_ask_12 : decode cX10_ask 12 = .ok (.iload_n 1, 1) := by decide +kernel
theorem dX10_ask_13 : decode cX10_ask 13 = .ok (.bipush (-9), 2) := by decide +kernel
theorem dX10_ask_15 : decode cX10_ask 15 = .ok (.iastore, 1) := by decide +kernel
theorem dX10_ask_16 : decode cX10_ask 16 = .ok (.aload_n 0, 1) := by decide +kernel
theorem dX10_ask_17 : decode cX10_ask 17 = .ok (.getfield 63, 3) := by decide +kernel
theorem dX10_ask_20 : decode cX10_ask 20 = .ok (.iload_n 1, 1) := by decide +kernel
theorem dX10_ask_21 : decode cX10_ask 21 = .ok (.iconst 0, 1) := by decide +kernel
theorem dX10_ask_22 : decode cX10_ask 22 = .ok (.iastore, 1) := by decide +kernel
theorem dX10_ask_23 : decode cX10_ask 23 = .ok (.iinc 1 1, 3) := by decide +kernel
theorem dX10_ask_26 : decode cX10_ask 26 = .ok (.goto (-24), 3) := by decide +kernel
theorem dX10_ask_29 : decode cX10_ask 29 = .ok (.iconst 1, 1) := by decide +kernel
theorem dX10_ask_30 : decode cX10_ask 30 = .ok (.istore_n 1, 1) := by decide +kernel
theorem dX10_ask_31 : decode cX10_ask 31 = .ok (.iload_n 1, 1) := by decide +kernel
theorem dX10_ask_32 : decode cX10_ask 32 = .ok (.ifCond .eq 141, 3) := by decide +kernel
theorem dX10_ask_35 : decode cX10_ask 35 = .ok (.iconst 0, 1) := by decide +kernel
theorem dX10_ask_36 : decode cX10_ask 36 = .ok (.istore_n 1, 1) := by decide +kernel
theorem dX10_ask_37 : decode cX10_ask 37 = .ok (.iconst 0, 1) := by decide +kernel
theorem dX10_ask_38 : decode cX10_ask 38 = .ok (.istore_n 2, 1) := by decide +kernel
theorem dX10_ask_39 : decode cX10_ask 39 = .ok (.iload_n 2, 1) := by decide +kernel
theorem dX10_ask_40 : decode cX10_ask 40 = .ok (.aload_n 0, 1) := by decide +kernel
theorem dX10_ask_41 : decode cX10_ask 41 = .ok (.getfield 13, 3) := by decide +kernel
theorem dX10_ask_44 : decode cX10_ask 44 = .ok (.iconst 0, 1) := by decide +kernel
theorem dX10_ask_45 : decode cX10_ask 45 = .ok (.iaload, 1) := by decide +kernel
theorem dX10_ask_46 : decode cX10_ask 46 = .ok (.if_icmp .ge 124, 3) := by decide +kernel
theorem dX10_ask_49 : decode cX10_ask 49 = .ok (.aload_n 0, 1) := by decide +kernel
theorem dX10_ask_50 : decode cX10_ask 50 = .ok (.getfield 17, 3) := by decide +kernel
theorem dX10_ask_53 : decode cX10_ask 53 = .ok (.iload_n 2, 1) := by decide +kernel
theorem dX10_ask_54 : decode cX10_ask 54 = .ok (.iaload, 1) := by decide +kernel
theorem dX10_ask_55 : decode cX10_ask 55 = .ok (.ifCond .ne 22, 3) := by decide +kernel
theorem dX10_ask_58 : decode cX10_ask 58 = .ok (.aload_n 0, 1) := by decide +kernel
theorem dX10_ask_59 : decode cX10_ask 59 = .ok (.getfield 60, 3) := by decide +kernel
theorem dX10_ask_62 : decode cX10_ask 62 = .ok (.iload_n 2, 1) := by decide +kernel
theorem dX10_ask_63 : decode cX10_ask 63 = .ok (.iaload, 1) := by decide +kernel
theorem dX10_ask_64 : decode cX10_ask 64 = .ok (.bipush (-9), 2) := by decide +kernel
theorem dX10_ask_66 : decode cX10_ask 66 = .ok (.if_icmp .ne 11, 3) := by decide +kernel
theorem dX10_ask_69 : decode cX10_ask 69 = .ok (.aload_n 0, 1) := by decide +kernel
theorem dX10_ask_70 : decode cX10_ask 70 = .ok (.iload_n 2, 1) := by decide +kernel
theorem dX10_ask_71 : decode cX10_ask 71 = .ok (.invokevirtual 181, 3) := by decide +kernel
theorem dX10_ask_74 : decode cX10_ask 74 = .ok (.goto 5, 3) := by decide +kernel
theorem dX10_ask_77 : decode cX10_ask 77 = .ok (.bipush (-9), 2) := by decide +kernel
theorem dX10_ask_79 : decode cX10_ask 79 = .ok (.istore_n 3, 1) := by decide +kernel
theorem dX10_ask_80 : decode cX10_ask 80 = .ok (.iload_n 3, 1) := by decide +kernel
theorem dX10_ask_81 : decode cX10_ask 81 = .ok (.bipush (-9), 2) := by decide +kernel
theorem dX10_ask_83 : decode cX10_ask 83 = .ok (.if_icmp .eq 81, 3) := by decide +kernel
theorem dX10_ask_86 : decode cX10_ask 86 = .ok (.iconst 1, 1) := by decide +kernel
theorem dX10_ask_87 : decode cX10_ask 87 = .ok (.istore_n 1, 1) := by decide +kernel
theorem dX10_ask_88 : decode cX10_ask 88 = .ok (.aload_n 0, 1) := by decide +kernel
theorem dX10_ask_89 : decode cX10_ask 89 = .ok (.getfield 60, 3) := by decide +kernel
theorem dX10_ask_92 : decode cX10_ask 92 = .ok (.iload_n 3, 1) := by decide +kernel
theorem dX10_ask_93 : decode cX10_ask 93 = .ok (.iaload, 1) := by decide +kernel
theorem dX10_ask_94 : decode cX10_ask 94 = .ok (.istore 4, 2) := by decide +kernel
theorem dX10_ask_96 : decode cX10_ask 96 = .ok (.aload_n 0, 1) := by decide +kernel
theorem dX10_ask_97 : decode cX10_ask 97 = .ok (.iload_n 3, 1) := by decide +kernel
theorem dX10_ask_98 : decode cX10_ask 98 = .ok (.iload_n 2, 1) := by decide +kernel
theorem dX10_ask_99 : decode cX10_ask 99 = .ok (.iload 4, 2) := by decide +kernel
theorem dX10_ask_101 : decode cX10_ask 101 = .ok (.invokevirtual 178, 3) := by decide +kernel
theorem dX10_ask_104 : decode cX10_ask 104 = .ok (.ifCond .eq 8, 3) := by decide +kernel
theorem dX10_ask_107 : decode cX10_ask 107 = .ok (.iload 4, 2) := by decide +kernel
theorem dX10_ask_109 : decode cX10_ask 109 = .ok (.goto 4, 3) := by decide +kernel
theorem dX10_ask_112 : decode cX10_ask 112 = .ok (.iload_n 2, 1) := by decide +kernel
theorem dX10_ask_113 : decode cX10_ask 113 = .ok (.istore 5, 2) := by decide +kernel
theorem dX10_ask_115 : decode cX10_ask 115 = .ok (.iload 5, 2) := by decide +kernel
theorem dX10_ask_117 : decode cX10_ask 117 = .ok (.iload_n 2, 1) := by decide +kernel
theorem dX10_ask_118 : decode cX10_ask 118 = .ok (.if_icmp .eq 17, 3) := by decide +kernel
theorem dX10_ask_121 : decode cX10_ask 121 = .ok (.aload_n 0, 1) := by decide +kernel
theorem dX10_ask_122 : decode cX10_ask 122 = .ok (.getfield 60, 3) := by decide +kernel
theorem dX10_ask_125 : decode cX10_ask 125 = .ok (.iload_n 3, 1) := by decide +kernel
theorem dX10_ask_126 : decode cX10_ask 126 = .ok (.iload_n 2, 1) := by decide +kernel
theorem dX10_ask_127 : decode cX10_ask 127 = .ok (.iastore, 1) := by decide +kernel
theorem dX10_ask_128 : decode cX10_ask 128 = .ok (.aload_n 0, 1) := by decide +kernel
theorem dX10_ask_129 : decode cX10_ask 129 = .ok (.getfield 60, 3) := by decide +kernel
theorem dX10_ask_132 : decode cX10_ask 132 = .ok (.iload_n 2, 1) := by decide +kernel
theorem dX10_ask_133 : decode cX10_ask 133 = .ok (.iload_n 3, 1) := by decide +kernel
theorem dX10_ask_134 : decode cX10_ask 134 = .ok (.iastore, 1) := by decide +kernel
theorem dX10_ask_135 : decode cX10_ask 135 = .ok (.iload 5, 2) := by decide +kernel
theorem dX10_ask_137 : decode cX10_ask 137 = .ok (.bipush (-9), 2) := by decide +kernel
theorem dX10_ask_139 : decode cX10_ask 139 = .ok (.if_icmp .eq 25, 3) := by decide +kernel
theorem dX10_ask_142 : decode cX10_ask 142 = .ok (.aload_n 0, 1) := by decide +kernel
theorem dX10_ask_143 : decode cX10_ask 143 = .ok (.getfield 63, 3) := by decide +kernel
theorem dX10_ask_146 : decode cX10_ask 146 = .ok (.iload 5, 2) := by decide +kernel
theorem dX10_ask_148 : decode cX10_ask 148 = .ok (.dup2, 1) := by decide +kernel
theorem dX10_ask_149 : decode cX10_ask 149 = .ok (.iaload, 1) := by decide +kernel
theorem dX10_ask_150 : decode cX10_ask 150 = .ok (.iconst 1, 1) := by decide +kernel
theorem dX10_ask_151 : decode cX10_ask 151 = .ok (.iload_n 3, 1) := by decide +kernel
theorem dX10_ask_152 : decode cX10_ask 152 = .ok (.ishl, 1) := by decide +kernel
theorem dX10_ask_153 : decode cX10_ask 153 = .ok (.ior, 1) := by decide +kernel
theorem dX10_ask_154 : decode cX10_ask 154 = .ok (.iastore, 1) := by decide +kernel
theorem dX10_ask_155 : decode cX10_ask 155 = .ok (.aload_n 0, 1) := by decide +kernel
theorem dX10_ask_156 : decode cX10_ask 156 = .ok (.getfield 60, 3) := by decide +kernel
theorem dX10_ask_159 : decode cX10_ask 159 = .ok (.iload 5, 2) := by decide +kernel
theorem dX10_ask_161 : decode cX10_ask 161 = .ok (.bipush (-9), 2) := by decide +kernel
theorem dX10_ask_163 : decode cX10_ask 163 = .ok (.iastore, 1) := by decide +kernel
theorem dX10_ask_164 : decode cX10_ask 164 = .ok (.iinc 2 1, 3) := by decide +kernel
theorem dX10_ask_167 : decode cX10_ask 167 = .ok (.goto (-128), 3) := by decide +kernel
theorem dX10_ask_170 : decode cX10_ask 170 = .ok (.goto (-139), 3) := by decide +kernel
theorem dX10_ask_173 : decode cX10_ask 173 = .ok (.return_, 1) := by decide +kernel
set_option maxRecDepth 20000 in
theorem ggX10_asked_X10_isOne : GoodIn wsX10_asked wsX10_isOne := goodIn_r _ [6, 7, 8, 9, 5, 10, 37, 38, 39, 40, 41, 42, 43, 44, 45, 46, 47, 48, 49, 50, 51, 52, 53, 54, 55, 56, 57, 58, 59, 60, 61, 62, 63] (by decide +kernel) (by decide +kernel)
set_option maxRecDepth 20000 in
theorem gX10_asked_X10_isOne : GoodIn wsX10_asked (wsV RX10 122 RX10 yX10_isOne wsX10_isOne) := goodIn_app (goodIn_of _ (by decide +kernel)) ggX10_asked_X10_isOne
set_option maxRecDepth 20000 in
theorem ggX10_asked_X10_ask : GoodIn wsX10_asked wsX10_ask := goodIn_r _ [14, 1, 15, 7, 16, 17, 18, 19, 5, 20, 21, 22, 23, 24, 25, 26, 27, 28, 29, 30, 31, 32, 33, 34, 35, 36, 37, 38, 39, 40, 41, 42, 43, 44, 45, 46, 47, 48, 49, 50, 51, 52, 53, 54, 55, 56, 57, 58, 59, 60, 61, 62, 63] (by decide +kernel) (by decide +kernel)
set_option maxRecDepth 20000 in
theorem gX10_asked_X10_ask : GoodIn wsX10_asked (wsV RX10 184 RX10 yX10_ask wsX10_ask) := goodIn_app (goodIn_of _ (by decide +kernel)) ggX10_asked_X10_ask
theorem dX10_asked_0 : decode cX10_asked 0 = .ok (.aload_n 0, 1) := by decide +kernel
theorem dX10_asked_1 : decode cX10_asked 1 = .ok (.iload_n 1, 1) := by decide +kernel
theorem dX10_asked_2 : decode cX10_asked 2 = .ok (.invokevirtual 122, 3) := by decide +kernel
theorem dX10_asked_5 : decode cX10_asked 5 = .ok (.ifCond .ne 5, 3) := by decide +kernel
theorem dX10_asked_8 : decode cX10_asked 8 = .ok (.iconst (-1), 1) := by decide +kernel
theorem dX10_asked_9 : decode cX10_asked 9 = .ok (.ireturn, 1) := by decide +kernel
theorem dX10_asked_10 : decode cX10_asked 10 = .ok (.aload_n 0, 1) := by decide +kernel
theorem dX10_asked_11 : decode cX10_asked 11 = .ok (.invokevirtual 184, 3) := by decide +kernel
theorem dX10_asked_14 : decode cX10_asked 14 = .ok (.aload_n 0, 1) := by decide +kernel
theorem dX10_asked_15 : decode cX10_asked 15 = .ok (.getfield 60, 3) := by decide +kernel
theorem dX10_asked_18 : decode cX10_asked 18 = .ok (.iload_n 1, 1) := by decide +kernel
theorem dX10_asked_19 : decode cX10_asked 19 = .ok (.iaload, 1) := by decide +kernel
theorem dX10_asked_20 : decode cX10_asked 20 = .ok (.ireturn, 1) := by decide +kernel
set_option maxRecDepth 20000 in
theorem ggX10_pair_X10_right : GoodIn wsX10_pair wsX10_right := goodIn_r _ [8, 1, 3, 15, 16, 17, 18, 19, 20, 21, 22, 23, 24, 25, 26, 27, 28, 29, 30, 31, 32, 33, 34, 35, 36, 37, 38, 39, 40, 41] (by decide +kernel) (by decide +kernel)
set_option maxRecDepth 20000 in
theorem gX10_pair_X10_right : GoodIn wsX10_pair (wsV RX10 187 RX10 yX10_right wsX10_right) := goodIn_app (goodIn_of _ (by decide +kernel)) ggX10_pair_X10_right
set_option maxRecDepth 20000 in
theorem ggX10_pair_X10_fits : GoodIn wsX10_pair wsX10_fits := goodIn_r _ [12, 3, 13, 14, 15, 16, 17, 18, 19, 20, 21, 22, 23, 24, 25, 26, 27, 28, 29, 30, 31, 32, 33, 34, 35, 36, 37, 38, 39, 40, 41] (by decide +kernel) (by decide +kernel)
set_option maxRecDepth 20000 in
theorem gX10_pair_X10_fits : GoodIn wsX10_pair (wsV RX10 129 RX10 yX10_fits wsX10_fits) := goodIn_app (goodIn_of _ (by decide +kernel)) ggX10_pair_X10_fits
theorem dX10_pair_0 : decode cX10_pair 0 = .ok (.iload_n 1, 1) := by decide +kernel
theorem dX10_pair_1 : decode cX10_pair 1 = .ok (.istore_n 3, 1) := by decide +kernel
theorem dX10_pair_2 : decode cX10_pair 2 = .ok (.iconst 0, 1) := by decide +kernel
theorem dX10_pair_3 : decode cX10_pair 3 = .ok (.istore 4, 2) := by decide +kernel
theorem dX10_pair_5 : decode cX10_pair 5 = .ok (.iload 4, 2) := by decide +kernel
theorem dX10_pair_7 : decode cX10_pair 7 = .ok (.aload_n 0, 1) := by decide +kernel
theorem dX10_pair_8 : decode cX10_pair 8 = .ok (.getfield 13, 3) := by decide +kernel
theorem dX10_pair_11 : decode cX10_pair 11 = .ok (.iconst 0, 1) := by decide +kernel
theorem dX10_pair_12 : decode cX10_pair 12 = .ok (.iaload, 1) := by decide +kernel
theorem dX10_pair_13 : decode cX10_pair 13 = .ok (.if_icmp .ge 18, 3) := by decide +kernel
theorem dX10_pair_16 : decode cX10_pair 16 = .ok (.aload_n 0, 1) := by decide +kernel
theorem dX10_pair_17 : decode cX10_pair 17 = .ok (.getfield 60, 3) := by decide +kernel
theorem dX10_pair_20 : decode cX10_pair 20 = .ok (.iload 4, 2) := by decide +kernel
theorem dX10_pair_22 : decode cX10_pair 22 = .ok (.bipush (-9), 2) := by decide +kernel
theorem dX10_pair_24 : decode cX10_pair 24 = .ok (.iastore, 1) := by decide +kernel
theorem dX10_pair_25 : decode cX10_pair 25 = .ok (.iinc 4 1, 3) := by decide +kernel
theorem dX10_pair_28 : decode cX10_pair 28 = .ok (.goto (-23), 3) := by decide +kernel
theorem dX10_pair_31 : decode cX10_pair 31 = .ok (.iconst 0, 1) := by decide +kernel
theorem dX10_pair_32 : decode cX10_pair 32 = .ok (.istore 4, 2) := by decide +kernel
theorem dX10_pair_34 : decode cX10_pair 34 = .ok (.iload 4, 2) := by decide +kernel
theorem dX10_pair_36 : decode cX10_pair 36 = .ok (.aload_n 0, 1) := by decide +kernel
theorem dX10_pair_37 : decode cX10_pair 37 = .ok (.getfield 13, 3) := by decide +kernel
theorem dX10_pair_40 : decode cX10_pair 40 = .ok (.iconst 0, 1) := by decide +kernel
theorem dX10_pair_41 : decode cX10_pair 41 = .ok (.iaload, 1) := by decide +kernel
theorem dX10_pair_42 : decode cX10_pair 42 = .ok (.if_icmp .ge 107, 3) := by decide +kernel
theorem dX10_pair_45 : decode cX10_pair 45 = .ok (.aload_n 0, 1) := by decide +kernel
theorem dX10_pair_46 : decode cX10_pair 46 = .ok (.getfield 17, 3) := by decide +kernel
theorem dX10_pair_49 : decode cX10_pair 49 = .ok (.iload 4, 2) := by decide +kernel
theorem dX10_pair_51 : decode cX10_pair 51 = .ok (.iaload, 1) := by decide +kernel
theorem dX10_pair_52 : decode cX10_pair 52 = .ok (.ifCond .ne 91, 3) := by decide +kernel
theorem dX10_pair_55 : decode cX10_pair 55 = .ok (.iload_n 3, 1) := by decide +kernel
theorem dX10_pair_56 : decode cX10_pair 56 = .ok (.iload_n 2, 1) := by decide +kernel
theorem dX10_pair_57 : decode cX10_pair 57 = .ok (.iconst 1, 1) := by decide +kernel
theorem dX10_pair_58 : decode cX10_pair 58 = .ok (.iadd, 1) := by decide +kernel
theorem dX10_pair_59 : decode cX10_pair 59 = .ok (.irem, 1) := by decide +kernel
theorem dX10_pair_60 : decode cX10_pair 60 = .ok (.istore 5, 2) := by decide +kernel
theorem dX10_pair_62 : decode cX10_pair 62 = .ok (.iload_n 3, 1) := by decide +kernel
theorem dX10_pair_63 : decode cX10_pair 63 = .ok (.iload_n 2, 1) := by decide +kernel
theorem dX10_pair_64 : decode cX10_pair 64 = .ok (.iconst 1, 1) := by decide +kernel
theorem dX10_pair_65 : decode cX10_pair 65 = .ok (.iadd, 1) := by decide +kernel
theorem dX10_pair_66 : decode cX10_pair 66 = .ok (.idiv, 1) := by decide +kernel
theorem dX10_pair_67 : decode cX10_pair 67 = .ok (.istore_n 3, 1) := by decide +kernel
theorem dX10_pair_68 : decode cX10_pair 68 = .ok (.iload 5, 2) := by decide +kernel
theorem dX10_pair_70 : decode cX10_pair 70 = .ok (.ifCond .ne 8, 3) := by decide +kernel
theorem dX10_pair_73 : decode cX10_pair 73 = .ok (.bipush (-9), 2) := by decide +kernel
theorem dX10_pair_75 : decode cX10_pair 75 = .ok (.goto 9, 3) := by decide +kernel
theorem dX10_pair_78 : decode cX10_pair 78 = .ok (.aload_n 0, 1) := by decide +kernel
theorem dX10_pair_79 : decode cX10_pair 79 = .ok (.iload 5, 2) := by decide +kernel
theorem dX10_pair_81 : decode cX10_pair 81 = .ok (.invokevirtual 187, 3) := by decide +kernel
theorem dX10_pair_84 : decode cX10_pair 84 = .ok (.istore 6, 2) := by decide +kernel
theorem dX10_pair_86 : decode cX10_pair 86 = .ok (.iload 6, 2) := by decide +kernel
theorem dX10_pair_88 : decode cX10_pair 88 = .ok (.bipush (-9), 2) := by decide +kernel
theorem dX10_pair_90 : decode cX10_pair 90 = .ok (.if_icmp .eq 28, 3) := by decide +kernel
theorem dX10_pair_93 : decode cX10_pair 93 = .ok (.aload_n 0, 1) := by decide +kernel
theorem dX10_pair_94 : decode cX10_pair 94 = .ok (.iload 4, 2) := by decide +kernel
theorem dX10_pair_96 : decode cX10_pair 96 = .ok (.iload 6, 2) := by decide +kernel
theorem dX10_pair_98 : decode cX10_pair 98 = .ok (.invokevirtual 129, 3) := by decide +kernel
theorem dX10_pair_101 : decode cX10_pair 101 = .ok (.ifCond .eq 15, 3) := by decide +kernel
theorem dX10_pair_104 : decode cX10_pair 104 = .ok (.aload_n 0, 1) := by decide +kernel
theorem dX10_pair_105 : decode cX10_pair 105 = .ok (.getfield 60, 3) := by decide +kernel
theorem dX10_pair_108 : decode cX10_pair 108 = .ok (.iload 6, 2) := by decide +kernel
theorem dX10_pair_110 : decode cX10_pair 110 = .ok (.iaload, 1) := by decide +kernel
theorem dX10_pair_111 : decode cX10_pair 111 = .ok (.bipush (-9), 2) := by decide +kernel
theorem dX10_pair_113 : decode cX10_pair 113 = .ok (.if_icmp .eq 5, 3) := by decide +kernel
theorem dX10_pair_116 : decode cX10_pair 116 = .ok (.iconst 0, 1) := by decide +kernel
theorem dX10_pair_117 : decode cX10_pair 117 = .ok (.ireturn, 1) := by decide +kernel
theorem dX10_pair_118 : decode cX10_pair 118 = .ok (.aload_n 0, 1) := by decide +kernel
theorem dX10_pair_119 : decode cX10_pair 119 = .ok (.getfield 60, 3) := by decide +kernel
theorem dX10_pair_122 : decode cX10_pair 122 = .ok (.iload 4, 2) := by decide +kernel
theorem dX10_pair_124 : decode cX10_pair 124 = .ok (.iload 6, 2) := by decide +kernel
theorem dX10_pair_126 : decode cX10_pair 126 = .ok (.iastore, 1) := by decide +kernel
theorem dX10_pair_127 : decode cX10_pair 127 = .ok (.iload 6, 2) := by decide +kernel
theorem dX10_pair_129 : decode cX10_pair 129 = .ok (.bipush (-9), 2) := by decide +kernel
theorem dX10_pair_131 : decode cX10_pair 131 = .ok (.if_icmp .eq 12, 3) := by decide +kernel
theorem dX10_pair_134 : decode cX10_pair 134 = .ok (.aload_n 0, 1) := by decide +kernel
theorem dX10_pair_135 : decode cX10_pair 135 = .ok (.getfield 60, 3) := by decide +kernel
theorem dX10_pair_138 : decode cX10_pair 138 = .ok (.iload 6, 2) := by decide +kernel
theorem dX10_pair_140 : decode cX10_pair 140 = .ok (.iload 4, 2) := by decide +kernel
theorem dX10_pair_142 : decode cX10_pair 142 = .ok (.iastore, 1) := by decide +kernel
theorem dX10_pair_143 : decode cX10_pair 143 = .ok (.iinc 4 1, 3) := by decide +kernel
theorem dX10_pair_146 : decode cX10_pair 146 = .ok (.goto (-112), 3) := by decide +kernel
theorem dX10_pair_149 : decode cX10_pair 149 = .ok (.iconst 1, 1) := by decide +kernel
theorem dX10_pair_150 : decode cX10_pair 150 = .ok (.ireturn, 1) := by decide +kernel
theorem dX10_right_0 : decode cX10_right 0 = .ok (.iconst 0, 1) := by decide +kernel
theorem dX10_right_1 : decode cX10_right 1 = .ok (.istore_n 2, 1) := by decide +kernel
theorem dX10_right_2 : decode cX10_right 2 = .ok (.iconst 0, 1) := by decide +kernel
theorem dX10_right_3 : decode cX10_right 3 = .ok (.istore_n 3, 1) := by decide +kernel
theorem dX10_right_4 : decode cX10_right 4 = .ok (.iload_n 3, 1) := by decide +kernel
theorem dX10_right_5 : decode cX10_right 5 = .ok (.aload_n 0, 1) := by decide +kernel
theorem dX10_right_6 : decode cX10_right 6 = .ok (.getfield 13, 3) := by decide +kernel
theorem dX10_right_9 : decode cX10_right 9 = .ok (.iconst 0, 1) := by decide +kernel
theorem dX10_right_10 : decode cX10_right 10 = .ok (.iaload, 1) := by decide +kernel
theorem dX10_right_11 : decode cX10_right 11 = .ok (.if_icmp .ge 35, 3) := by decide +kernel
theorem dX10_right_14 : decode cX10_right 14 = .ok (.iload_n 2, 1) := by decide +kernel
theorem dX10_right_15 : decode cX10_right 15 = .ok (.aload_n 0, 1) := by decide +kernel
theorem dX10_right_16 : decode cX10_right 16 = .ok (.getfield 17, 3) := by decide +kernel
theorem dX10_right_19 : decode cX10_right 19 = .ok (.iload_n 3, 1) := by decide +kernel
theorem dX10_right_20 : decode cX10_right 20 = .ok (.iaload, 1) := by decide +kernel
theorem dX10_right_21 : decode cX10_right 21 = .ok (.iadd, 1) := by decide +kernel
theorem dX10_right_22 : decode cX10_right 22 = .ok (.istore_n 2, 1) := by decide +kernel
theorem dX10_right_23 : decode cX10_right 23 = .ok (.aload_n 0, 1) := by decide +kernel
theorem dX10_right_24 : decode cX10_right 24 = .ok (.getfield 17, 3) := by decide +kernel
theorem dX10_right_27 : decode cX10_right 27 = .ok (.iload_n 3, 1) := by decide +kernel
theorem dX10_right_28 : decode cX10_right 28 = .ok (.iaload, 1) := by decide +kernel
theorem dX10_right_29 : decode cX10_right 29 = .ok (.iconst 1, 1) := by decide +kernel
theorem dX10_right_30 : decode cX10_right 30 = .ok (.if_icmp .ne 10, 3) := by decide +kernel
theorem dX10_right_33 : decode cX10_right 33 = .ok (.iload_n 2, 1) := by decide +kernel
theorem dX10_right_34 : decode cX10_right 34 = .ok (.iload_n 1, 1) := by decide +kernel
theorem dX10_right_35 : decode cX10_right 35 = .ok (.if_icmp .ne 5, 3) := by decide +kernel
theorem dX10_right_38 : decode cX10_right 38 = .ok (.iload_n 3, 1) := by decide +kernel
theorem dX10_right_39 : decode cX10_right 39 = .ok (.ireturn, 1) := by decide +kernel
theorem dX10_right_40 : decode cX10_right 40 = .ok (.iinc 3 1, 3) := by decide +kernel
theorem dX10_right_43 : decode cX10_right 43 = .ok (.goto (-39), 3) := by decide +kernel
theorem dX10_right_46 : decode cX10_right 46 = .ok (.bipush (-9), 2) := by decide +kernel
theorem dX10_right_48 : decode cX10_right 48 = .ok (.ireturn, 1) := by decide +kernel
set_option maxRecDepth 20000 in
theorem ggX10_isRest_X10_fits : GoodIn wsX10_isRest wsX10_fits := goodIn_r _ [7, 8, 9, 10, 21, 22, 23, 24, 25, 26, 27, 28, 29, 30, 31, 32, 33, 34, 35, 36, 37, 38, 39, 40, 41, 42, 43, 44, 45, 46, 47] (by decide +kernel) (by decide +kernel)
set_option maxRecDepth 20000 in
theorem gX10_isRest_X10_fits : GoodIn wsX10_isRest (wsV RX10 129 RX10 yX10_fits wsX10_fits) := goodIn_app (goodIn_of _ (by decide +kernel)) ggX10_isRest_X10_fits
set_option maxRecDepth 20000 in
theorem ggX10_isRest_X10_likes : GoodIn wsX10_isRest wsX10_likes := goodIn_r _ [14, 15, 16, 17, 18, 6, 19, 20, 21, 22, 23, 24, 25, 26, 27, 28, 29, 30, 31, 32, 33, 34, 35, 36, 37, 38, 39, 40, 41, 42, 43, 44, 45, 46, 47] (by decide +kernel) (by decide +kernel)
set_option maxRecDepth 20000 in
theorem gX10_isRest_X10_likes : GoodIn wsX10_isRest (wsV RX10 178 RX10 yX10_likes wsX10_likes) := goodIn_app (goodIn_of _ (by decide +kernel)) ggX10_isRest_X10_likes
theorem dX10_isRest_0 : decode cX10_isRest 0 = .ok (.iconst 0, 1) := by decide +kernel
theorem dX10_isRest_1 : decode cX10_isRest 1 = .ok (.istore_n 1, 1) := by decide +kernel
theorem dX10_isRest_2 : decode cX10_isRest 2 = .ok (.iload_n 1, 1) := by decide +kernel
theorem dX10_isRest_3 : decode cX10_isRest 3 = .ok (.aload_n 0, 1) := by decide +kernel
theorem dX10_isRest_4 : decode cX10_isRest 4 = .ok (.getfield 13, 3) := by decide +kernel
theorem dX10_isRest_7 : decode cX10_isRest 7 = .ok (.iconst 0, 1) := by decide +kernel
theorem dX10_isRest_8 : decode cX10_isRest 8 = .ok (.iaload, 1) := by decide +kernel
theorem dX10_isRest_9 : decode cX10_isRest 9 = .ok (.if_icmp .ge 73, 3) := by decide +kernel
theorem dX10_isRest_12 : decode cX10_isRest 12 = .ok (.iconst 0, 1) := by decide +kernel
theorem dX10_isRest_13 : decode cX10_isRest 13 = .ok (.istore_n 2, 1) := by decide +kernel
theorem dX10_isRest_14 : decode cX10_isRest 14 = .ok (.iload_n 2, 1) := by decide +kernel
theorem dX10_isRest_15 : decode cX10_isRest 15 = .ok (.aload_n 0, 1) := by decide +kernel
theorem dX10_isRest_16 : decode cX10_isRest 16 = .ok (.getfield 13, 3) := by decide +kernel
theorem dX10_isRest_19 : decode cX10_isRest 19 = .ok (.iconst 0, 1) := by decide +kernel
theorem dX10_isRest_20 : decode cX10_isRest 20 = .ok (.iaload, 1) := by decide +kernel
theorem dX10_isRest_21 : decode cX10_isRest 21 = .ok (.if_icmp .ge 55, 3) := by decide +kernel
theorem dX10_isRest_24 : decode cX10_isRest 24 = .ok (.iload_n 1, 1) := by decide +kernel
theorem dX10_isRest_25 : decode cX10_isRest 25 = .ok (.iload_n 2, 1) := by decide +kernel
theorem dX10_isRest_26 : decode cX10_isRest 26 = .ok (.if_icmp .eq 44, 3) := by decide +kernel
theorem dX10_isRest_29 : decode cX10_isRest 29 = .ok (.aload_n 0, 1) := by decide +kernel
theorem dX10_isRest_30 : decode cX10_isRest 30 = .ok (.iload_n 1, 1) := by decide +kernel
theorem dX10_isRest_31 : decode cX10_isRest 31 = .ok (.iload_n 2, 1) := by decide +kernel
theorem dX10_isRest_32 : decode cX10_isRest 32 = .ok (.invokevirtual 129, 3) := by decide +kernel
theorem dX10_isRest_35 : decode cX10_isRest 35 = .ok (.ifCond .eq 35, 3) := by decide +kernel
theorem dX10_isRest_38 : decode cX10_isRest 38 = .ok (.aload_n 0, 1) := by decide +kernel
theorem dX10_isRest_39 : decode cX10_isRest 39 = .ok (.iload_n 1, 1) := by decide +kernel
theorem dX10_isRest_40 : decode cX10_isRest 40 = .ok (.iload_n 2, 1) := by decide +kernel
theorem dX10_isRest_41 : decode cX10_isRest 41 = .ok (.aload_n 0, 1) := by decide +kernel
theorem dX10_isRest_42 : decode cX10_isRest 42 = .ok (.getfield 60, 3) := by decide +kernel
theorem dX10_isRest_45 : decode cX10_isRest 45 = .ok (.iload_n 1, 1) := by decide +kernel
theorem dX10_isRest_46 : decode cX10_isRest 46 = .ok (.iaload, 1) := by decide +kernel
theorem dX10_isRest_47 : decode cX10_isRest 47 = .ok (.invokevirtual 178, 3) := by decide +kernel
theorem dX10_isRest_50 : decode cX10_isRest 50 = .ok (.ifCond .eq 20, 3) := by decide +kernel
theorem dX10_isRest_53 : decode cX10_isRest 53 = .ok (.aload_n 0, 1) := by decide +kernel
theorem dX10_isRest_54 : decode cX10_isRest 54 = .ok (.iload_n 2, 1) := by decide +kernel
theorem dX10_isRest_55 : decode cX10_isRest 55 = .ok (.iload_n 1, 1) := by decide +kernel
theorem dX10_isRest_56 : decode cX10_isRest 56 = .ok (.aload_n 0, 1) := by decide +kernel
theorem dX10_isRest_57 : decode cX10_isRest 57 = .ok (.getfield 60, 3) := by decide +kernel
theorem dX10_isRest_60 : decode cX10_isRest 60 = .ok (.iload_n 2, 1) := by decide +kernel
theorem dX10_isRest_61 : decode cX10_isRest 61 = .ok (.iaload, 1) := by decide +kernel
theorem dX10_isRest_62 : decode cX10_isRest 62 = .ok (.invokevirtual 178, 3) := by decide +kernel
theorem dX10_isRest_65 : decode cX10_isRest 65 = .ok (.ifCond .eq 5, 3) := by decide +kernel
theorem dX10_isRest_68 : decode cX10_isRest 68 = .ok (.iconst 0, 1) := by decide +kernel
theorem dX10_isRest_69 : decode cX10_isRest 69 = .ok (.ireturn, 1) := by decide +kernel
theorem dX10_isRest_70 : decode cX10_isRest 70 = .ok (.iinc 2 1, 3) := by decide +kernel
theorem dX10_isRest_73 : decode cX10_isRest 73 = .ok (.goto (-59), 3) := by decide +kernel
theorem dX10_isRest_76 : decode cX10_isRest 76 = .ok (.iinc 1 1, 3) := by decide +kernel
theorem dX10_isRest_79 : decode cX10_isRest 79 = .ok (.goto (-77), 3) := by decide +kernel
theorem dX10_isRest_82 : decode cX10_isRest 82 = .ok (.iconst 1, 1) := by decide +kernel
theorem dX10_isRest_83 : decode cX10_isRest 83 = .ok (.ireturn, 1) := by decide +kernel
set_option maxRecDepth 20000 in
theorem ggX10_rests_X10_pair : GoodIn wsX10_rests wsX10_pair := goodIn_r _ [7, 1, 8, 2, 9, 10, 11, 6, 12, 13, 14, 15, 16, 17, 18, 33, 34, 35, 36, 37, 38, 39, 40, 41, 42, 43, 44, 45, 46, 47, 48, 49, 50, 51, 52, 53, 54, 55, 56, 57, 58, 59] (by decide +kernel) (by decide +kernel)
set_option maxRecDepth 20000 in
theorem gX10_rests_X10_pair : GoodIn wsX10_rests (wsV RX10 190 RX10 yX10_pair wsX10_pair) := goodIn_app (goodIn_of _ (by decide +kernel)) ggX10_rests_X10_pair
set_option maxRecDepth 20000 in
theorem ggX10_rests_X10_isRest : GoodIn wsX10_rests wsX10_isRest := goodIn_r _ [22, 1, 8, 13, 14, 15, 6, 16, 2, 17, 18, 23, 24, 25, 26, 27, 28, 29, 30, 31, 32, 33, 34, 35, 36, 37, 38, 39, 40, 41, 42, 43, 44, 45, 46, 47, 48, 49, 50, 51, 52, 53, 54, 55, 56, 57, 58, 59] (by decide +kernel) (by decide +kernel)
set_option maxRecDepth 20000 in
theorem gX10_rests_X10_isRest : GoodIn wsX10_rests (wsV RX10 193 RX10 yX10_isRest wsX10_isRest) := goodIn_app (goodIn_of _ (by decide +kernel)) ggX10_rests_X10_isRest
theorem dX10_rests_0 : decode cX10_rests 0 = .ok (.iconst 0, 1) := by decide +kernel
theorem dX10_rests_1 : decode cX10_rests 1 = .ok (.istore_n 1, 1) := by decide +kernel
theorem dX10_rests_2 : decode cX10_rests 2 = .ok (.iconst 1, 1) := by decide +kernel
theorem dX10_rests_3 : decode cX10_rests 3 = .ok (.istore_n 2, 1) := by decide +kernel
theorem dX10_rests_4 : decode cX10_rests 4 = .ok (.iconst 0, 1) := by decide +kernel
theorem dX10_rests_5 : decode cX10_rests 5 = .ok (.istore_n 3, 1) := by decide +kernel
theorem dX10_rests_6 : decode cX10_rests 6 = .ok (.iload_n 3, 1) := by decide +kernel
theorem dX10_rests_7 : decode cX10_rests 7 = .ok (.aload_n 0, 1) := by decide +kernel
theorem dX10_rests_8 : decode cX10_rests 8 = .ok (.getfield 13, 3) := by decide +kernel
theorem dX10_rests_11 : decode cX10_rests 11 = .ok (.iconst 0, 1) := by decide +kernel
theorem dX10_rests_12 : decode cX10_rests 12 = .ok (.iaload, 1) := by decide +kernel
theorem dX10_rests_13 : decode cX10_rests 13 = .ok (.if_icmp .ge 18, 3) := by decide +kernel
theorem dX10_rests_16 : decode cX10_rests 16 = .ok (.iload_n 1, 1) := by decide +kernel
theorem dX10_rests_17 : decode cX10_rests 17 = .ok (.aload_n 0, 1) := by decide +kernel
theorem dX10_rests_18 : decode cX10_rests 18 = .ok (.getfield 17, 3) := by decide +kernel
theorem dX10_rests_21 : decode cX10_rests 21 = .ok (.iload_n 3, 1) := by decide +kernel
theorem dX10_rests_22 : decode cX10_rests 22 = .ok (.iaload, 1) := by decide +kernel
theorem dX10_rests_23 : decode cX10_rests 23 = .ok (.iadd, 1) := by decide +kernel
theorem dX10_rests_24 : decode cX10_rests 24 = .ok (.istore_n 1, 1) := by decide +kernel
theorem dX10_rests_25 : decode cX10_rests 25 = .ok (.iinc 3 1, 3) := by decide +kernel
theorem dX10_rests_28 : decode cX10_rests 28 = .ok (.goto (-22), 3) := by decide +kernel
theorem dX10_rests_31 : decode cX10_rests 31 = .ok (.iconst 0, 1) := by decide +kernel
theorem dX10_rests_32 : decode cX10_rests 32 = .ok (.istore_n 3, 1) := by decide +kernel
theorem dX10_rests_33 : decode cX10_rests 33 = .ok (.iload_n 3, 1) := by decide +kernel
theorem dX10_rests_34 : decode cX10_rests 34 = .ok (.aload_n 0, 1) := by decide +kernel
theorem dX10_rests_35 : decode cX10_rests 35 = .ok (.getfield 13, 3) := by decide +kernel
theorem dX10_rests_38 : decode cX10_rests 38 = .ok (.iconst 0, 1) := by decide +kernel
theorem dX10_rests_39 : decode cX10_rests 39 = .ok (.iaload, 1) := by decide +kernel
theorem dX10_rests_40 : decode cX10_rests 40 = .ok (.if_icmp .ge 28, 3) := by decide +kernel
theorem dX10_rests_43 : decode cX10_rests 43 = .ok (.iload_n 2, 1) := by decide +kernel
theorem dX10_rests_44 : decode cX10_rests 44 = .ok (.aload_n 0, 1) := by decide +kernel
theorem dX10_rests_45 : decode cX10_rests 45 = .ok (.getfield 17, 3) := by decide +kernel
theorem dX10_rests_48 : decode cX10_rests 48 = .ok (.iload_n 3, 1) := by decide +kernel
theorem dX10_rests_49 : decode cX10_rests 49 = .ok (.iaload, 1) := by decide +kernel
theorem dX10_rests_50 : decode cX10_rests 50 = .ok (.ifCond .ne 9, 3) := by decide +kernel
theorem dX10_rests_53 : decode cX10_rests 53 = .ok (.iload_n 1, 1) := by decide +kernel
theorem dX10_rests_54 : decode cX10_rests 54 = .ok (.iconst 1, 1) := by decide +kernel
theorem dX10_rests_55 : decode cX10_rests 55 = .ok (.iadd, 1) := by decide +kernel
theorem dX10_rests_56 : decode cX10_rests 56 = .ok (.goto 4, 3) := by decide +kernel
theorem dX10_rests_59 : decode cX10_rests 59 = .ok (.iconst 1, 1) := by decide +kernel
theorem dX10_rests_60 : decode cX10_rests 60 = .ok (.imul, 1) := by decide +kernel
theorem dX10_rests_61 : decode cX10_rests 61 = .ok (.istore_n 2, 1) := by decide +kernel
theorem dX10_rests_62 : decode cX10_rests 62 = .ok (.iinc 3 1, 3) := by decide +kernel
theorem dX10_rests_65 : decode cX10_rests 65 = .ok (.goto (-32), 3) := by decide +kernel
theorem dX10_rests_68 : decode cX10_rests 68 = .ok (.iconst 0, 1) := by decide +kernel
theorem dX10_rests_69 : decode cX10_rests 69 = .ok (.istore_n 3, 1) := by decide +kernel
theorem dX10_rests_70 : decode cX10_rests 70 = .ok (.iconst 0, 1) := by decide +kernel
theorem dX10_rests_71 : decode cX10_rests 71 = .ok (.istore 4, 2) := by decide +kernel
theorem dX10_rests_73 : decode cX10_rests 73 = .ok (.iload 4, 2) := by decide +kernel
theorem dX10_rests_75 : decode cX10_rests 75 = .ok (.iload_n 2, 1) := by decide +kernel
theorem dX10_rests_76 : decode cX10_rests 76 = .ok (.if_icmp .ge 34, 3) := by decide +kernel
theorem dX10_rests_79 : decode cX10_rests 79 = .ok (.iload_n 3, 1) := by decide +kernel
theorem dX10_rests_80 : decode cX10_rests 80 = .ok (.aload_n 0, 1) := by decide +kernel
theorem dX10_rests_81 : decode cX10_rests 81 = .ok (.iload 4, 2) := by decide +kernel
theorem dX10_rests_83 : decode cX10_rests 83 = .ok (.iload_n 1, 1) := by decide +kernel
theorem dX10_rests_84 : decode cX10_rests 84 = .ok (.invokevirtual 190, 3) := by decide +kernel
theorem dX10_rests_87 : decode cX10_rests 87 = .ok (.ifCond .eq 14, 3) := by decide +kernel
theorem dX10_rests_90 : decode cX10_rests 90 = .ok (.aload_n 0, 1) := by decide +kernel
theorem dX10_rests_91 : decode cX10_rests 91 = .ok (.invokevirtual 193, 3) := by decide +kernel
theorem dX10_rests_94 : decode cX10_rests 94 = .ok (.ifCond .eq 7, 3) := by decide +kernel
theorem dX10_rests_97 : decode cX10_rests 97 = .ok (.iconst 1, 1) := by decide +kernel
theorem dX10_rests_98 : decode cX10_rests 98 = .ok (.goto 4, 3) := by decide +kernel
theorem dX10_rests_101 : decode cX10_rests 101 = .ok (.iconst 0, 1) := by decide +kernel
theorem dX10_rests_102 : decode cX10_rests 102 = .ok (.iadd, 1) := by decide +kernel
theorem dX10_rests_103 : decode cX10_rests 103 = .ok (.istore_n 3, 1) := by decide +kernel
theorem dX10_rests_104 : decode cX10_rests 104 = .ok (.iinc 4 1, 3) := by decide +kernel
theorem dX10_rests_107 : decode cX10_rests 107 = .ok (.goto (-34), 3) := by decide +kernel
theorem dX10_rests_110 : decode cX10_rests 110 = .ok (.iload_n 3, 1) := by decide +kernel
theorem dX10_rests_111 : decode cX10_rests 111 = .ok (.ireturn, 1) := by decide +kernel
set_option maxRecDepth 20000 in
theorem ggX10_cuts_X10_in : GoodIn wsX10_cuts wsX10_in := goodIn_r _ [8] (by decide +kernel) (by decide +kernel)
set_option maxRecDepth 20000 in
theorem gX10_cuts_X10_in : GoodIn wsX10_cuts (va_wsS RX10 72 yX10_in wsX10_in) := goodIn_app (goodIn_of _ (by decide +kernel)) ggX10_cuts_X10_in
set_option maxRecDepth 20000 in
theorem ggX10_cuts_X10_cutOne : GoodIn wsX10_cuts wsX10_cutOne := goodIn_r _ [12, 2, 3, 13, 14, 1, 4, 15, 16, 17, 18, 19, 20, 21, 22, 23, 24, 25, 26, 27, 28, 29, 30, 31, 32, 33, 34, 35, 36, 37, 38, 39, 40, 41] (by decide +kernel) (by decide +kernel)
set_option maxRecDepth 20000 in
theorem gX10_cuts_X10_cutOne : GoodIn wsX10_cuts (wsV RX10 197 RX10 yX10_cutOne wsX10_cutOne) := goodIn_app (goodIn_of _ (by decide +kernel)) ggX10_cuts_X10_cutOne
theorem dX10_cuts_0 : decode cX10_cuts 0 = .ok (.iload_n 1, 1) := by decide +kernel
theorem dX10_cuts_1 : decode cX10_cuts 1 = .ok (.iconst 1, 1) := by decide +kernel
theorem dX10_cuts_2 : decode cX10_cuts 2 = .ok (.iconst 4, 1) := by decide +kernel
theorem dX10_cuts_3 : decode cX10_cuts 3 = .ok (.invokestatic 72, 3) := by decide +kernel
theorem dX10_cuts_6 : decode cX10_cuts 6 = .ok (.ifCond .ne 5, 3) := by decide +kernel
theorem dX10_cuts_9 : decode cX10_cuts 9 = .ok (.iconst (-1), 1) := by decide +kernel
theorem dX10_cuts_10 : decode cX10_cuts 10 = .ok (.ireturn, 1) := by decide +kernel
theorem dX10_cuts_11 : decode cX10_cuts 11 = .ok (.iconst 0, 1) := by decide +kernel
theorem dX10_cuts_12 : decode cX10_cuts 12 = .ok (.istore_n 2, 1) := by decide +kernel
theorem dX10_cuts_13 : decode cX10_cuts 13 = .ok (.iload_n 2, 1) := by decide +kernel
theorem dX10_cuts_14 : decode cX10_cuts 14 = .ok (.sipush 1280, 3) := by decide +kernel
theorem dX10_cuts_17 : decode cX10_cuts 17 = .ok (.if_icmp .ge 26, 3) := by decide +kernel
theorem dX10_cuts_20 : decode cX10_cuts 20 = .ok (.aload_n 0, 1) := by decide +kernel
theorem dX10_cuts_21 : decode cX10_cuts 21 = .ok (.getfield 66, 3) := by decide +kernel
theorem dX10_cuts_24 : decode cX10_cuts 24 = .ok (.iload_n 2, 1) := by decide +kernel
theorem dX10_cuts_25 : decode cX10_cuts 25 = .ok (.iload_n 2, 1) := by decide +kernel
theorem dX10_cuts_26 : decode cX10_cuts 26 = .ok (.ifCond .ne 7, 3) := by decide +kernel
theorem dX10_cuts_29 : decode cX10_cuts 29 = .ok (.iconst 0, 1) := by decide +kernel
theorem dX10_cuts_30 : decode cX10_cuts 30 = .ok (.goto 6, 3) := by decide +kernel
theorem dX10_cuts_33 : decode cX10_cuts 33 = .ok (.sipush 9999, 3) := by decide +kernel
theorem dX10_cuts_36 : decode cX10_cuts 36 = .ok (.iastore, 1) := by decide +kernel
theorem dX10_cuts_37 : decode cX10_cuts 37 = .ok (.iinc 2 1, 3) := by decide +kernel
theorem dX10_cuts_40 : decode cX10_cuts 40 = .ok (.goto (-27), 3) := by decide +kernel
theorem dX10_cuts_43 : decode cX10_cuts 43 = .ok (.iconst 0, 1) := by decide +kernel
theorem dX10_cuts_44 : decode cX10_cuts 44 = .ok (.istore_n 2, 1) := by decide +kernel
theorem dX10_cuts_45 : decode cX10_cuts 45 = .ok (.iload_n 2, 1) := by decide +kernel
theorem dX10_cuts_46 : decode cX10_cuts 46 = .ok (.aload_n 0, 1) := by decide +kernel
theorem dX10_cuts_47 : decode cX10_cuts 47 = .ok (.getfield 13, 3) := by decide +kernel
theorem dX10_cuts_50 : decode cX10_cuts 50 = .ok (.iconst 0, 1) := by decide +kernel
theorem dX10_cuts_51 : decode cX10_cuts 51 = .ok (.iaload, 1) := by decide +kernel
theorem dX10_cuts_52 : decode cX10_cuts 52 = .ok (.if_icmp .ge 93, 3) := by decide +kernel
theorem dX10_cuts_55 : decode cX10_cuts 55 = .ok (.aload_n 0, 1) := by decide +kernel
theorem dX10_cuts_56 : decode cX10_cuts 56 = .ok (.getfield 17, 3) := by decide +kernel
theorem dX10_cuts_59 : decode cX10_cuts 59 = .ok (.iload_n 2, 1) := by decide +kernel
theorem dX10_cuts_60 : decode cX10_cuts 60 = .ok (.iaload, 1) := by decide +kernel
theorem dX10_cuts_61 : decode cX10_cuts 61 = .ok (.ifCond .ne 78, 3) := by decide +kernel
theorem dX10_cuts_64 : decode cX10_cuts 64 = .ok (.iconst 0, 1) := by decide +kernel
theorem dX10_cuts_65 : decode cX10_cuts 65 = .ok (.istore_n 3, 1) := by decide +kernel
theorem dX10_cuts_66 : decode cX10_cuts 66 = .ok (.iload_n 3, 1) := by decide +kernel
theorem dX10_cuts_67 : decode cX10_cuts 67 = .ok (.sipush 1280, 3) := by decide +kernel
theorem dX10_cuts_70 : decode cX10_cuts 70 = .ok (.if_icmp .ge 21, 3) := by decide +kernel
theorem dX10_cuts_73 : decode cX10_cuts 73 = .ok (.aload_n 0, 1) := by decide +kernel
theorem dX10_cuts_74 : decode cX10_cuts 74 = .ok (.getfield 69, 3) := by decide +kernel
theorem dX10_cuts_77 : decode cX10_cuts 77 = .ok (.iload_n 3, 1) := by decide +kernel
theorem dX10_cuts_78 : decode cX10_cuts 78 = .ok (.aload_n 0, 1) := by decide +kernel
theorem dX10_cuts_79 : decode cX10_cuts 79 = .ok (.getfield 66, 3) := by decide +kernel
theorem dX10_cuts_82 : decode cX10_cuts 82 = .ok (.iload_n 3, 1) := by decide +kernel
theorem dX10_cuts_83 : decode cX10_cuts 83 = .ok (.iaload, 1) := by decide +kernel
theorem dX10_cuts_84 : decode cX10_cuts 84 = .ok (.iastore, 1) := by decide +kernel
theorem dX10_cuts_85 : decode cX10_cuts 85 = .ok (.iinc 3 1, 3) := by decide +kernel
theorem dX10_cuts_88 : decode cX10_cuts 88 = .ok (.goto (-22), 3) := by decide +kernel
theorem dX10_cuts_91 : decode cX10_cuts 91 = .ok (.iconst 0, 1) := by decide +kernel
theorem dX10_cuts_92 : decode cX10_cuts 92 = .ok (.istore_n 3, 1) := by decide +kernel
theorem dX10_cuts_93 : decode cX10_cuts 93 = .ok (.iload_n 3, 1) := by decide +kernel
theorem dX10_cuts_94 : decode cX10_cuts 94 = .ok (.sipush 1024, 3) := by decide +kernel
theorem dX10_cuts_97 : decode cX10_cuts 97 = .ok (.if_icmp .ge 15, 3) := by decide +kernel
theorem dX10_cuts_100 : decode cX10_cuts 100 = .ok (.aload_n 0, 1) := by decide +kernel
theorem dX10_cuts_101 : decode cX10_cuts 101 = .ok (.iload_n 2, 1) := by decide +kernel
theorem dX10_cuts_102 : decode cX10_cuts 102 = .ok (.iload_n 3, 1) := by decide +kernel
theorem dX10_cuts_103 : decode cX10_cuts 103 = .ok (.invokevirtual 197, 3) := by decide +kernel
theorem dX10_cuts_106 : decode cX10_cuts 106 = .ok (.iinc 3 1, 3) := by decide +kernel
theorem dX10_cuts_109 : decode cX10_cuts 109 = .ok (.goto (-16), 3) := by decide +kernel
theorem dX10_cuts_112 : decode cX10_cuts 112 = .ok (.iconst 0, 1) := by decide +kernel
theorem dX10_cuts_113 : decode cX10_cuts 113 = .ok (.istore_n 3, 1) := by decide +kernel
theorem dX10_cuts_114 : decode cX10_cuts 114 = .ok (.iload_n 3, 1) := by decide +kernel
theorem dX10_cuts_115 : decode cX10_cuts 115 = .ok (.sipush 1280, 3) := by decide +kernel
theorem dX10_cuts_118 : decode cX10_cuts 118 = .ok (.if_icmp .ge 21, 3) := by decide +kernel
theorem dX10_cuts_121 : decode cX10_cuts 121 = .ok (.aload_n 0, 1) := by decide +kernel
theorem dX10_cuts_122 : decode cX10_cuts 122 = .ok (.getfield 66, 3) := by decide +kernel
theorem dX10_cuts_125 : decode cX10_cuts 125 = .ok (.iload_n 3, 1) := by decide +kernel
theorem dX10_cuts_126 : decode cX10_cuts 126 = .ok (.aload_n 0, 1) := by decide +kernel
theorem dX10_cuts_127 : decode cX10_cuts 127 = .ok (.getfield 69, 3) := by decide +kernel
theorem dX10_cuts_130 : decode cX10_cuts 130 = .ok (.iload_n 3, 1) := by decide +kernel
theorem dX10_cuts_131 : decode cX10_cuts 131 = .ok (.iaload, 1) := by decide +kernel
theorem dX10_cuts_132 : decode cX10_cuts 132 = .ok (.iastore, 1) := by decide +kernel
theorem dX10_cuts_133 : decode cX10_cuts 133 = .ok (.iinc 3 1, 3) := by decide +kernel
theorem dX10_cuts_136 : decode cX10_cuts 136 = .ok (.goto (-22), 3) := by decide +kernel
theorem dX10_cuts_139 : decode cX10_cuts 139 = .ok (.iinc 2 1, 3) := by decide +kernel
theorem dX10_cuts_142 : decode cX10_cuts 142 = .ok (.goto (-97), 3) := by decide +kernel
theorem dX10_cuts_145 : decode cX10_cuts 145 = .ok (.sipush 9999, 3) := by decide +kernel
theorem dX10_cuts_148 : decode cX10_cuts 148 = .ok (.istore_n 2, 1) := by decide +kernel
theorem dX10_cuts_149 : decode cX10_cuts 149 = .ok (.iconst 0, 1) := by decide +kernel
theorem dX10_cuts_150 : decode cX10_cuts 150 = .ok (.istore_n 3, 1) := by decide +kernel
theorem dX10_cuts_151 : decode cX10_cuts 151 = .ok (.iload_n 3, 1) := by decide +kernel
theorem dX10_cuts_152 : decode cX10_cuts 152 = .ok (.sipush 256, 3) := by decide +kernel
theorem dX10_cuts_155 : decode cX10_cuts 155 = .ok (.if_icmp .ge 42, 3) := by decide +kernel
theorem dX10_cuts_158 : decode cX10_cuts 158 = .ok (.aload_n 0, 1) := by decide +kernel
theorem dX10_cuts_159 : decode cX10_cuts 159 = .ok (.getfield 66, 3) := by decide +kernel
theorem dX10_cuts_162 : decode cX10_cuts 162 = .ok (.sipush 256, 3) := by decide +kernel
theorem dX10_cuts_165 : decode cX10_cuts 165 = .ok (.iload_n 1, 1) := by decide +kernel
theorem dX10_cuts_166 : decode cX10_cuts 166 = .ok (.imul, 1) := by decide +kernel
theorem dX10_cuts_167 : decode cX10_cuts 167 = .ok (.iload_n 3, 1) := by decide +kernel
theorem dX10_cuts_168 : decode cX10_cuts 168 = .ok (.iadd, 1) := by decide +kernel
theorem dX10_cuts_169 : decode cX10_cuts 169 = .ok (.iaload, 1) := by decide +kernel
theorem dX10_cuts_170 : decode cX10_cuts 170 = .ok (.iload_n 2, 1) := by decide +kernel
theorem dX10_cuts_171 : decode cX10_cuts 171 = .ok (.if_icmp .ge 18, 3) := by decide +kernel
theorem dX10_cuts_174 : decode cX10_cuts 174 = .ok (.aload_n 0, 1) := by decide +kernel
theorem dX10_cuts_175 : decode cX10_cuts 175 = .ok (.getfield 66, 3) := by decide +kernel
theorem dX10_cuts_178 : decode cX10_cuts 178 = .ok (.sipush 256, 3) := by decide +kernel
theorem dX10_cuts_181 : decode cX10_cuts 181 = .ok (.iload_n 1, 1) := by decide +kernel
theorem dX10_cuts_182 : decode cX10_cuts 182 = .ok (.imul, 1) := by decide +kernel
theorem dX10_cuts_183 : decode cX10_cuts 183 = .ok (.iload_n 3, 1) := by decide +kernel
theorem dX10_cuts_184 : decode cX10_cuts 184 = .ok (.iadd, 1) := by decide +kernel
theorem dX10_cuts_185 : decode cX10_cuts 185 = .ok (.iaload, 1) := by decide +kernel
theorem dX10_cuts_186 : decode cX10_cuts 186 = .ok (.goto 4, 3) := by decide +kernel
theorem dX10_cuts_189 : decode cX10_cuts 189 = .ok (.iload_n 2, 1) := by decide +kernel
theorem dX10_cuts_190 : decode cX10_cuts 190 = .ok (.istore_n 2, 1) := by decide +kernel
theorem dX10_cuts_191 : decode cX10_cuts 191 = .ok (.iinc 3 1, 3) := by decide +kernel
theorem dX10_cuts_194 : decode cX10_cuts 194 = .ok (.goto (-43), 3) := by decide +kernel
theorem dX10_cuts_197 : decode cX10_cuts 197 = .ok (.iload_n 2, 1) := by decide +kernel
theorem dX10_cuts_198 : decode cX10_cuts 198 = .ok (.sipush 9999, 3) := by decide +kernel
theorem dX10_cuts_201 : decode cX10_cuts 201 = .ok (.if_icmp .ne 8, 3) := by decide +kernel
theorem dX10_cuts_204 : decode cX10_cuts 204 = .ok (.bipush (-9), 2) := by decide +kernel
theorem dX10_cuts_206 : decode cX10_cuts 206 = .ok (.goto 4, 3) := by decide +kernel
theorem dX10_cuts_209 : decode cX10_cuts 209 = .ok (.iload_n 2, 1) := by decide +kernel
theorem dX10_cuts_210 : decode cX10_cuts 210 = .ok (.ireturn, 1) := by decide +kernel
theorem dX10_cutOne_0 : decode cX10_cutOne 0 = .ok (.iconst 0, 1) := by decide +kernel
theorem dX10_cutOne_1 : decode cX10_cutOne 1 = .ok (.istore_n 3, 1) := by decide +kernel
theorem dX10_cutOne_2 : decode cX10_cutOne 2 = .ok (.iload_n 3, 1) := by decide +kernel
theorem dX10_cutOne_3 : decode cX10_cutOne 3 = .ok (.aload_n 0, 1) := by decide +kernel
theorem dX10_cutOne_4 : decode cX10_cutOne 4 = .ok (.getfield 13, 3) := by decide +kernel
theorem dX10_cutOne_7 : decode cX10_cutOne 7 = .ok (.iconst 0, 1) := by decide +kernel
theorem dX10_cutOne_8 : decode cX10_cutOne 8 = .ok (.iaload, 1) := by decide +kernel
theorem dX10_cutOne_9 : decode cX10_cutOne 9 = .ok (.if_icmp .ge 149, 3) := by decide +kernel
theorem dX10_cutOne_12 : decode cX10_cutOne 12 = .ok (.aload_n 0, 1) := by decide +kernel
theorem dX10_cutOne_13 : decode cX10_cutOne 13 = .ok (.getfield 17, 3) := by decide +kernel
theorem dX10_cutOne_16 : decode cX10_cutOne 16 = .ok (.iload_n 3, 1) := by decide +kernel
theorem dX10_cutOne_17 : decode cX10_cutOne 17 = .ok (.iaload, 1) := by decide +kernel
theorem dX10_cutOne_18 : decode cX10_cutOne 18 = .ok (.iconst 1, 1) := by decide +kernel
theorem dX10_cutOne_19 : decode cX10_cutOne 19 = .ok (.if_icmp .ne 33, 3) := by decide +kernel
theorem dX10_cutOne_22 : decode cX10_cutOne 22 = .ok (.aload_n 0, 1) := by decide +kernel
theorem dX10_cutOne_23 : decode cX10_cutOne 23 = .ok (.getfield 29, 3) := by decide +kernel
theorem dX10_cutOne_26 : decode cX10_cutOne 26 = .ok (.bipush 8, 2) := by decide +kernel
theorem dX10_cutOne_28 : decode cX10_cutOne 28 = .ok (.iload_n 1, 1) := by decide +kernel
