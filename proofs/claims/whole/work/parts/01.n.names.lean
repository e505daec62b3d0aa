theorem dX10_cutOne_29 : decode cX10_cutOne 29 = .ok (.imul, 1) := by decide +kernel
theorem dX10_cutOne_30 : decode cX10_cutOne 30 = .ok (.iload_n 3, 1) := by decide +kernel
theorem dX10_cutOne_31 : decode cX10_cutOne 31 = .ok (.iadd, 1) := by decide +kernel
theorem dX10_cutOne_32 : decode cX10_cutOne 32 = .ok (.baload, 1) := by decide +kernel
theorem dX10_cutOne_33 : decode cX10_cutOne 33 = .ok (.ifCond .ne 19, 3) := by decide +kernel
theorem dX10_cutOne_36 : decode cX10_cutOne 36 = .ok (.iload_n 2, 1) := by decide +kernel
theorem dX10_cutOne_37 : decode cX10_cutOne 37 = .ok (.sipush 256, 3) := by decide +kernel
theorem dX10_cutOne_40 : decode cX10_cutOne 40 = .ok (.irem, 1) := by decide +kernel
theorem dX10_cutOne_41 : decode cX10_cutOne 41 = .ok (.iload_n 3, 1) := by decide +kernel
theorem dX10_cutOne_42 : decode cX10_cutOne 42 = .ok (.ishr, 1) := by decide +kernel
theorem dX10_cutOne_43 : decode cX10_cutOne 43 = .ok (.iconst 1, 1) := by decide +kernel
theorem dX10_cutOne_44 : decode cX10_cutOne 44 = .ok (.iand, 1) := by decide +kernel
theorem dX10_cutOne_45 : decode cX10_cutOne 45 = .ok (.ifCond .ne 7, 3) := by decide +kernel
theorem dX10_cutOne_48 : decode cX10_cutOne 48 = .ok (.iconst 1, 1) := by decide +kernel
theorem dX10_cutOne_49 : decode cX10_cutOne 49 = .ok (.goto 4, 3) := by decide +kernel
theorem dX10_cutOne_52 : decode cX10_cutOne 52 = .ok (.iconst 0, 1) := by decide +kernel
theorem dX10_cutOne_53 : decode cX10_cutOne 53 = .ok (.istore 4, 2) := by decide +kernel
theorem dX10_cutOne_55 : decode cX10_cutOne 55 = .ok (.aload_n 0, 1) := by decide +kernel
theorem dX10_cutOne_56 : decode cX10_cutOne 56 = .ok (.getfield 20, 3) := by decide +kernel
theorem dX10_cutOne_59 : decode cX10_cutOne 59 = .ok (.iload_n 1, 1) := by decide +kernel
theorem dX10_cutOne_60 : decode cX10_cutOne 60 = .ok (.iaload, 1) := by decide +kernel
theorem dX10_cutOne_61 : decode cX10_cutOne 61 = .ok (.aload_n 0, 1) := by decide +kernel
theorem dX10_cutOne_62 : decode cX10_cutOne 62 = .ok (.getfield 20, 3) := by decide +kernel
theorem dX10_cutOne_65 : decode cX10_cutOne 65 = .ok (.iload_n 3, 1) := by decide +kernel
theorem dX10_cutOne_66 : decode cX10_cutOne 66 = .ok (.iaload, 1) := by decide +kernel
theorem dX10_cutOne_67 : decode cX10_cutOne 67 = .ok (.if_icmp .ge 19, 3) := by decide +kernel
theorem dX10_cutOne_70 : decode cX10_cutOne 70 = .ok (.aload_n 0, 1) := by decide +kernel
theorem dX10_cutOne_71 : decode cX10_cutOne 71 = .ok (.getfield 20, 3) := by decide +kernel
theorem dX10_cutOne_74 : decode cX10_cutOne 74 = .ok (.iload_n 3, 1) := by decide +kernel
theorem dX10_cutOne_75 : decode cX10_cutOne 75 = .ok (.iaload, 1) := by decide +kernel
theorem dX10_cutOne_76 : decode cX10_cutOne 76 = .ok (.aload_n 0, 1) := by decide +kernel
theorem dX10_cutOne_77 : decode cX10_cutOne 77 = .ok (.getfield 20, 3) := by decide +kernel
theorem dX10_cutOne_80 : decode cX10_cutOne 80 = .ok (.iload_n 1, 1) := by decide +kernel
theorem dX10_cutOne_81 : decode cX10_cutOne 81 = .ok (.iaload, 1) := by decide +kernel
theorem dX10_cutOne_82 : decode cX10_cutOne 82 = .ok (.isub, 1) := by decide +kernel
theorem dX10_cutOne_83 : decode cX10_cutOne 83 = .ok (.goto 16, 3) := by decide +kernel
theorem dX10_cutOne_86 : decode cX10_cutOne 86 = .ok (.aload_n 0, 1) := by decide +kernel
theorem dX10_cutOne_87 : decode cX10_cutOne 87 = .ok (.getfield 20, 3) := by decide +kernel
theorem dX10_cutOne_90 : decode cX10_cutOne 90 = .ok (.iload_n 1, 1) := by decide +kernel
theorem dX10_cutOne_91 : decode cX10_cutOne 91 = .ok (.iaload, 1) := by decide +kernel
theorem dX10_cutOne_92 : decode cX10_cutOne 92 = .ok (.aload_n 0, 1) := by decide +kernel
theorem dX10_cutOne_93 : decode cX10_cutOne 93 = .ok (.getfield 20, 3) := by decide +kernel
theorem dX10_cutOne_96 : decode cX10_cutOne 96 = .ok (.iload_n 3, 1) := by decide +kernel
theorem dX10_cutOne_97 : decode cX10_cutOne 97 = .ok (.iaload, 1) := by decide +kernel
theorem dX10_cutOne_98 : decode cX10_cutOne 98 = .ok (.isub, 1) := by decide +kernel
theorem dX10_cutOne_99 : decode cX10_cutOne 99 = .ok (.istore 5, 2) := by decide +kernel
theorem dX10_cutOne_101 : decode cX10_cutOne 101 = .ok (.iload_n 2, 1) := by decide +kernel
theorem dX10_cutOne_102 : decode cX10_cutOne 102 = .ok (.sipush 256, 3) := by decide +kernel
theorem dX10_cutOne_105 : decode cX10_cutOne 105 = .ok (.iadd, 1) := by decide +kernel
theorem dX10_cutOne_106 : decode cX10_cutOne 106 = .ok (.iconst 1, 1) := by decide +kernel
theorem dX10_cutOne_107 : decode cX10_cutOne 107 = .ok (.iload_n 3, 1) := by decide +kernel
theorem dX10_cutOne_108 : decode cX10_cutOne 108 = .ok (.ishl, 1) := by decide +kernel
theorem dX10_cutOne_109 : decode cX10_cutOne 109 = .ok (.iadd, 1) := by decide +kernel
theorem dX10_cutOne_110 : decode cX10_cutOne 110 = .ok (.istore 6, 2) := by decide +kernel
theorem dX10_cutOne_112 : decode cX10_cutOne 112 = .ok (.iload 4, 2) := by decide +kernel
theorem dX10_cutOne_114 : decode cX10_cutOne 114 = .ok (.ifCond .eq 38, 3) := by decide +kernel
theorem dX10_cutOne_117 : decode cX10_cutOne 117 = .ok (.aload_n 0, 1) := by decide +kernel
theorem dX10_cutOne_118 : decode cX10_cutOne 118 = .ok (.getfield 66, 3) := by decide +kernel
theorem dX10_cutOne_121 : decode cX10_cutOne 121 = .ok (.iload_n 2, 1) := by decide +kernel
theorem dX10_cutOne_122 : decode cX10_cutOne 122 = .ok (.iaload, 1) := by decide +kernel
theorem dX10_cutOne_123 : decode cX10_cutOne 123 = .ok (.iload 5, 2) := by decide +kernel
theorem dX10_cutOne_125 : decode cX10_cutOne 125 = .ok (.iadd, 1) := by decide +kernel
theorem dX10_cutOne_126 : decode cX10_cutOne 126 = .ok (.aload_n 0, 1) := by decide +kernel
theorem dX10_cutOne_127 : decode cX10_cutOne 127 = .ok (.getfield 69, 3) := by decide +kernel
theorem dX10_cutOne_130 : decode cX10_cutOne 130 = .ok (.iload 6, 2) := by decide +kernel
theorem dX10_cutOne_132 : decode cX10_cutOne 132 = .ok (.iaload, 1) := by decide +kernel
theorem dX10_cutOne_133 : decode cX10_cutOne 133 = .ok (.if_icmp .ge 19, 3) := by decide +kernel
theorem dX10_cutOne_136 : decode cX10_cutOne 136 = .ok (.aload_n 0, 1) := by decide +kernel
theorem dX10_cutOne_137 : decode cX10_cutOne 137 = .ok (.getfield 69, 3) := by decide +kernel
theorem dX10_cutOne_140 : decode cX10_cutOne 140 = .ok (.iload 6, 2) := by decide +kernel
theorem dX10_cutOne_142 : decode cX10_cutOne 142 = .ok (.aload_n 0, 1) := by decide +kernel
theorem dX10_cutOne_143 : decode cX10_cutOne 143 = .ok (.getfield 66, 3) := by decide +kernel
theorem dX10_cutOne_146 : decode cX10_cutOne 146 = .ok (.iload_n 2, 1) := by decide +kernel
theorem dX10_cutOne_147 : decode cX10_cutOne 147 = .ok (.iaload, 1) := by decide +kernel
theorem dX10_cutOne_148 : decode cX10_cutOne 148 = .ok (.iload 5, 2) := by decide +kernel
theorem dX10_cutOne_150 : decode cX10_cutOne 150 = .ok (.iadd, 1) := by decide +kernel
theorem dX10_cutOne_151 : decode cX10_cutOne 151 = .ok (.iastore, 1) := by decide +kernel
theorem dX10_cutOne_152 : decode cX10_cutOne 152 = .ok (.iinc 3 1, 3) := by decide +kernel
theorem dX10_cutOne_155 : decode cX10_cutOne 155 = .ok (.goto (-153), 3) := by decide +kernel
theorem dX10_cutOne_158 : decode cX10_cutOne 158 = .ok (.return_, 1) := by decide +kernel
set_option maxRecDepth 20000 in
theorem ggX10_whose_X10_in : GoodIn wsX10_whose wsX10_in := goodIn_r _ [7] (by decide +kernel) (by decide +kernel)
set_option maxRecDepth 20000 in
theorem gX10_whose_X10_in : GoodIn wsX10_whose (va_wsS RX10 72 yX10_in wsX10_in) := goodIn_app (goodIn_of _ (by decide +kernel)) ggX10_whose_X10_in
set_option maxRecDepth 20000 in
theorem ggX10_whose_X10_fits : GoodIn wsX10_whose wsX10_fits := goodIn_r _ [11, 2, 3, 12, 18, 19, 20, 21, 22, 23, 24, 25, 26, 27, 28, 29, 30, 31, 32, 33, 34, 35, 36, 37, 38, 39, 40, 41, 42, 43, 44] (by decide +kernel) (by decide +kernel)
set_option maxRecDepth 20000 in
theorem gX10_whose_X10_fits : GoodIn wsX10_whose (wsV RX10 129 RX10 yX10_fits wsX10_fits) := goodIn_app (goodIn_of _ (by decide +kernel)) ggX10_whose_X10_fits
set_option maxRecDepth 20000 in
theorem ggX10_whose_X10_ladder : GoodIn wsX10_whose wsX10_ladder := goodIn_r _ [16, 17, 18, 19, 20, 21, 22, 23, 24, 25, 26, 27, 28, 29, 30, 31, 32, 33, 34, 35, 36, 37, 38, 39, 40, 41, 42, 43, 44] (by decide +kernel) (by decide +kernel)
set_option maxRecDepth 20000 in
theorem gX10_whose_X10_ladder : GoodIn wsX10_whose (wsV RX10 133 RX10 yX10_ladder wsX10_ladder) := goodIn_app (goodIn_of _ (by decide +kernel)) ggX10_whose_X10_ladder
theorem dX10_whose_0 : decode cX10_whose 0 = .ok (.iload_n 1, 1) := by decide +kernel
theorem dX10_whose_1 : decode cX10_whose 1 = .ok (.iconst 1, 1) := by decide +kernel
theorem dX10_whose_2 : decode cX10_whose 2 = .ok (.bipush 9, 2) := by decide +kernel
theorem dX10_whose_4 : decode cX10_whose 4 = .ok (.invokestatic 72, 3) := by decide +kernel
theorem dX10_whose_7 : decode cX10_whose 7 = .ok (.ifCond .eq 22, 3) := by decide +kernel
theorem dX10_whose_10 : decode cX10_whose 10 = .ok (.iload_n 2, 1) := by decide +kernel
theorem dX10_whose_11 : decode cX10_whose 11 = .ok (.iconst 1, 1) := by decide +kernel
theorem dX10_whose_12 : decode cX10_whose 12 = .ok (.bipush 9, 2) := by decide +kernel
theorem dX10_whose_14 : decode cX10_whose 14 = .ok (.invokestatic 72, 3) := by decide +kernel
theorem dX10_whose_17 : decode cX10_whose 17 = .ok (.ifCond .eq 12, 3) := by decide +kernel
theorem dX10_whose_20 : decode cX10_whose 20 = .ok (.iload_n 3, 1) := by decide +kernel
theorem dX10_whose_21 : decode cX10_whose 21 = .ok (.iconst 0, 1) := by decide +kernel
theorem dX10_whose_22 : decode cX10_whose 22 = .ok (.iconst 1, 1) := by decide +kernel
theorem dX10_whose_23 : decode cX10_whose 23 = .ok (.invokestatic 72, 3) := by decide +kernel
theorem dX10_whose_26 : decode cX10_whose 26 = .ok (.ifCond .ne 5, 3) := by decide +kernel
theorem dX10_whose_29 : decode cX10_whose 29 = .ok (.iconst (-1), 1) := by decide +kernel
theorem dX10_whose_30 : decode cX10_whose 30 = .ok (.ireturn, 1) := by decide +kernel
theorem dX10_whose_31 : decode cX10_whose 31 = .ok (.iconst 0, 1) := by decide +kernel
theorem dX10_whose_32 : decode cX10_whose 32 = .ok (.istore 4, 2) := by decide +kernel
theorem dX10_whose_34 : decode cX10_whose 34 = .ok (.bipush (-9), 2) := by decide +kernel
theorem dX10_whose_36 : decode cX10_whose 36 = .ok (.istore 5, 2) := by decide +kernel
theorem dX10_whose_38 : decode cX10_whose 38 = .ok (.iconst 0, 1) := by decide +kernel
theorem dX10_whose_39 : decode cX10_whose 39 = .ok (.istore 6, 2) := by decide +kernel
theorem dX10_whose_41 : decode cX10_whose 41 = .ok (.iload 6, 2) := by decide +kernel
theorem dX10_whose_43 : decode cX10_whose 43 = .ok (.aload_n 0, 1) := by decide +kernel
theorem dX10_whose_44 : decode cX10_whose 44 = .ok (.getfield 13, 3) := by decide +kernel
theorem dX10_whose_47 : decode cX10_whose 47 = .ok (.iconst 0, 1) := by decide +kernel
theorem dX10_whose_48 : decode cX10_whose 48 = .ok (.iaload, 1) := by decide +kernel
theorem dX10_whose_49 : decode cX10_whose 49 = .ok (.if_icmp .ge 107, 3) := by decide +kernel
theorem dX10_whose_52 : decode cX10_whose 52 = .ok (.iconst 0, 1) := by decide +kernel
theorem dX10_whose_53 : decode cX10_whose 53 = .ok (.istore 7, 2) := by decide +kernel
theorem dX10_whose_55 : decode cX10_whose 55 = .ok (.iload 7, 2) := by decide +kernel
theorem dX10_whose_57 : decode cX10_whose 57 = .ok (.aload_n 0, 1) := by decide +kernel
theorem dX10_whose_58 : decode cX10_whose 58 = .ok (.getfield 13, 3) := by decide +kernel
theorem dX10_whose_61 : decode cX10_whose 61 = .ok (.iconst 0, 1) := by decide +kernel
theorem dX10_whose_62 : decode cX10_whose 62 = .ok (.iaload, 1) := by decide +kernel
theorem dX10_whose_63 : decode cX10_whose 63 = .ok (.if_icmp .ge 87, 3) := by decide +kernel
theorem dX10_whose_66 : decode cX10_whose 66 = .ok (.aload_n 0, 1) := by decide +kernel
theorem dX10_whose_67 : decode cX10_whose 67 = .ok (.getfield 17, 3) := by decide +kernel
theorem dX10_whose_70 : decode cX10_whose 70 = .ok (.iload 6, 2) := by decide +kernel
theorem dX10_whose_72 : decode cX10_whose 72 = .ok (.iaload, 1) := by decide +kernel
theorem dX10_whose_73 : decode cX10_whose 73 = .ok (.ifCond .ne 71, 3) := by decide +kernel
theorem dX10_whose_76 : decode cX10_whose 76 = .ok (.aload_n 0, 1) := by decide +kernel
theorem dX10_whose_77 : decode cX10_whose 77 = .ok (.getfield 17, 3) := by decide +kernel
theorem dX10_whose_80 : decode cX10_whose 80 = .ok (.iload 7, 2) := by decide +kernel
theorem dX10_whose_82 : decode cX10_whose 82 = .ok (.iaload, 1) := by decide +kernel
theorem dX10_whose_83 : decode cX10_whose 83 = .ok (.iconst 1, 1) := by decide +kernel
theorem dX10_whose_84 : decode cX10_whose 84 = .ok (.if_icmp .ne 60, 3) := by decide +kernel
theorem dX10_whose_87 : decode cX10_whose 87 = .ok (.aload_n 0, 1) := by decide +kernel
theorem dX10_whose_88 : decode cX10_whose 88 = .ok (.iload 6, 2) := by decide +kernel
theorem dX10_whose_90 : decode cX10_whose 90 = .ok (.iload 7, 2) := by decide +kernel
theorem dX10_whose_92 : decode cX10_whose 92 = .ok (.invokevirtual 129, 3) := by decide +kernel
theorem dX10_whose_95 : decode cX10_whose 95 = .ok (.ifCond .eq 49, 3) := by decide +kernel
theorem dX10_whose_98 : decode cX10_whose 98 = .ok (.aload_n 0, 1) := by decide +kernel
theorem dX10_whose_99 : decode cX10_whose 99 = .ok (.getfield 20, 3) := by decide +kernel
theorem dX10_whose_102 : decode cX10_whose 102 = .ok (.iload 6, 2) := by decide +kernel
theorem dX10_whose_104 : decode cX10_whose 104 = .ok (.iaload, 1) := by decide +kernel
theorem dX10_whose_105 : decode cX10_whose 105 = .ok (.iload_n 1, 1) := by decide +kernel
theorem dX10_whose_106 : decode cX10_whose 106 = .ok (.if_icmp .ne 38, 3) := by decide +kernel
theorem dX10_whose_109 : decode cX10_whose 109 = .ok (.aload_n 0, 1) := by decide +kernel
theorem dX10_whose_110 : decode cX10_whose 110 = .ok (.iload 6, 2) := by decide +kernel
theorem dX10_whose_112 : decode cX10_whose 112 = .ok (.iload 7, 2) := by decide +kernel
theorem dX10_whose_114 : decode cX10_whose 114 = .ok (.invokevirtual 133, 3) := by decide +kernel
theorem dX10_whose_117 : decode cX10_whose 117 = .ok (.iload_n 2, 1) := by decide +kernel
theorem dX10_whose_118 : decode cX10_whose 118 = .ok (.if_icmp .lt 26, 3) := by decide +kernel
theorem dX10_whose_121 : decode cX10_whose 121 = .ok (.iload 4, 2) := by decide +kernel
theorem dX10_whose_123 : decode cX10_whose 123 = .ok (.ifCond .ne 14, 3) := by decide +kernel
theorem dX10_whose_126 : decode cX10_whose 126 = .ok (.bipush 10, 2) := by decide +kernel
theorem dX10_whose_128 : decode cX10_whose 128 = .ok (.iload 6, 2) := by decide +kernel
theorem dX10_whose_130 : decode cX10_whose 130 = .ok (.imul, 1) := by decide +kernel
theorem dX10_whose_131 : decode cX10_whose 131 = .ok (.iload 7, 2) := by decide +kernel
theorem dX10_whose_133 : decode cX10_whose 133 = .ok (.iadd, 1) := by decide +kernel
theorem dX10_whose_134 : decode cX10_whose 134 = .ok (.goto 5, 3) := by decide +kernel
theorem dX10_whose_137 : decode cX10_whose 137 = .ok (.iload 5, 2) := by decide +kernel
theorem dX10_whose_139 : decode cX10_whose 139 = .ok (.istore 5, 2) := by decide +kernel
theorem dX10_whose_141 : decode cX10_whose 141 = .ok (.iinc 4 1, 3) := by decide +kernel
theorem dX10_whose_144 : decode cX10_whose 144 = .ok (.iinc 7 1, 3) := by decide +kernel
theorem dX10_whose_147 : decode cX10_whose 147 = .ok (.goto (-92), 3) := by decide +kernel
theorem dX10_whose_150 : decode cX10_whose 150 = .ok (.iinc 6 1, 3) := by decide +kernel
theorem dX10_whose_153 : decode cX10_whose 153 = .ok (.goto (-112), 3) := by decide +kernel
theorem dX10_whose_156 : decode cX10_whose 156 = .ok (.iload_n 3, 1) := by decide +kernel
theorem dX10_whose_157 : decode cX10_whose 157 = .ok (.ifCond .ne 8, 3) := by decide +kernel
theorem dX10_whose_160 : decode cX10_whose 160 = .ok (.iload 4, 2) := by decide +kernel
theorem dX10_whose_162 : decode cX10_whose 162 = .ok (.goto 5, 3) := by decide +kernel
theorem dX10_whose_165 : decode cX10_whose 165 = .ok (.iload 5, 2) := by decide +kernel
theorem dX10_whose_167 : decode cX10_whose 167 = .ok (.ireturn, 1) := by decide +kernel
set_option maxRecDepth 20000 in
theorem ggX10_mark_X10_in : GoodIn wsX10_mark wsX10_in := goodIn_r _ [16] (by decide +kernel) (by decide +kernel)
set_option maxRecDepth 20000 in
theorem gX10_mark_X10_in : GoodIn wsX10_mark (va_wsS RX10 72 yX10_in wsX10_in) := goodIn_app (goodIn_of _ (by decide +kernel)) ggX10_mark_X10_in
set_option maxRecDepth 20000 in
theorem ggX10_mark_X10_isOne : GoodIn wsX10_mark wsX10_isOne := goodIn_r _ [20, 2, 13, 14, 15, 16, 27, 28, 29, 30, 31, 32, 33, 34, 35, 36, 37, 38, 39, 40, 41, 42, 43, 44, 45, 46, 47, 48, 49, 50, 51, 52, 53] (by decide +kernel) (by decide +kernel)
set_option maxRecDepth 20000 in
theorem gX10_mark_X10_isOne : GoodIn wsX10_mark (wsV RX10 122 RX10 yX10_isOne wsX10_isOne) := goodIn_app (goodIn_of _ (by decide +kernel)) ggX10_mark_X10_isOne
set_option maxRecDepth 20000 in
theorem ggX10_mark_X10_fits : GoodIn wsX10_mark wsX10_fits := goodIn_r _ [24, 25, 6, 26, 27, 28, 29, 30, 31, 32, 33, 34, 35, 36, 37, 38, 39, 40, 41, 42, 43, 44, 45, 46, 47, 48, 49, 50, 51, 52, 53] (by decide +kernel) (by decide +kernel)
set_option maxRecDepth 20000 in
theorem gX10_mark_X10_fits : GoodIn wsX10_mark (wsV RX10 129 RX10 yX10_fits wsX10_fits) := goodIn_app (goodIn_of _ (by decide +kernel)) ggX10_mark_X10_fits
theorem dX10_mark_0 : decode cX10_mark 0 = .ok (.iload_n 1, 1) := by decide +kernel
theorem dX10_mark_1 : decode cX10_mark 1 = .ok (.iconst 0, 1) := by decide +kernel
theorem dX10_mark_2 : decode cX10_mark 2 = .ok (.iconst 5, 1) := by decide +kernel
theorem dX10_mark_3 : decode cX10_mark 3 = .ok (.invokestatic 72, 3) := by decide +kernel
theorem dX10_mark_6 : decode cX10_mark 6 = .ok (.ifCond .eq 11, 3) := by decide +kernel
theorem dX10_mark_9 : decode cX10_mark 9 = .ok (.aload_n 0, 1) := by decide +kernel
theorem dX10_mark_10 : decode cX10_mark 10 = .ok (.iload_n 2, 1) := by decide +kernel
theorem dX10_mark_11 : decode cX10_mark 11 = .ok (.invokevirtual 122, 3) := by decide +kernel
theorem dX10_mark_14 : decode cX10_mark 14 = .ok (.ifCond .ne 6, 3) := by decide +kernel
theorem dX10_mark_17 : decode cX10_mark 17 = .ok (.ldc 200, 2) := by decide +kernel
theorem dX10_mark_19 : decode cX10_mark 19 = .ok (.ireturn, 1) := by decide +kernel
theorem dX10_mark_20 : decode cX10_mark 20 = .ok (.iconst 0, 1) := by decide +kernel
theorem dX10_mark_21 : decode cX10_mark 21 = .ok (.istore_n 3, 1) := by decide +kernel
theorem dX10_mark_22 : decode cX10_mark 22 = .ok (.iconst 0, 1) := by decide +kernel
theorem dX10_mark_23 : decode cX10_mark 23 = .ok (.istore 4, 2) := by decide +kernel
theorem dX10_mark_25 : decode cX10_mark 25 = .ok (.iload 4, 2) := by decide +kernel
theorem dX10_mark_27 : decode cX10_mark 27 = .ok (.aload_n 0, 1) := by decide +kernel
theorem dX10_mark_28 : decode cX10_mark 28 = .ok (.getfield 13, 3) := by decide +kernel
theorem dX10_mark_31 : decode cX10_mark 31 = .ok (.iconst 0, 1) := by decide +kernel
theorem dX10_mark_32 : decode cX10_mark 32 = .ok (.iaload, 1) := by decide +kernel
theorem dX10_mark_33 : decode cX10_mark 33 = .ok (.if_icmp .ge 33, 3) := by decide +kernel
theorem dX10_mark_36 : decode cX10_mark 36 = .ok (.iload_n 3, 1) := by decide +kernel
theorem dX10_mark_37 : decode cX10_mark 37 = .ok (.iload 4, 2) := by decide +kernel
theorem dX10_mark_39 : decode cX10_mark 39 = .ok (.iload_n 2, 1) := by decide +kernel
theorem dX10_mark_40 : decode cX10_mark 40 = .ok (.if_icmp .eq 17, 3) := by decide +kernel
theorem dX10_mark_43 : decode cX10_mark 43 = .ok (.aload_n 0, 1) := by decide +kernel
theorem dX10_mark_44 : decode cX10_mark 44 = .ok (.iload_n 2, 1) := by decide +kernel
theorem dX10_mark_45 : decode cX10_mark 45 = .ok (.iload 4, 2) := by decide +kernel
theorem dX10_mark_47 : decode cX10_mark 47 = .ok (.invokevirtual 129, 3) := by decide +kernel
theorem dX10_mark_50 : decode cX10_mark 50 = .ok (.ifCond .eq 7, 3) := by decide +kernel
theorem dX10_mark_53 : decode cX10_mark 53 = .ok (.iconst 1, 1) := by decide +kernel
theorem dX10_mark_54 : decode cX10_mark 54 = .ok (.goto 4, 3) := by decide +kernel
theorem dX10_mark_57 : decode cX10_mark 57 = .ok (.iconst 0, 1) := by decide +kernel
theorem dX10_mark_58 : decode cX10_mark 58 = .ok (.iadd, 1) := by decide +kernel
theorem dX10_mark_59 : decode cX10_mark 59 = .ok (.istore_n 3, 1) := by decide +kernel
theorem dX10_mark_60 : decode cX10_mark 60 = .ok (.iinc 4 1, 3) := by decide +kernel
theorem dX10_mark_63 : decode cX10_mark 63 = .ok (.goto (-38), 3) := by decide +kernel
theorem dX10_mark_66 : decode cX10_mark 66 = .ok (.iload_n 1, 1) := by decide +kernel
theorem dX10_mark_67 : decode cX10_mark 67 = .ok (.tableswitch 153 0 4 #[33, 50, 76, 97, 130], 33) := by decide +kernel
theorem dX10_mark_100 : decode cX10_mark 100 = .ok (.aload_n 0, 1) := by decide +kernel
theorem dX10_mark_101 : decode cX10_mark 101 = .ok (.dup, 1) := by decide +kernel
theorem dX10_mark_102 : decode cX10_mark 102 = .ok (.getfield 201, 3) := by decide +kernel
theorem dX10_mark_105 : decode cX10_mark 105 = .ok (.lconst 1, 1) := by decide +kernel
theorem dX10_mark_106 : decode cX10_mark 106 = .ok (.ladd, 1) := by decide +kernel
theorem dX10_mark_107 : decode cX10_mark 107 = .ok (.putfield 201, 3) := by decide +kernel
theorem dX10_mark_110 : decode cX10_mark 110 = .ok (.aload_n 0, 1) := by decide +kernel
theorem dX10_mark_111 : decode cX10_mark 111 = .ok (.getfield 23, 3) := by decide +kernel
theorem dX10_mark_114 : decode cX10_mark 114 = .ok (.iload_n 2, 1) := by decide +kernel
theorem dX10_mark_115 : decode cX10_mark 115 = .ok (.iaload, 1) := by decide +kernel
theorem dX10_mark_116 : decode cX10_mark 116 = .ok (.ireturn, 1) := by decide +kernel
theorem dX10_mark_117 : decode cX10_mark 117 = .ok (.aload_n 0, 1) := by decide +kernel
theorem dX10_mark_118 : decode cX10_mark 118 = .ok (.dup, 1) := by decide +kernel
theorem dX10_mark_119 : decode cX10_mark 119 = .ok (.getfield 201, 3) := by decide +kernel
theorem dX10_mark_122 : decode cX10_mark 122 = .ok (.ldc2_w 205, 3) := by decide +kernel
theorem dX10_mark_125 : decode cX10_mark 125 = .ok (.ladd, 1) := by decide +kernel
theorem dX10_mark_126 : decode cX10_mark 126 = .ok (.putfield 201, 3) := by decide +kernel
theorem dX10_mark_129 : decode cX10_mark 129 = .ok (.aload_n 0, 1) := by decide +kernel
theorem dX10_mark_130 : decode cX10_mark 130 = .ok (.getfield 23, 3) := by decide +kernel
theorem dX10_mark_133 : decode cX10_mark 133 = .ok (.iload_n 2, 1) := by decide +kernel
theorem dX10_mark_134 : decode cX10_mark 134 = .ok (.iaload, 1) := by decide +kernel
theorem dX10_mark_135 : decode cX10_mark 135 = .ok (.aload_n 0, 1) := by decide +kernel
theorem dX10_mark_136 : decode cX10_mark 136 = .ok (.getfield 20, 3) := by decide +kernel
theorem dX10_mark_139 : decode cX10_mark 139 = .ok (.iload_n 2, 1) := by decide +kernel
theorem dX10_mark_140 : decode cX10_mark 140 = .ok (.iaload, 1) := by decide +kernel
theorem dX10_mark_141 : decode cX10_mark 141 = .ok (.isub, 1) := by decide +kernel
theorem dX10_mark_142 : decode cX10_mark 142 = .ok (.ireturn, 1) := by decide +kernel
theorem dX10_mark_143 : decode cX10_mark 143 = .ok (.aload_n 0, 1) := by decide +kernel
theorem dX10_mark_144 : decode cX10_mark 144 = .ok (.dup, 1) := by decide +kernel
theorem dX10_mark_145 : decode cX10_mark 145 = .ok (.getfield 201, 3) := by decide +kernel
theorem dX10_mark_148 : decode cX10_mark 148 = .ok (.ldc2_w 207, 3) := by decide +kernel
theorem dX10_mark_151 : decode cX10_mark 151 = .ok (.ladd, 1) := by decide +kernel
theorem dX10_mark_152 : decode cX10_mark 152 = .ok (.putfield 201, 3) := by decide +kernel
theorem dX10_mark_155 : decode cX10_mark 155 = .ok (.iconst 2, 1) := by decide +kernel
theorem dX10_mark_156 : decode cX10_mark 156 = .ok (.aload_n 0, 1) := by decide +kernel
theorem dX10_mark_157 : decode cX10_mark 157 = .ok (.getfield 23, 3) := by decide +kernel
theorem dX10_mark_160 : decode cX10_mark 160 = .ok (.iload_n 2, 1) := by decide +kernel
theorem dX10_mark_161 : decode cX10_mark 161 = .ok (.iaload, 1) := by decide +kernel
theorem dX10_mark_162 : decode cX10_mark 162 = .ok (.imul, 1) := by decide +kernel
theorem dX10_mark_163 : decode cX10_mark 163 = .ok (.ireturn, 1) := by decide +kernel
theorem dX10_mark_164 : decode cX10_mark 164 = .ok (.aload_n 0, 1) := by decide +kernel
theorem dX10_mark_165 : decode cX10_mark 165 = .ok (.dup, 1) := by decide +kernel
theorem dX10_mark_166 : decode cX10_mark 166 = .ok (.getfield 201, 3) := by decide +kernel
theorem dX10_mark_169 : decode cX10_mark 169 = .ok (.ldc2_w 209, 3) := by decide +kernel
theorem dX10_mark_172 : decode cX10_mark 172 = .ok (.ladd, 1) := by decide +kernel
theorem dX10_mark_173 : decode cX10_mark 173 = .ok (.putfield 201, 3) := by decide +kernel
theorem dX10_mark_176 : decode cX10_mark 176 = .ok (.aload_n 0, 1) := by decide +kernel
theorem dX10_mark_177 : decode cX10_mark 177 = .ok (.getfield 23, 3) := by decide +kernel
theorem dX10_mark_180 : decode cX10_mark 180 = .ok (.iload_n 2, 1) := by decide +kernel
theorem dX10_mark_181 : decode cX10_mark 181 = .ok (.iaload, 1) := by decide +kernel
theorem dX10_mark_182 : decode cX10_mark 182 = .ok (.aload_n 0, 1) := by decide +kernel
theorem dX10_mark_183 : decode cX10_mark 183 = .ok (.getfield 20, 3) := by decide +kernel
theorem dX10_mark_186 : decode cX10_mark 186 = .ok (.iload_n 2, 1) := by decide +kernel
theorem dX10_mark_187 : decode cX10_mark 187 = .ok (.iaload, 1) := by decide +kernel
theorem dX10_mark_188 : decode cX10_mark 188 = .ok (.isub, 1) := by decide +kernel
theorem dX10_mark_189 : decode cX10_mark 189 = .ok (.aload_n 0, 1) := by decide +kernel
theorem dX10_mark_190 : decode cX10_mark 190 = .ok (.getfield 26, 3) := by decide +kernel
theorem dX10_mark_193 : decode cX10_mark 193 = .ok (.iload_n 2, 1) := by decide +kernel
theorem dX10_mark_194 : decode cX10_mark 194 = .ok (.iaload, 1) := by decide +kernel
theorem dX10_mark_195 : decode cX10_mark 195 = .ok (.iadd, 1) := by decide +kernel
theorem dX10_mark_196 : decode cX10_mark 196 = .ok (.ireturn, 1) := by decide +kernel
theorem dX10_mark_197 : decode cX10_mark 197 = .ok (.aload_n 0, 1) := by decide +kernel
theorem dX10_mark_198 : decode cX10_mark 198 = .ok (.dup, 1) := by decide +kernel
theorem dX10_mark_199 : decode cX10_mark 199 = .ok (.getfield 201, 3) := by decide +kernel
theorem dX10_mark_202 : decode cX10_mark 202 = .ok (.ldc2_w 211, 3) := by decide +kernel
theorem dX10_mark_205 : decode cX10_mark 205 = .ok (.ladd, 1) := by decide +kernel
theorem dX10_mark_206 : decode cX10_mark 206 = .ok (.putfield 201, 3) := by decide +kernel
theorem dX10_mark_209 : decode cX10_mark 209 = .ok (.iconst 2, 1) := by decide +kernel
theorem dX10_mark_210 : decode cX10_mark 210 = .ok (.aload_n 0, 1) := by decide +kernel
theorem dX10_mark_211 : decode cX10_mark 211 = .ok (.getfield 23, 3) := by decide +kernel
theorem dX10_mark_214 : decode cX10_mark 214 = .ok (.iload_n 2, 1) := by decide +kernel
theorem dX10_mark_215 : decode cX10_mark 215 = .ok (.iaload, 1) := by decide +kernel
theorem dX10_mark_216 : decode cX10_mark 216 = .ok (.imul, 1) := by decide +kernel
theorem dX10_mark_217 : decode cX10_mark 217 = .ok (.iload_n 3, 1) := by decide +kernel
theorem dX10_mark_218 : decode cX10_mark 218 = .ok (.iadd, 1) := by decide +kernel
theorem dX10_mark_219 : decode cX10_mark 219 = .ok (.ireturn, 1) := by decide +kernel
theorem dX10_mark_220 : decode cX10_mark 220 = .ok (.aload_n 0, 1) := by decide +kernel
theorem dX10_mark_221 : decode cX10_mark 221 = .ok (.dup, 1) := by decide +kernel
theorem dX10_mark_222 : decode cX10_mark 222 = .ok (.getfield 201, 3) := by decide +kernel
theorem dX10_mark_225 : decode cX10_mark 225 = .ok (.ldc2_w 213, 3) := by decide +kernel
theorem dX10_mark_228 : decode cX10_mark 228 = .ok (.ladd, 1) := by decide +kernel
theorem dX10_mark_229 : decode cX10_mark 229 = .ok (.putfield 201, 3) := by decide +kernel
theorem dX10_mark_232 : decode cX10_mark 232 = .ok (.aload_n 0, 1) := by decide +kernel
theorem dX10_mark_233 : decode cX10_mark 233 = .ok (.getfield 23, 3) := by decide +kernel
theorem dX10_mark_236 : decode cX10_mark 236 = .ok (.iload_n 2, 1) := by decide +kernel
theorem dX10_mark_237 : decode cX10_mark 237 = .ok (.iaload, 1) := by decide +kernel
theorem dX10_mark_238 : decode cX10_mark 238 = .ok (.aload_n 0, 1) := by decide +kernel
theorem dX10_mark_239 : decode cX10_mark 239 = .ok (.getfield 45, 3) := by decide +kernel
theorem dX10_mark_242 : decode cX10_mark 242 = .ok (.iconst 0, 1) := by decide +kernel
theorem dX10_mark_243 : decode cX10_mark 243 = .ok (.iaload, 1) := by decide +kernel
theorem dX10_mark_244 : decode cX10_mark 244 = .ok (.iadd, 1) := by decide +kernel
theorem dX10_mark_245 : decode cX10_mark 245 = .ok (.ireturn, 1) := by decide +kernel
set_option maxRecDepth 20000 in
theorem ggX10_keep_X10_in : GoodIn wsX10_keep wsX10_in := goodIn_r _ [6] (by decide +kernel) (by decide +kernel)
set_option maxRecDepth 20000 in
theorem gX10_keep_X10_in : GoodIn wsX10_keep (va_wsS RX10 72 yX10_in wsX10_in) := goodIn_app (goodIn_of _ (by decide +kernel)) ggX10_keep_X10_in
set_option maxRecDepth 20000 in
theorem ggX10_keep_X10_copy : GoodIn wsX10_keep wsX10_copy := goodIn_r _ [10, 2, 11, 12, 13, 14, 15, 16, 17, 18, 19, 20, 21, 22, 23, 24, 25, 26, 27, 28, 29, 30, 31, 32, 33, 34, 35, 36, 37] (by decide +kernel) (by decide +kernel)
set_option maxRecDepth 20000 in
theorem gX10_keep_X10_copy : GoodIn wsX10_keep (wsV RX10 162 RX10 yX10_copy wsX10_copy) := goodIn_app (goodIn_of _ (by decide +kernel)) ggX10_keep_X10_copy
theorem dX10_keep_0 : decode cX10_keep 0 = .ok (.iload_n 1, 1) := by decide +kernel
theorem dX10_keep_1 : decode cX10_keep 1 = .ok (.iconst 0, 1) := by decide +kernel
theorem dX10_keep_2 : decode cX10_keep 2 = .ok (.iconst 1, 1) := by decide +kernel
theorem dX10_keep_3 : decode cX10_keep 3 = .ok (.invokestatic 72, 3) := by decide +kernel
theorem dX10_keep_6 : decode cX10_keep 6 = .ok (.ifCond .ne 5, 3) := by decide +kernel
theorem dX10_keep_9 : decode cX10_keep 9 = .ok (.iconst (-1), 1) := by decide +kernel
theorem dX10_keep_10 : decode cX10_keep 10 = .ok (.ireturn, 1) := by decide +kernel
theorem dX10_keep_11 : decode cX10_keep 11 = .ok (.aload_n 0, 1) := by decide +kernel
theorem dX10_keep_12 : decode cX10_keep 12 = .ok (.iconst 0, 1) := by decide +kernel
theorem dX10_keep_13 : decode cX10_keep 13 = .ok (.bipush 12, 2) := by decide +kernel
theorem dX10_keep_15 : decode cX10_keep 15 = .ok (.iconst 2, 1) := by decide +kernel
theorem dX10_keep_16 : decode cX10_keep 16 = .ok (.iload_n 1, 1) := by decide +kernel
theorem dX10_keep_17 : decode cX10_keep 17 = .ok (.iadd, 1) := by decide +kernel
theorem dX10_keep_18 : decode cX10_keep 18 = .ok (.imul, 1) := by decide +kernel
theorem dX10_keep_19 : decode cX10_keep 19 = .ok (.invokevirtual 162, 3) := by decide +kernel
theorem dX10_keep_22 : decode cX10_keep 22 = .ok (.aload_n 0, 1) := by decide +kernel
theorem dX10_keep_23 : decode cX10_keep 23 = .ok (.getfield 48, 3) := by decide +kernel
theorem dX10_keep_26 : decode cX10_keep 26 = .ok (.iload_n 1, 1) := by decide +kernel
theorem dX10_keep_27 : decode cX10_keep 27 = .ok (.iconst 1, 1) := by decide +kernel
theorem dX10_keep_28 : decode cX10_keep 28 = .ok (.bastore, 1) := by decide +kernel
theorem dX10_keep_29 : decode cX10_keep 29 = .ok (.aload_n 0, 1) := by decide +kernel
theorem dX10_keep_30 : decode cX10_keep 30 = .ok (.getfield 45, 3) := by decide +kernel
theorem dX10_keep_33 : decode cX10_keep 33 = .ok (.iconst 0, 1) := by decide +kernel
theorem dX10_keep_34 : decode cX10_keep 34 = .ok (.iaload, 1) := by decide +kernel
theorem dX10_keep_35 : decode cX10_keep 35 = .ok (.ireturn, 1) := by decide +kernel
set_option maxRecDepth 20000 in
theorem ggX10_back_X10_in : GoodIn wsX10_back wsX10_in := goodIn_r _ [6] (by decide +kernel) (by decide +kernel)
set_option maxRecDepth 20000 in
theorem gX10_back_X10_in : GoodIn wsX10_back (va_wsS RX10 72 yX10_in wsX10_in) := goodIn_app (goodIn_of _ (by decide +kernel)) ggX10_back_X10_in
set_option maxRecDepth 20000 in
theorem ggX10_back_X10_copy : GoodIn wsX10_back wsX10_copy := goodIn_r _ [10, 2, 11, 12, 13, 14, 15, 16, 17, 18, 19, 20, 21, 22, 23, 24, 25, 26, 27, 28, 29, 30, 31, 32, 33, 34, 35, 36, 37] (by decide +kernel) (by decide +kernel)
set_option maxRecDepth 20000 in
theorem gX10_back_X10_copy : GoodIn wsX10_back (wsV RX10 162 RX10 yX10_copy wsX10_copy) := goodIn_app (goodIn_of _ (by decide +kernel)) ggX10_back_X10_copy
theorem dX10_back_0 : decode cX10_back 0 = .ok (.iload_n 1, 1) := by decide +kernel
theorem dX10_back_1 : decode cX10_back 1 = .ok (.iconst 0, 1) := by decide +kernel
theorem dX10_back_2 : decode cX10_back 2 = .ok (.iconst 1, 1) := by decide +kernel
theorem dX10_back_3 : decode cX10_back 3 = .ok (.invokestatic 72, 3) := by decide +kernel
theorem dX10_back_6 : decode cX10_back 6 = .ok (.ifCond .ne 5, 3) := by decide +kernel
theorem dX10_back_9 : decode cX10_back 9 = .ok (.iconst (-1), 1) := by decide +kernel
theorem dX10_back_10 : decode cX10_back 10 = .ok (.ireturn, 1) := by decide +kernel
theorem dX10_back_11 : decode cX10_back 11 = .ok (.aload_n 0, 1) := by decide +kernel
theorem dX10_back_12 : decode cX10_back 12 = .ok (.getfield 48, 3) := by decide +kernel
theorem dX10_back_15 : decode cX10_back 15 = .ok (.iload_n 1, 1) := by decide +kernel
theorem dX10_back_16 : decode cX10_back 16 = .ok (.baload, 1) := by decide +kernel
theorem dX10_back_17 : decode cX10_back 17 = .ok (.ifCond .ne 6, 3) := by decide +kernel
theorem dX10_back_20 : decode cX10_back 20 = .ok (.bipush (-2), 2) := by decide +kernel
theorem dX10_back_22 : decode cX10_back 22 = .ok (.ireturn, 1) := by decide +kernel
theorem dX10_back_23 : decode cX10_back 23 = .ok (.aload_n 0, 1) := by decide +kernel
theorem dX10_back_24 : decode cX10_back 24 = .ok (.bipush 12, 2) := by decide +kernel
theorem dX10_back_26 : decode cX10_back 26 = .ok (.iconst 2, 1) := by decide +kernel
theorem dX10_back_27 : decode cX10_back 27 = .ok (.iload_n 1, 1) := by decide +kernel
theorem dX10_back_28 : decode cX10_back 28 = .ok (.iadd, 1) := by decide +kernel
theorem dX10_back_29 : decode cX10_back 29 = .ok (.imul, 1) := by decide +kernel
theorem dX10_back_30 : decode cX10_back 30 = .ok (.iconst 0, 1) := by decide +kernel
theorem dX10_back_31 : decode cX10_back 31 = .ok (.invokevirtual 162, 3) := by decide +kernel
theorem dX10_back_34 : decode cX10_back 34 = .ok (.aload_n 0, 1) := by decide +kernel
theorem dX10_back_35 : decode cX10_back 35 = .ok (.getfield 45, 3) := by decide +kernel
theorem dX10_back_38 : decode cX10_back 38 = .ok (.iconst 0, 1) := by decide +kernel
theorem dX10_back_39 : decode cX10_back 39 = .ok (.iaload, 1) := by decide +kernel
theorem dX10_back_40 : decode cX10_back 40 = .ok (.ireturn, 1) := by decide +kernel
theorem dX10_count_0 : decode cX10_count 0 = .ok (.iconst 0, 1) := by decide +kernel
theorem dX10_count_1 : decode cX10_count 1 = .ok (.istore_n 2, 1) := by decide +kernel
theorem dX10_count_2 : decode cX10_count 2 = .ok (.iconst 0, 1) := by decide +kernel
theorem dX10_count_3 : decode cX10_count 3 = .ok (.istore_n 3, 1) := by decide +kernel
theorem dX10_count_4 : decode cX10_count 4 = .ok (.iload_n 3, 1) := by decide +kernel
theorem dX10_count_5 : decode cX10_count 5 = .ok (.bipush 64, 2) := by decide +kernel
theorem dX10_count_7 : decode cX10_count 7 = .ok (.if_icmp .ge 26, 3) := by decide +kernel
theorem dX10_count_10 : decode cX10_count 10 = .ok (.iload_n 2, 1) := by decide +kernel
theorem dX10_count_11 : decode cX10_count 11 = .ok (.aload_n 0, 1) := by decide +kernel
theorem dX10_count_12 : decode cX10_count 12 = .ok (.getfield 29, 3) := by decide +kernel
theorem dX10_count_15 : decode cX10_count 15 = .ok (.iload_n 3, 1) := by decide +kernel
theorem dX10_count_16 : decode cX10_count 16 = .ok (.baload, 1) := by decide +kernel
theorem dX10_count_17 : decode cX10_count 17 = .ok (.ifCond .eq 7, 3) := by decide +kernel
theorem dX10_count_20 : decode cX10_count 20 = .ok (.iconst 1, 1) := by decide +kernel
theorem dX10_count_21 : decode cX10_count 21 = .ok (.goto 4, 3) := by decide +kernel
theorem dX10_count_24 : decode cX10_count 24 = .ok (.iconst 0, 1) := by decide +kernel
theorem dX10_count_25 : decode cX10_count 25 = .ok (.iadd, 1) := by decide +kernel
theorem dX10_count_26 : decode cX10_count 26 = .ok (.istore_n 2, 1) := by decide +kernel
theorem dX10_count_27 : decode cX10_count 27 = .ok (.iinc 3 1, 3) := by decide +kernel
theorem dX10_count_30 : decode cX10_count 30 = .ok (.goto (-26), 3) := by decide +kernel
theorem dX10_count_33 : decode cX10_count 33 = .ok (.iload_n 1, 1) := by decide +kernel
theorem dX10_count_34 : decode cX10_count 34 = .ok (.ifCond .ne 12, 3) := by decide +kernel
theorem dX10_count_37 : decode cX10_count 37 = .ok (.aload_n 0, 1) := by decide +kernel
theorem dX10_count_38 : decode cX10_count 38 = .ok (.getfield 13, 3) := by decide +kernel
theorem dX10_count_41 : decode cX10_count 41 = .ok (.iconst 0, 1) := by decide +kernel
theorem dX10_count_42 : decode cX10_count 42 = .ok (.iaload, 1) := by decide +kernel
theorem dX10_count_43 : decode cX10_count 43 = .ok (.goto 41, 3) := by decide +kernel
theorem dX10_count_46 : decode cX10_count 46 = .ok (.iload_n 1, 1) := by decide +kernel
theorem dX10_count_47 : decode cX10_count 47 = .ok (.iconst 1, 1) := by decide +kernel
theorem dX10_count_48 : decode cX10_count 48 = .ok (.if_icmp .ne 12, 3) := by decide +kernel
theorem dX10_count_51 : decode cX10_count 51 = .ok (.aload_n 0, 1) := by decide +kernel
theorem dX10_count_52 : decode cX10_count 52 = .ok (.getfield 33, 3) := by decide +kernel
theorem dX10_count_55 : decode cX10_count 55 = .ok (.iconst 0, 1) := by decide +kernel
theorem dX10_count_56 : decode cX10_count 56 = .ok (.iaload, 1) := by decide +kernel
theorem dX10_count_57 : decode cX10_count 57 = .ok (.goto 27, 3) := by decide +kernel
theorem dX10_count_60 : decode cX10_count 60 = .ok (.iload_n 1, 1) := by decide +kernel
theorem dX10_count_61 : decode cX10_count 61 = .ok (.iconst 2, 1) := by decide +kernel
theorem dX10_count_62 : decode cX10_count 62 = .ok (.if_icmp .ne 9, 3) := by decide +kernel
theorem dX10_count_65 : decode cX10_count 65 = .ok (.iload_n 2, 1) := by decide +kernel
theorem dX10_count_66 : decode cX10_count 66 = .ok (.iconst 2, 1) := by decide +kernel
theorem dX10_count_67 : decode cX10_count 67 = .ok (.idiv, 1) := by decide +kernel
theorem dX10_count_68 : decode cX10_count 68 = .ok (.goto 16, 3) := by decide +kernel
theorem dX10_count_71 : decode cX10_count 71 = .ok (.iload_n 1, 1) := by decide +kernel
theorem dX10_count_72 : decode cX10_count 72 = .ok (.iconst 3, 1) := by decide +kernel
theorem dX10_count_73 : decode cX10_count 73 = .ok (.if_icmp .ne 10, 3) := by decide +kernel
theorem dX10_count_76 : decode cX10_count 76 = .ok (.aload_n 0, 1) := by decide +kernel
theorem dX10_count_77 : decode cX10_count 77 = .ok (.getfield 76, 3) := by decide +kernel
theorem dX10_count_80 : decode cX10_count 80 = .ok (.goto 4, 3) := by decide +kernel
theorem dX10_count_83 : decode cX10_count 83 = .ok (.iconst (-1), 1) := by decide +kernel
theorem dX10_count_84 : decode cX10_count 84 = .ok (.ireturn, 1) := by decide +kernel
theorem dX10_trace_0 : decode cX10_trace 0 = .ok (.aload_n 0, 1) := by decide +kernel
theorem dX10_trace_1 : decode cX10_trace 1 = .ok (.getfield 201, 3) := by decide +kernel
theorem dX10_trace_4 : decode cX10_trace 4 = .ok (.lreturn, 1) := by decide +kernel
theorem dJ6_numberOfTrailingZeros_0f7a4_0 : decode cJ6_numberOfTrailingZeros_0f7a4 0 = .ok (.iload_n 0, 1) := by decide +kernel
theorem dJ6_numberOfTrailingZeros_0f7a4_1 : decode cJ6_numberOfTrailingZeros_0f7a4 1 = .ok (.iconst (-1), 1) := by decide +kernel
theorem dJ6_numberOfTrailingZeros_0f7a4_2 : decode cJ6_numberOfTrailingZeros_0f7a4 2 = .ok (.ixor, 1) := by decide +kernel
theorem dJ6_numberOfTrailingZeros_0f7a4_3 : decode cJ6_numberOfTrailingZeros_0f7a4 3 = .ok (.iload_n 0, 1) := by decide +kernel
theorem dJ6_numberOfTrailingZeros_0f7a4_4 : decode cJ6_numberOfTrailingZeros_0f7a4 4 = .ok (.iconst 1, 1) := by decide +kernel
theorem dJ6_numberOfTrailingZeros_0f7a4_5 : decode cJ6_numberOfTrailingZeros_0f7a4 5 = .ok (.isub, 1) := by decide +kernel
theorem dJ6_numberOfTrailingZeros_0f7a4_6 : decode cJ6_numberOfTrailingZeros_0f7a4 6 = .ok (.iand, 1) := by decide +kernel
theorem dJ6_numberOfTrailingZeros_0f7a4_7 : decode cJ6_numberOfTrailingZeros_0f7a4 7 = .ok (.istore_n 0, 1) := by decide +kernel
theorem dJ6_numberOfTrailingZeros_0f7a4_8 : decode cJ6_numberOfTrailingZeros_0f7a4 8 = .ok (.iload_n 0, 1) := by decide +kernel
theorem dJ6_numberOfTrailingZeros_0f7a4_9 : decode cJ6_numberOfTrailingZeros_0f7a4 9 = .ok (.ifCond .gt 8, 3) := by decide +kernel
theorem dJ6_numberOfTrailingZeros_0f7a4_12 : decode cJ6_numberOfTrailingZeros_0f7a4 12 = .ok (.iload_n 0, 1) := by decide +kernel
theorem dJ6_numberOfTrailingZeros_0f7a4_13 : decode cJ6_numberOfTrailingZeros_0f7a4 13 = .ok (.bipush 32, 2) := by decide +kernel
theorem dJ6_numberOfTrailingZeros_0f7a4_15 : decode cJ6_numberOfTrailingZeros_0f7a4 15 = .ok (.iand, 1) := by decide +kernel
theorem dJ6_numberOfTrailingZeros_0f7a4_16 : decode cJ6_numberOfTrailingZeros_0f7a4 16 = .ok (.ireturn, 1) := by decide +kernel
theorem dJ6_numberOfTrailingZeros_0f7a4_17 : decode cJ6_numberOfTrailingZeros_0f7a4 17 = .ok (.iconst 1, 1) := by decide +kernel
theorem dJ6_numberOfTrailingZeros_0f7a4_18 : decode cJ6_numberOfTrailingZeros_0f7a4 18 = .ok (.istore_n 1, 1) := by decide +kernel
theorem dJ6_numberOfTrailingZeros_0f7a4_19 : decode cJ6_numberOfTrailingZeros_0f7a4 19 = .ok (.iload_n 0, 1) := by decide +kernel
theorem dJ6_numberOfTrailingZeros_0f7a4_20 : decode cJ6_numberOfTrailingZeros_0f7a4 20 = .ok (.ldc_w 264, 3) := by decide +kernel
theorem dJ6_numberOfTrailingZeros_0f7a4_23 : decode cJ6_numberOfTrailingZeros_0f7a4 23 = .ok (.if_icmp .le 11, 3) := by decide +kernel
theorem dJ6_numberOfTrailingZeros_0f7a4_26 : decode cJ6_numberOfTrailingZeros_0f7a4 26 = .ok (.iinc 1 16, 3) := by decide +kernel
theorem dJ6_numberOfTrailingZeros_0f7a4_29 : decode cJ6_numberOfTrailingZeros_0f7a4 29 = .ok (.iload_n 0, 1) := by decide +kernel
theorem dJ6_numberOfTrailingZeros_0f7a4_30 : decode cJ6_numberOfTrailingZeros_0f7a4 30 = .ok (.bipush 16, 2) := by decide +kernel
theorem dJ6_numberOfTrailingZeros_0f7a4_32 : decode cJ6_numberOfTrailingZeros_0f7a4 32 = .ok (.iushr, 1) := by decide +kernel
theorem dJ6_numberOfTrailingZeros_0f7a4_33 : decode cJ6_numberOfTrailingZeros_0f7a4 33 = .ok (.istore_n 0, 1) := by decide +kernel
theorem dJ6_numberOfTrailingZeros_0f7a4_34 : decode cJ6_numberOfTrailingZeros_0f7a4 34 = .ok (.iload_n 0, 1) := by decide +kernel
theorem dJ6_numberOfTrailingZeros_0f7a4_35 : decode cJ6_numberOfTrailingZeros_0f7a4 35 = .ok (.sipush 256, 3) := by decide +kernel
theorem dJ6_numberOfTrailingZeros_0f7a4_38 : decode cJ6_numberOfTrailingZeros_0f7a4 38 = .ok (.if_icmp .le 11, 3) := by decide +kernel
theorem dJ6_numberOfTrailingZeros_0f7a4_41 : decode cJ6_numberOfTrailingZeros_0f7a4 41 = .ok (.iinc 1 8, 3) := by decide +kernel
theorem dJ6_numberOfTrailingZeros_0f7a4_44 : decode cJ6_numberOfTrailingZeros_0f7a4 44 = .ok (.iload_n 0, 1) := by decide +kernel
theorem dJ6_numberOfTrailingZeros_0f7a4_45 : decode cJ6_numberOfTrailingZeros_0f7a4 45 = .ok (.bipush 8, 2) := by decide +kernel
theorem dJ6_numberOfTrailingZeros_0f7a4_47 : decode cJ6_numberOfTrailingZeros_0f7a4 47 = .ok (.iushr, 1) := by decide +kernel
theorem dJ6_numberOfTrailingZeros_0f7a4_48 : decode cJ6_numberOfTrailingZeros_0f7a4 48 = .ok (.istore_n 0, 1) := by decide +kernel
theorem dJ6_numberOfTrailingZeros_0f7a4_49 : decode cJ6_numberOfTrailingZeros_0f7a4 49 = .ok (.iload_n 0, 1) := by decide +kernel
theorem dJ6_numberOfTrailingZeros_0f7a4_50 : decode cJ6_numberOfTrailingZeros_0f7a4 50 = .ok (.bipush 16, 2) := by decide +kernel
theorem dJ6_numberOfTrailingZeros_0f7a4_52 : decode cJ6_numberOfTrailingZeros_0f7a4 52 = .ok (.if_icmp .le 10, 3) := by decide +kernel
theorem dJ6_numberOfTrailingZeros_0f7a4_55 : decode cJ6_numberOfTrailingZeros_0f7a4 55 = .ok (.iinc 1 4, 3) := by decide +kernel
theorem dJ6_numberOfTrailingZeros_0f7a4_58 : decode cJ6_numberOfTrailingZeros_0f7a4 58 = .ok (.iload_n 0, 1) := by decide +kernel
theorem dJ6_numberOfTrailingZeros_0f7a4_59 : decode cJ6_numberOfTrailingZeros_0f7a4 59 = .ok (.iconst 4, 1) := by decide +kernel
theorem dJ6_numberOfTrailingZeros_0f7a4_60 : decode cJ6_numberOfTrailingZeros_0f7a4 60 = .ok (.iushr, 1) := by decide +kernel
theorem dJ6_numberOfTrailingZeros_0f7a4_61 : decode cJ6_numberOfTrailingZeros_0f7a4 61 = .ok (.istore_n 0, 1) := by decide +kernel
theorem dJ6_numberOfTrailingZeros_0f7a4_62 : decode cJ6_numberOfTrailingZeros_0f7a4 62 = .ok (.iload_n 0, 1) := by decide +kernel
theorem dJ6_numberOfTrailingZeros_0f7a4_63 : decode cJ6_numberOfTrailingZeros_0f7a4 63 = .ok (.iconst 4, 1) := by decide +kernel
theorem dJ6_numberOfTrailingZeros_0f7a4_64 : decode cJ6_numberOfTrailingZeros_0f7a4 64 = .ok (.if_icmp .le 10, 3) := by decide +kernel
theorem dJ6_numberOfTrailingZeros_0f7a4_67 : decode cJ6_numberOfTrailingZeros_0f7a4 67 = .ok (.iinc 1 2, 3) := by decide +kernel
theorem dJ6_numberOfTrailingZeros_0f7a4_70 : decode cJ6_numberOfTrailingZeros_0f7a4 70 = .ok (.iload_n 0, 1) := by decide +kernel
theorem dJ6_numberOfTrailingZeros_0f7a4_71 : decode cJ6_numberOfTrailingZeros_0f7a4 71 = .ok (.iconst 2, 1) := by decide +kernel
theorem dJ6_numberOfTrailingZeros_0f7a4_72 : decode cJ6_numberOfTrailingZeros_0f7a4 72 = .ok (.iushr, 1) := by decide +kernel
theorem dJ6_numberOfTrailingZeros_0f7a4_73 : decode cJ6_numberOfTrailingZeros_0f7a4 73 = .ok (.istore_n 0, 1) := by decide +kernel
theorem dJ6_numberOfTrailingZeros_0f7a4_74 : decode cJ6_numberOfTrailingZeros_0f7a4 74 = .ok (.iload_n 1, 1) := by decide +kernel
theorem dJ6_numberOfTrailingZeros_0f7a4_75 : decode cJ6_numberOfTrailingZeros_0f7a4 75 = .ok (.iload_n 0, 1) := by decide +kernel
theorem dJ6_numberOfTrailingZeros_0f7a4_76 : decode cJ6_numberOfTrailingZeros_0f7a4 76 = .ok (.iconst 1, 1) := by decide +kernel
theorem dJ6_numberOfTrailingZeros_0f7a4_77 : decode cJ6_numberOfTrailingZeros_0f7a4 77 = .ok (.iushr, 1) := by decide +kernel
theorem dJ6_numberOfTrailingZeros_0f7a4_78 : decode cJ6_numberOfTrailingZeros_0f7a4 78 = .ok (.iadd, 1) := by decide +kernel
theorem dJ6_numberOfTrailingZeros_0f7a4_79 : decode cJ6_numberOfTrailingZeros_0f7a4 79 = .ok (.ireturn, 1) := by decide +kernel
theorem dJ6_bitCount_0f7a4_0 : decode cJ6_bitCount_0f7a4 0 = .ok (.iload_n 0, 1) := by decide +kernel
theorem dJ6_bitCount_0f7a4_1 : decode cJ6_bitCount_0f7a4 1 = .ok (.iload_n 0, 1) := by decide +kernel
theorem dJ6_bitCount_0f7a4_2 : decode cJ6_bitCount_0f7a4 2 = .ok (.iconst 1, 1) := by decide +kernel
theorem dJ6_bitCount_0f7a4_3 : decode cJ6_bitCount_0f7a4 3 = .ok (.iushr, 1) := by decide +kernel
theorem dJ6_bitCount_0f7a4_4 : decode cJ6_bitCount_0f7a4 4 = .ok (.ldc_w 265, 3) := by decide +kernel
theorem dJ6_bitCount_0f7a4_7 : decode cJ6_bitCount_0f7a4 7 = .ok (.iand, 1) := by decide +kernel
theorem dJ6_bitCount_0f7a4_8 : decode cJ6_bitCount_0f7a4 8 = .ok (.isub, 1) := by decide +kernel
theorem dJ6_bitCount_0f7a4_9 : decode cJ6_bitCount_0f7a4 9 = .ok (.istore_n 0, 1) := by decide +kernel
theorem dJ6_bitCount_0f7a4_10 : decode cJ6_bitCount_0f7a4 10 = .ok (.iload_n 0, 1) := by decide +kernel
theorem dJ6_bitCount_0f7a4_11 : decode cJ6_bitCount_0f7a4 11 = .ok (.ldc_w 266, 3) := by decide +kernel
theorem dJ6_bitCount_0f7a4_14 : decode cJ6_bitCount_0f7a4 14 = .ok (.iand, 1) := by decide +kernel
theorem dJ6_bitCount_0f7a4_15 : decode cJ6_bitCount_0f7a4 15 = .ok (.iload_n 0, 1) := by decide +kernel
theorem dJ6_bitCount_0f7a4_16 : decode cJ6_bitCount_0f7a4 16 = .ok (.iconst 2, 1) := by decide +kernel
theorem dJ6_bitCount_0f7a4_17 : decode cJ6_bitCount_0f7a4 17 = .ok (.iushr, 1) := by decide +kernel
theorem dJ6_bitCount_0f7a4_18 : decode cJ6_bitCount_0f7a4 18 = .ok (.ldc_w 266, 3) := by decide +kernel
theorem dJ6_bitCount_0f7a4_21 : decode cJ6_bitCount_0f7a4 21 = .ok (.iand, 1) := by decide +kernel
theorem dJ6_bitCount_0f7a4_22 : decode cJ6_bitCount_0f7a4 22 = .ok (.iadd, 1) := by decide +kernel
theorem dJ6_bitCount_0f7a4_23 : decode cJ6_bitCount_0f7a4 23 = .ok (.istore_n 0, 1) := by decide +kernel
theorem dJ6_bitCount_0f7a4_24 : decode cJ6_bitCount_0f7a4 24 = .ok (.iload_n 0, 1) := by decide +kernel
theorem dJ6_bitCount_0f7a4_25 : decode cJ6_bitCount_0f7a4 25 = .ok (.iload_n 0, 1) := by decide +kernel
theorem dJ6_bitCount_0f7a4_26 : decode cJ6_bitCount_0f7a4 26 = .ok (.iconst 4, 1) := by decide +kernel
theorem dJ6_bitCount_0f7a4_27 : decode cJ6_bitCount_0f7a4 27 = .ok (.iushr, 1) := by decide +kernel
theorem dJ6_bitCount_0f7a4_28 : decode cJ6_bitCount_0f7a4 28 = .ok (.iadd, 1) := by decide +kernel
theorem dJ6_bitCount_0f7a4_29 : decode cJ6_bitCount_0f7a4 29 = .ok (.ldc_w 267, 3) := by decide +kernel
theorem dJ6_bitCount_0f7a4_32 : decode cJ6_bitCount_0f7a4 32 = .ok (.iand, 1) := by decide +kernel
theorem dJ6_bitCount_0f7a4_33 : decode cJ6_bitCount_0f7a4 33 = .ok (.istore_n 0, 1) := by decide +kernel
theorem dJ6_bitCount_0f7a4_34 : decode cJ6_bitCount_0f7a4 34 = .ok (.iload_n 0, 1) := by decide +kernel
theorem dJ6_bitCount_0f7a4_35 : decode cJ6_bitCount_0f7a4 35 = .ok (.iload_n 0, 1) := by decide +kernel
theorem dJ6_bitCount_0f7a4_36 : decode cJ6_bitCount_0f7a4 36 = .ok (.bipush 8, 2) := by decide +kernel
theorem dJ6_bitCount_0f7a4_38 : decode cJ6_bitCount_0f7a4 38 = .ok (.iushr, 1) := by decide +kernel
theorem dJ6_bitCount_0f7a4_39 : decode cJ6_bitCount_0f7a4 39 = .ok (.iadd, 1) := by decide +kernel
theorem dJ6_bitCount_0f7a4_40 : decode cJ6_bitCount_0f7a4 40 = .ok (.istore_n 0, 1) := by decide +kernel
theorem dJ6_bitCount_0f7a4_41 : decode cJ6_bitCount_0f7a4 41 = .ok (.iload_n 0, 1) := by decide +kernel
theorem dJ6_bitCount_0f7a4_42 : decode cJ6_bitCount_0f7a4 42 = .ok (.iload_n 0, 1) := by decide +kernel
theorem dJ6_bitCount_0f7a4_43 : decode cJ6_bitCount_0f7a4 43 = .ok (.bipush 16, 2) := by decide +kernel
theorem dJ6_bitCount_0f7a4_45 : decode cJ6_bitCount_0f7a4 45 = .ok (.iushr, 1) := by decide +kernel
theorem dJ6_bitCount_0f7a4_46 : decode cJ6_bitCount_0f7a4 46 = .ok (.iadd, 1) := by decide +kernel
theorem dJ6_bitCount_0f7a4_47 : decode cJ6_bitCount_0f7a4 47 = .ok (.istore_n 0, 1) := by decide +kernel
theorem dJ6_bitCount_0f7a4_48 : decode cJ6_bitCount_0f7a4 48 = .ok (.iload_n 0, 1) := by decide +kernel
theorem dJ6_bitCount_0f7a4_49 : decode cJ6_bitCount_0f7a4 49 = .ok (.bipush 63, 2) := by decide +kernel
theorem dJ6_bitCount_0f7a4_51 : decode cJ6_bitCount_0f7a4 51 = .ok (.iand, 1) := by decide +kernel
theorem dJ6_bitCount_0f7a4_52 : decode cJ6_bitCount_0f7a4 52 = .ok (.ireturn, 1) := by decide +kernel
theorem dJ9_abs_0f7a4_0 : decode cJ9_abs_0f7a4 0 = .ok (.iload_n 0, 1) := by decide +kernel
theorem dJ9_abs_0f7a4_1 : decode cJ9_abs_0f7a4 1 = .ok (.ifCond .ge 8, 3) := by decide +kernel
theorem dJ9_abs_0f7a4_4 : decode cJ9_abs_0f7a4 4 = .ok (.iload_n 0, 1) := by decide +kernel
theorem dJ9_abs_0f7a4_5 : decode cJ9_abs_0f7a4 5 = .ok (.ineg, 1) := by decide +kernel
theorem dJ9_abs_0f7a4_6 : decode cJ9_abs_0f7a4 6 = .ok (.goto 4, 3) := by decide +kernel
theorem dJ9_abs_0f7a4_9 : decode cJ9_abs_0f7a4 9 = .ok (.iload_n 0, 1) := by decide +kernel
theorem dJ9_abs_0f7a4_10 : decode cJ9_abs_0f7a4 10 = .ok (.ireturn, 1) := by decide +kernel
theorem dJ9_max_7cf53_0 : decode cJ9_max_7cf53 0 = .ok (.iload_n 0, 1) := by decide +kernel
theorem dJ9_max_7cf53_1 : decode cJ9_max_7cf53 1 = .ok (.iload_n 1, 1) := by decide +kernel
theorem dJ9_max_7cf53_2 : decode cJ9_max_7cf53 2 = .ok (.if_icmp .lt 7, 3) := by decide +kernel
theorem dJ9_max_7cf53_5 : decode cJ9_max_7cf53 5 = .ok (.iload_n 0, 1) := by decide +kernel
theorem dJ9_max_7cf53_6 : decode cJ9_max_7cf53 6 = .ok (.goto 4, 3) := by decide +kernel
theorem dJ9_max_7cf53_9 : decode cJ9_max_7cf53 9 = .ok (.iload_n 1, 1) := by decide +kernel
theorem dJ9_max_7cf53_10 : decode cJ9_max_7cf53 10 = .ok (.ireturn, 1) := by decide +kernel
theorem dJ9_min_7cf53_0 : decode cJ9_min_7cf53 0 = .ok (.iload_n 0, 1) := by decide +kernel
theorem dJ9_min_7cf53_1 : decode cJ9_min_7cf53 1 = .ok (.iload_n 1, 1) := by decide +kernel
theorem dJ9_min_7cf53_2 : decode cJ9_min_7cf53 2 = .ok (.if_icmp .gt 7, 3) := by decide +kernel
theorem dJ9_min_7cf53_5 : decode cJ9_min_7cf53 5 = .ok (.iload_n 0, 1) := by decide +kernel
theorem dJ9_min_7cf53_6 : decode cJ9_min_7cf53 6 = .ok (.goto 4, 3) := by decide +kernel
theorem dJ9_min_7cf53_9 : decode cJ9_min_7cf53 9 = .ok (.iload_n 1, 1) := by decide +kernel
theorem dJ9_min_7cf53_10 : decode cJ9_min_7cf53 10 = .ok (.ireturn, 1) := by decide +kernel
set_option maxRecDepth 20000 in
theorem ggJ0_length_8abf5_J0_coder_7d493 : GoodIn wsJ0_length_8abf5 wsJ0_coder_7d493 := goodIn_r _ [6, 7, 8] (by decide +kernel) (by decide +kernel)
set_option maxRecDepth 20000 in
theorem gJ0_length_8abf5_J0_coder_7d493 : GoodIn wsJ0_length_8abf5 (wsV RJ0 335 RJ0 yJ0_coder_7d493 wsJ0_coder_7d493) := goodIn_app (goodIn_of _ (by decide +kernel)) ggJ0_length_8abf5_J0_coder_7d493
theorem dJ0_length_8abf5_0 : decode cJ0_length_8abf5 0 = .ok (.aload_n 0, 1) := by decide +kernel
theorem dJ0_length_8abf5_1 : decode cJ0_length_8abf5 1 = .ok (.getfield 9, 3) := by decide +kernel
theorem dJ0_length_8abf5_4 : decode cJ0_length_8abf5 4 = .ok (.arraylength, 1) := by decide +kernel
theorem dJ0_length_8abf5_5 : decode cJ0_length_8abf5 5 = .ok (.aload_n 0, 1) := by decide +kernel
theorem dJ0_length_8abf5_6 : decode cJ0_length_8abf5 6 = .ok (.invokevirtual 335, 3) := by decide +kernel
theorem dJ0_length_8abf5_9 : decode cJ0_length_8abf5 9 = .ok (.ishr, 1) := by decide +kernel
theorem dJ0_length_8abf5_10 : decode cJ0_length_8abf5 10 = .ok (.ireturn, 1) := by decide +kernel
set_option maxRecDepth 20000 in
theorem ggJ0_charAt_5068e_J0_isLatin1_aae02 : GoodIn wsJ0_charAt_5068e wsJ0_isLatin1_aae02 := goodIn_r _ [6, 7, 8] (by decide +kernel) (by decide +kernel)
set_option maxRecDepth 20000 in
theorem gJ0_charAt_5068e_J0_isLatin1_aae02 : GoodIn wsJ0_charAt_5068e (wsV RJ0 492 RJ0 yJ0_isLatin1_aae02 wsJ0_isLatin1_aae02) := goodIn_app (goodIn_of _ (by decide +kernel)) ggJ0_charAt_5068e_J0_isLatin1_aae02
set_option maxRecDepth 20000 in
theorem ggJ0_charAt_5068e_J1_charAt_3b067 : GoodIn wsJ0_charAt_5068e wsJ1_charAt_3b067 := goodIn_r _ [12, 13, 14, 5, 15, 16, 17, 18, 19, 20] (by decide +kernel) (by decide +kernel)
set_option maxRecDepth 20000 in
theorem gJ0_charAt_5068e_J1_charAt_3b067 : GoodIn wsJ0_charAt_5068e (va_wsS RJ0 495 yJ1_charAt_3b067 wsJ1_charAt_3b067) := goodIn_app (goodIn_of _ (by decide +kernel)) ggJ0_charAt_5068e_J1_charAt_3b067
set_option maxRecDepth 20000 in
theorem ggJ0_charAt_5068e_J2_charAt_3b067 : GoodIn wsJ0_charAt_5068e wsJ2_charAt_3b067 := goodIn_r _ [24, 25, 26, 23, 27, 28, 29, 30, 31, 14, 5, 15, 16, 17, 18, 19, 20, 32, 33, 34, 35, 36, 37] (by decide +kernel) (by decide +kernel)
set_option maxRecDepth 20000 in
theorem gJ0_charAt_5068e_J2_charAt_3b067 : GoodIn wsJ0_charAt_5068e (va_wsS RJ0 498 yJ2_charAt_3b067 wsJ2_charAt_3b067) := goodIn_app (goodIn_of _ (by decide +kernel)) ggJ0_charAt_5068e_J2_charAt_3b067
theorem dJ0_charAt_5068e_0 : decode cJ0_charAt_5068e 0 = .ok (.aload_n 0, 1) := by decide +kernel
theorem dJ0_charAt_5068e_1 : decode cJ0_charAt_5068e 1 = .ok (.invokevirtual 492, 3) := by decide +kernel
theorem dJ0_charAt_5068e_4 : decode cJ0_charAt_5068e 4 = .ok (.ifCond .eq 12, 3) := by decide +kernel
theorem dJ0_charAt_5068e_7 : decode cJ0_charAt_5068e 7 = .ok (.aload_n 0, 1) := by decide +kernel
theorem dJ0_charAt_5068e_8 : decode cJ0_charAt_5068e 8 = .ok (.getfield 9, 3) := by decide +kernel
theorem dJ0_charAt_5068e_11 : decode cJ0_charAt_5068e 11 = .ok (.iload_n 1, 1) := by decide +kernel
theorem dJ0_charAt_5068e_12 : decode cJ0_charAt_5068e 12 = .ok (.invokestatic 495, 3) := by decide +kernel
theorem dJ0_charAt_5068e_15 : decode cJ0_charAt_5068e 15 = .ok (.ireturn, 1) := by decide +kernel
theorem dJ0_charAt_5068e_16 : decode cJ0_charAt_5068e 16 = .ok (.aload_n 0, 1) := by decide +kernel
theorem dJ0_charAt_5068e_17 : decode cJ0_charAt_5068e 17 = .ok (.getfield 9, 3) := by decide +kernel
theorem dJ0_charAt_5068e_20 : decode cJ0_charAt_5068e 20 = .ok (.iload_n 1, 1) := by decide +kernel
theorem dJ0_charAt_5068e_21 : decode cJ0_charAt_5068e 21 = .ok (.invokestatic 498, 3) := by decide +kernel
theorem dJ0_charAt_5068e_24 : decode cJ0_charAt_5068e 24 = .ok (.ireturn, 1) := by decide +kernel
theorem dJ0_coder_7d493_0 : decode cJ0_coder_7d493 0 = .ok (.getstatic 38, 3) := by decide +kernel
theorem dJ0_coder_7d493_3 : decode cJ0_coder_7d493 3 = .ok (.ifCond .eq 10, 3) := by decide +kernel
theorem dJ0_coder_7d493_6 : decode cJ0_coder_7d493 6 = .ok (.aload_n 0, 1) := by decide +kernel
theorem dJ0_coder_7d493_7 : decode cJ0_coder_7d493 7 = .ok (.getfield 15, 3) := by decide +kernel
theorem dJ0_coder_7d493_10 : decode cJ0_coder_7d493 10 = .ok (.goto 4, 3) := by decide +kernel
theorem dJ0_coder_7d493_13 : decode cJ0_coder_7d493 13 = .ok (.iconst 1, 1) := by decide +kernel
theorem dJ0_coder_7d493_14 : decode cJ0_coder_7d493 14 = .ok (.ireturn, 1) := by decide +kernel
theorem dJ0_isLatin1_aae02_0 : decode cJ0_isLatin1_aae02 0 = .ok (.getstatic 38, 3) := by decide +kernel
theorem dJ0_isLatin1_aae02_3 : decode cJ0_isLatin1_aae02 3 = .ok (.ifCond .eq 14, 3) := by decide +kernel
theorem dJ0_isLatin1_aae02_6 : decode cJ0_isLatin1_aae02 6 = .ok (.aload_n 0, 1) := by decide +kernel
theorem dJ0_isLatin1_aae02_7 : decode cJ0_isLatin1_aae02 7 = .ok (.getfield 15, 3) := by decide +kernel
theorem dJ0_isLatin1_aae02_10 : decode cJ0_isLatin1_aae02 10 = .ok (.ifCond .ne 7, 3) := by decide +kernel
theorem dJ0_isLatin1_aae02_13 : decode cJ0_isLatin1_aae02 13 = .ok (.iconst 1, 1) := by decide +kernel
theorem dJ0_isLatin1_aae02_14 : decode cJ0_isLatin1_aae02 14 = .ok (.goto 4, 3) := by decide +kernel
theorem dJ0_isLatin1_aae02_17 : decode cJ0_isLatin1_aae02 17 = .ok (.iconst 0, 1) := by decide +kernel
theorem dJ0_isLatin1_aae02_18 : decode cJ0_isLatin1_aae02 18 = .ok (.ireturn, 1) := by decide +kernel
set_option maxRecDepth 20000 in
theorem ggJ0_checkIndex_df160_J3_checkIndex_8e157 : GoodIn wsJ0_checkIndex_df160 wsJ3_checkIndex_8e157 := goodIn_r _ [5] (by decide +kernel) (by decide +kernel)
set_option maxRecDepth 20000 in
theorem gJ0_checkIndex_df160_J3_checkIndex_8e157 : GoodIn wsJ0_checkIndex_df160 (va_wsS RJ0 1059 yJ3_checkIndex_8e157 wsJ3_checkIndex_8e157) := goodIn_app (goodIn_of _ (by decide +kernel)) ggJ0_checkIndex_df160_J3_checkIndex_8e157
theorem dJ0_checkIndex_df160_0 : decode cJ0_checkIndex_df160 0 = .ok (.iload_n 0, 1) := by decide +kernel
theorem dJ0_checkIndex_df160_1 : decode cJ0_checkIndex_df160 1 = .ok (.iload_n 1, 1) := by decide +kernel
theorem dJ0_checkIndex_df160_2 : decode cJ0_checkIndex_df160 2 = .ok (.getstatic 1053, 3) := by decide +kernel
theorem dJ0_checkIndex_df160_5 : decode cJ0_checkIndex_df160 5 = .ok (.invokestatic 1059, 3) := by decide +kernel
theorem dJ0_checkIndex_df160_8 : decode cJ0_checkIndex_df160 8 = .ok (.pop, 1) := by decide +kernel
theorem dJ0_checkIndex_df160_9 : decode cJ0_checkIndex_df160 9 = .ok (.return_, 1) := by decide +kernel
set_option maxRecDepth 20000 in
theorem ggJ1_charAt_3b067_J0_checkIndex_df160 : GoodIn wsJ1_charAt_3b067 wsJ0_checkIndex_df160 := goodIn_r _ [4, 5, 6, 7, 8, 9] (by decide +kernel) (by decide +kernel)
set_option maxRecDepth 20000 in
theorem gJ1_charAt_3b067_J0_checkIndex_df160 : GoodIn wsJ1_charAt_3b067 (va_wsS RJ1 9 yJ0_checkIndex_df160 wsJ0_checkIndex_df160) := goodIn_app (goodIn_of _ (by decide +kernel)) ggJ1_charAt_3b067_J0_checkIndex_df160
theorem dJ1_charAt_3b067_0 : decode cJ1_charAt_3b067 0 = .ok (.iload_n 1, 1) := by decide +kernel
theorem dJ1_charAt_3b067_1 : decode cJ1_charAt_3b067 1 = .ok (.aload_n 0, 1) := by decide +kernel
theorem dJ1_charAt_3b067_2 : decode cJ1_charAt_3b067 2 = .ok (.arraylength, 1) := by decide +kernel
theorem dJ1_charAt_3b067_3 : decode cJ1_charAt_3b067 3 = .ok (.invokestatic 9, 3) := by decide +kernel
theorem dJ1_charAt_3b067_6 : decode cJ1_charAt_3b067 6 = .ok (.aload_n 0, 1) := by decide +kernel
theorem dJ1_charAt_3b067_7 : decode cJ1_charAt_3b067 7 = .ok (.iload_n 1, 1) := by decide +kernel
theorem dJ1_charAt_3b067_8 : decode cJ1_charAt_3b067 8 = .ok (.baload, 1) := by decide +kernel
theorem dJ1_charAt_3b067_9 : decode cJ1_charAt_3b067 9 = .ok (.sipush 255, 3) := by decide +kernel
theorem dJ1_charAt_3b067_12 : decode cJ1_charAt_3b067 12 = .ok (.iand, 1) := by decide +kernel
theorem dJ1_charAt_3b067_13 : decode cJ1_charAt_3b067 13 = .ok (.i2c, 1) := by decide +kernel
theorem dJ1_charAt_3b067_14 : decode cJ1_charAt_3b067 14 = .ok (.ireturn, 1) := by decide +kernel
set_option maxRecDepth 20000 in
theorem ggJ2_getChar_3b067_J2_length_9d52b : GoodIn wsJ2_getChar_3b067 wsJ2_length_9d52b := goodIn_r _ [7] (by decide +kernel) (by decide +kernel)
