theorem dX0_fewestOf_93 : decode cX0_fewestOf 93 = .ok (.isub, 1) := by decide +kernel
theorem dX0_fewestOf_94 : decode cX0_fewestOf 94 = .ok (.invokestatic 58, 3) := by decide +kernel
theorem dX0_fewestOf_97 : decode cX0_fewestOf 97 = .ok (.iadd, 1) := by decide +kernel
theorem dX0_fewestOf_98 : decode cX0_fewestOf 98 = .ok (.invokestatic 40, 3) := by decide +kernel
theorem dX0_fewestOf_101 : decode cX0_fewestOf 101 = .ok (.istore_n 3, 1) := by decide +kernel
theorem dX0_fewestOf_102 : decode cX0_fewestOf 102 = .ok (.iinc 5 1, 3) := by decide +kernel
theorem dX0_fewestOf_105 : decode cX0_fewestOf 105 = .ok (.goto (-90), 3) := by decide +kernel
theorem dX0_fewestOf_108 : decode cX0_fewestOf 108 = .ok (.iload_n 3, 1) := by decide +kernel
theorem dX0_fewestOf_109 : decode cX0_fewestOf 109 = .ok (.ireturn, 1) := by decide +kernel
theorem dX0_fewer_0 : decode cX0_fewer 0 = .ok (.iload_n 0, 1) := by decide +kernel
theorem dX0_fewer_1 : decode cX0_fewer 1 = .ok (.bipush (-9), 2) := by decide +kernel
theorem dX0_fewer_3 : decode cX0_fewer 3 = .ok (.if_icmp .ne 5, 3) := by decide +kernel
theorem dX0_fewer_6 : decode cX0_fewer 6 = .ok (.iload_n 1, 1) := by decide +kernel
theorem dX0_fewer_7 : decode cX0_fewer 7 = .ok (.ireturn, 1) := by decide +kernel
theorem dX0_fewer_8 : decode cX0_fewer 8 = .ok (.iload_n 1, 1) := by decide +kernel
theorem dX0_fewer_9 : decode cX0_fewer 9 = .ok (.bipush (-9), 2) := by decide +kernel
theorem dX0_fewer_11 : decode cX0_fewer 11 = .ok (.if_icmp .ne 7, 3) := by decide +kernel
theorem dX0_fewer_14 : decode cX0_fewer 14 = .ok (.iload_n 0, 1) := by decide +kernel
theorem dX0_fewer_15 : decode cX0_fewer 15 = .ok (.goto 8, 3) := by decide +kernel
theorem dX0_fewer_18 : decode cX0_fewer 18 = .ok (.iload_n 0, 1) := by decide +kernel
theorem dX0_fewer_19 : decode cX0_fewer 19 = .ok (.iload_n 1, 1) := by decide +kernel
theorem dX0_fewer_20 : decode cX0_fewer 20 = .ok (.invokestatic 63, 3) := by decide +kernel
theorem dX0_fewer_23 : decode cX0_fewer 23 = .ok (.ireturn, 1) := by decide +kernel
theorem dX1_init_0 : decode cX1_init 0 = .ok (.aload_n 0, 1) := by decide +kernel
theorem dX1_init_1 : decode cX1_init 1 = .ok (.invokespecial 3, 3) := by decide +kernel
theorem dX1_init_4 : decode cX1_init 4 = .ok (.aload_n 0, 1) := by decide +kernel
theorem dX1_init_5 : decode cX1_init 5 = .ok (.bipush 8, 2) := by decide +kernel
theorem dX1_init_7 : decode cX1_init 7 = .ok (.bipush 8, 2) := by decide +kernel
theorem dX1_init_9 : decode cX1_init 9 = .ok (.multianewarray 9 2, 4) := by decide +kernel
theorem dX1_init_13 : decode cX1_init 13 = .ok (.putfield 11, 3) := by decide +kernel
theorem dX1_init_16 : decode cX1_init 16 = .ok (.aload_n 0, 1) := by decide +kernel
theorem dX1_init_17 : decode cX1_init 17 = .ok (.bipush 8, 2) := by decide +kernel
theorem dX1_init_19 : decode cX1_init 19 = .ok (.newarray .int, 2) := by decide +kernel
theorem dX1_init_21 : decode cX1_init 21 = .ok (.putfield 16, 3) := by decide +kernel
theorem dX1_init_24 : decode cX1_init 24 = .ok (.aload_n 0, 1) := by decide +kernel
theorem dX1_init_25 : decode cX1_init 25 = .ok (.bipush 8, 2) := by decide +kernel
theorem dX1_init_27 : decode cX1_init 27 = .ok (.newarray .int, 2) := by decide +kernel
theorem dX1_init_29 : decode cX1_init 29 = .ok (.putfield 20, 3) := by decide +kernel
theorem dX1_init_32 : decode cX1_init 32 = .ok (.aload_n 0, 1) := by decide +kernel
theorem dX1_init_33 : decode cX1_init 33 = .ok (.bipush 8, 2) := by decide +kernel
theorem dX1_init_35 : decode cX1_init 35 = .ok (.newarray .int, 2) := by decide +kernel
theorem dX1_init_37 : decode cX1_init 37 = .ok (.putfield 23, 3) := by decide +kernel
theorem dX1_init_40 : decode cX1_init 40 = .ok (.aload_n 0, 1) := by decide +kernel
theorem dX1_init_41 : decode cX1_init 41 = .ok (.iconst 1, 1) := by decide +kernel
theorem dX1_init_42 : decode cX1_init 42 = .ok (.putfield 26, 3) := by decide +kernel
theorem dX1_init_45 : decode cX1_init 45 = .ok (.return_, 1) := by decide +kernel
set_option maxRecDepth 20000 in
theorem ggX1_reckon_J7_fill_53178 : GoodIn wsX1_reckon wsJ7_fill_53178 := goodIn_r _ [13] (by decide +kernel) (by decide +kernel)
set_option maxRecDepth 20000 in
theorem gX1_reckon_J7_fill_53178 : GoodIn wsX1_reckon (va_wsS RX1 30 yJ7_fill_53178 wsJ7_fill_53178) := goodIn_app (goodIn_of _ (by decide +kernel)) ggX1_reckon_J7_fill_53178
set_option maxRecDepth 20000 in
theorem ggX1_reckon_X1_askAll : GoodIn wsX1_reckon wsX1_askAll := goodIn_r _ [18, 19, 2, 20, 7, 10, 11, 12, 13, 21, 22, 23, 17, 24, 1, 25, 26, 27, 28, 41, 42, 43, 44, 45, 46, 47, 48, 49, 50, 51, 52, 53] (by decide +kernel) (by decide +kernel)
set_option maxRecDepth 20000 in
theorem gX1_reckon_X1_askAll : GoodIn wsX1_reckon (wsV RX1 55 RX1 yX1_askAll wsX1_askAll) := goodIn_app (goodIn_of _ (by decide +kernel)) ggX1_reckon_X1_askAll
set_option maxRecDepth 20000 in
theorem ggX1_reckon_X9_restsFrom : GoodIn wsX1_reckon wsX9_restsFrom := goodIn_r _ [31, 32, 33, 34, 35, 36, 37, 38, 17, 39, 2, 3, 4, 25, 26, 27, 28, 7, 1, 40, 29, 30, 46, 47, 48, 49, 50, 51, 52, 53, 41, 42, 43, 44, 45] (by decide +kernel) (by decide +kernel)
set_option maxRecDepth 20000 in
theorem gX1_reckon_X9_restsFrom_n59 : GoodIn wsX1_reckon (wsX9_restsFrom) := ggX1_reckon_X9_restsFrom
theorem dX1_reckon_0 : decode cX1_reckon 0 = .ok (.iconst 0, 1) := by decide +kernel
theorem dX1_reckon_1 : decode cX1_reckon 1 = .ok (.istore_n 3, 1) := by decide +kernel
theorem dX1_reckon_2 : decode cX1_reckon 2 = .ok (.iload_n 3, 1) := by decide +kernel
theorem dX1_reckon_3 : decode cX1_reckon 3 = .ok (.bipush 8, 2) := by decide +kernel
theorem dX1_reckon_5 : decode cX1_reckon 5 = .ok (.if_icmp .ge 19, 3) := by decide +kernel
theorem dX1_reckon_8 : decode cX1_reckon 8 = .ok (.aload_n 0, 1) := by decide +kernel
theorem dX1_reckon_9 : decode cX1_reckon 9 = .ok (.getfield 11, 3) := by decide +kernel
theorem dX1_reckon_12 : decode cX1_reckon 12 = .ok (.iload_n 3, 1) := by decide +kernel
theorem dX1_reckon_13 : decode cX1_reckon 13 = .ok (.aaload, 1) := by decide +kernel
theorem dX1_reckon_14 : decode cX1_reckon 14 = .ok (.iconst 0, 1) := by decide +kernel
theorem dX1_reckon_15 : decode cX1_reckon 15 = .ok (.invokestatic 30, 3) := by decide +kernel
theorem dX1_reckon_18 : decode cX1_reckon 18 = .ok (.iinc 3 1, 3) := by decide +kernel
theorem dX1_reckon_21 : decode cX1_reckon 21 = .ok (.goto (-19), 3) := by decide +kernel
theorem dX1_reckon_24 : decode cX1_reckon 24 = .ok (.iconst 0, 1) := by decide +kernel
theorem dX1_reckon_25 : decode cX1_reckon 25 = .ok (.istore_n 3, 1) := by decide +kernel
theorem dX1_reckon_26 : decode cX1_reckon 26 = .ok (.iload_n 3, 1) := by decide +kernel
theorem dX1_reckon_27 : decode cX1_reckon 27 = .ok (.aload_n 2, 1) := by decide +kernel
theorem dX1_reckon_28 : decode cX1_reckon 28 = .ok (.getfield 36, 3) := by decide +kernel
theorem dX1_reckon_31 : decode cX1_reckon 31 = .ok (.if_icmp .ge 97, 3) := by decide +kernel
theorem dX1_reckon_34 : decode cX1_reckon 34 = .ok (.aload_n 2, 1) := by decide +kernel
theorem dX1_reckon_35 : decode cX1_reckon 35 = .ok (.getfield 41, 3) := by decide +kernel
theorem dX1_reckon_38 : decode cX1_reckon 38 = .ok (.iload_n 3, 1) := by decide +kernel
theorem dX1_reckon_39 : decode cX1_reckon 39 = .ok (.iaload, 1) := by decide +kernel
theorem dX1_reckon_40 : decode cX1_reckon 40 = .ok (.istore 4, 2) := by decide +kernel
theorem dX1_reckon_42 : decode cX1_reckon 42 = .ok (.aload_n 2, 1) := by decide +kernel
theorem dX1_reckon_43 : decode cX1_reckon 43 = .ok (.getfield 44, 3) := by decide +kernel
theorem dX1_reckon_46 : decode cX1_reckon 46 = .ok (.iload_n 3, 1) := by decide +kernel
theorem dX1_reckon_47 : decode cX1_reckon 47 = .ok (.iaload, 1) := by decide +kernel
theorem dX1_reckon_48 : decode cX1_reckon 48 = .ok (.istore 5, 2) := by decide +kernel
theorem dX1_reckon_50 : decode cX1_reckon 50 = .ok (.aload_n 0, 1) := by decide +kernel
theorem dX1_reckon_51 : decode cX1_reckon 51 = .ok (.getfield 11, 3) := by decide +kernel
theorem dX1_reckon_54 : decode cX1_reckon 54 = .ok (.iload 4, 2) := by decide +kernel
theorem dX1_reckon_56 : decode cX1_reckon 56 = .ok (.aaload, 1) := by decide +kernel
theorem dX1_reckon_57 : decode cX1_reckon 57 = .ok (.iload 5, 2) := by decide +kernel
theorem dX1_reckon_59 : decode cX1_reckon 59 = .ok (.bipush 100, 2) := by decide +kernel
theorem dX1_reckon_61 : decode cX1_reckon 61 = .ok (.aload_n 2, 1) := by decide +kernel
theorem dX1_reckon_62 : decode cX1_reckon 62 = .ok (.getfield 47, 3) := by decide +kernel
theorem dX1_reckon_65 : decode cX1_reckon 65 = .ok (.iload_n 3, 1) := by decide +kernel
theorem dX1_reckon_66 : decode cX1_reckon 66 = .ok (.iaload, 1) := by decide +kernel
theorem dX1_reckon_67 : decode cX1_reckon 67 = .ok (.imul, 1) := by decide +kernel
theorem dX1_reckon_68 : decode cX1_reckon 68 = .ok (.bipush 10, 2) := by decide +kernel
theorem dX1_reckon_70 : decode cX1_reckon 70 = .ok (.aload_n 1, 1) := by decide +kernel
theorem dX1_reckon_71 : decode cX1_reckon 71 = .ok (.getfield 50, 3) := by decide +kernel
theorem dX1_reckon_74 : decode cX1_reckon 74 = .ok (.iload 5, 2) := by decide +kernel
theorem dX1_reckon_76 : decode cX1_reckon 76 = .ok (.iaload, 1) := by decide +kernel
theorem dX1_reckon_77 : decode cX1_reckon 77 = .ok (.imul, 1) := by decide +kernel
theorem dX1_reckon_78 : decode cX1_reckon 78 = .ok (.iadd, 1) := by decide +kernel
theorem dX1_reckon_79 : decode cX1_reckon 79 = .ok (.bipush 8, 2) := by decide +kernel
theorem dX1_reckon_81 : decode cX1_reckon 81 = .ok (.iadd, 1) := by decide +kernel
theorem dX1_reckon_82 : decode cX1_reckon 82 = .ok (.iload 5, 2) := by decide +kernel
theorem dX1_reckon_84 : decode cX1_reckon 84 = .ok (.isub, 1) := by decide +kernel
theorem dX1_reckon_85 : decode cX1_reckon 85 = .ok (.iastore, 1) := by decide +kernel
theorem dX1_reckon_86 : decode cX1_reckon 86 = .ok (.aload_n 0, 1) := by decide +kernel
theorem dX1_reckon_87 : decode cX1_reckon 87 = .ok (.getfield 11, 3) := by decide +kernel
theorem dX1_reckon_90 : decode cX1_reckon 90 = .ok (.iload 5, 2) := by decide +kernel
theorem dX1_reckon_92 : decode cX1_reckon 92 = .ok (.aaload, 1) := by decide +kernel
theorem dX1_reckon_93 : decode cX1_reckon 93 = .ok (.iload 4, 2) := by decide +kernel
theorem dX1_reckon_95 : decode cX1_reckon 95 = .ok (.bipush 100, 2) := by decide +kernel
theorem dX1_reckon_97 : decode cX1_reckon 97 = .ok (.aload_n 2, 1) := by decide +kernel
theorem dX1_reckon_98 : decode cX1_reckon 98 = .ok (.getfield 47, 3) := by decide +kernel
theorem dX1_reckon_101 : decode cX1_reckon 101 = .ok (.iload_n 3, 1) := by decide +kernel
theorem dX1_reckon_102 : decode cX1_reckon 102 = .ok (.iaload, 1) := by decide +kernel
theorem dX1_reckon_103 : decode cX1_reckon 103 = .ok (.imul, 1) := by decide +kernel
theorem dX1_reckon_104 : decode cX1_reckon 104 = .ok (.bipush 10, 2) := by decide +kernel
theorem dX1_reckon_106 : decode cX1_reckon 106 = .ok (.aload_n 1, 1) := by decide +kernel
theorem dX1_reckon_107 : decode cX1_reckon 107 = .ok (.getfield 50, 3) := by decide +kernel
theorem dX1_reckon_110 : decode cX1_reckon 110 = .ok (.iload 4, 2) := by decide +kernel
theorem dX1_reckon_112 : decode cX1_reckon 112 = .ok (.iaload, 1) := by decide +kernel
theorem dX1_reckon_113 : decode cX1_reckon 113 = .ok (.imul, 1) := by decide +kernel
theorem dX1_reckon_114 : decode cX1_reckon 114 = .ok (.iadd, 1) := by decide +kernel
theorem dX1_reckon_115 : decode cX1_reckon 115 = .ok (.bipush 8, 2) := by decide +kernel
theorem dX1_reckon_117 : decode cX1_reckon 117 = .ok (.iadd, 1) := by decide +kernel
theorem dX1_reckon_118 : decode cX1_reckon 118 = .ok (.iload 4, 2) := by decide +kernel
theorem dX1_reckon_120 : decode cX1_reckon 120 = .ok (.isub, 1) := by decide +kernel
theorem dX1_reckon_121 : decode cX1_reckon 121 = .ok (.iastore, 1) := by decide +kernel
theorem dX1_reckon_122 : decode cX1_reckon 122 = .ok (.iinc 3 1, 3) := by decide +kernel
theorem dX1_reckon_125 : decode cX1_reckon 125 = .ok (.goto (-99), 3) := by decide +kernel
theorem dX1_reckon_128 : decode cX1_reckon 128 = .ok (.aload_n 0, 1) := by decide +kernel
theorem dX1_reckon_129 : decode cX1_reckon 129 = .ok (.getfield 20, 3) := by decide +kernel
theorem dX1_reckon_132 : decode cX1_reckon 132 = .ok (.iconst (-1), 1) := by decide +kernel
theorem dX1_reckon_133 : decode cX1_reckon 133 = .ok (.invokestatic 30, 3) := by decide +kernel
theorem dX1_reckon_136 : decode cX1_reckon 136 = .ok (.aload_n 0, 1) := by decide +kernel
theorem dX1_reckon_137 : decode cX1_reckon 137 = .ok (.aload_n 2, 1) := by decide +kernel
theorem dX1_reckon_138 : decode cX1_reckon 138 = .ok (.invokevirtual 55, 3) := by decide +kernel
theorem dX1_reckon_141 : decode cX1_reckon 141 = .ok (.iconst 0, 1) := by decide +kernel
theorem dX1_reckon_142 : decode cX1_reckon 142 = .ok (.istore_n 3, 1) := by decide +kernel
theorem dX1_reckon_143 : decode cX1_reckon 143 = .ok (.iload_n 3, 1) := by decide +kernel
theorem dX1_reckon_144 : decode cX1_reckon 144 = .ok (.bipush 8, 2) := by decide +kernel
theorem dX1_reckon_146 : decode cX1_reckon 146 = .ok (.if_icmp .ge 36, 3) := by decide +kernel
theorem dX1_reckon_149 : decode cX1_reckon 149 = .ok (.aload_n 0, 1) := by decide +kernel
theorem dX1_reckon_150 : decode cX1_reckon 150 = .ok (.getfield 16, 3) := by decide +kernel
theorem dX1_reckon_153 : decode cX1_reckon 153 = .ok (.iload_n 3, 1) := by decide +kernel
theorem dX1_reckon_154 : decode cX1_reckon 154 = .ok (.aload_n 0, 1) := by decide +kernel
theorem dX1_reckon_155 : decode cX1_reckon 155 = .ok (.getfield 20, 3) := by decide +kernel
theorem dX1_reckon_158 : decode cX1_reckon 158 = .ok (.iload_n 3, 1) := by decide +kernel
theorem dX1_reckon_159 : decode cX1_reckon 159 = .ok (.iaload, 1) := by decide +kernel
theorem dX1_reckon_160 : decode cX1_reckon 160 = .ok (.iconst (-1), 1) := by decide +kernel
theorem dX1_reckon_161 : decode cX1_reckon 161 = .ok (.if_icmp .ne 8, 3) := by decide +kernel
theorem dX1_reckon_164 : decode cX1_reckon 164 = .ok (.bipush (-9), 2) := by decide +kernel
theorem dX1_reckon_166 : decode cX1_reckon 166 = .ok (.goto 9, 3) := by decide +kernel
theorem dX1_reckon_169 : decode cX1_reckon 169 = .ok (.aload_n 0, 1) := by decide +kernel
theorem dX1_reckon_170 : decode cX1_reckon 170 = .ok (.getfield 20, 3) := by decide +kernel
theorem dX1_reckon_173 : decode cX1_reckon 173 = .ok (.iload_n 3, 1) := by decide +kernel
theorem dX1_reckon_174 : decode cX1_reckon 174 = .ok (.iaload, 1) := by decide +kernel
theorem dX1_reckon_175 : decode cX1_reckon 175 = .ok (.iastore, 1) := by decide +kernel
theorem dX1_reckon_176 : decode cX1_reckon 176 = .ok (.iinc 3 1, 3) := by decide +kernel
theorem dX1_reckon_179 : decode cX1_reckon 179 = .ok (.goto (-36), 3) := by decide +kernel
theorem dX1_reckon_182 : decode cX1_reckon 182 = .ok (.aload_n 0, 1) := by decide +kernel
theorem dX1_reckon_183 : decode cX1_reckon 183 = .ok (.getfield 20, 3) := by decide +kernel
theorem dX1_reckon_186 : decode cX1_reckon 186 = .ok (.iconst (-1), 1) := by decide +kernel
theorem dX1_reckon_187 : decode cX1_reckon 187 = .ok (.invokestatic 30, 3) := by decide +kernel
theorem dX1_reckon_190 : decode cX1_reckon 190 = .ok (.aload_n 0, 1) := by decide +kernel
theorem dX1_reckon_191 : decode cX1_reckon 191 = .ok (.aload_n 0, 1) := by decide +kernel
theorem dX1_reckon_192 : decode cX1_reckon 192 = .ok (.aload_n 2, 1) := by decide +kernel
theorem dX1_reckon_193 : decode cX1_reckon 193 = .ok (.iconst 0, 1) := by decide +kernel
theorem dX1_reckon_194 : decode cX1_reckon 194 = .ok (.invokestatic 59, 3) := by decide +kernel
theorem dX1_reckon_197 : decode cX1_reckon 197 = .ok (.putfield 26, 3) := by decide +kernel
theorem dX1_reckon_200 : decode cX1_reckon 200 = .ok (.return_, 1) := by decide +kernel
set_option maxRecDepth 20000 in
theorem ggX1_askAll_J7_fill_53178 : GoodIn wsX1_askAll wsJ7_fill_53178 := goodIn_r _ [8] (by decide +kernel) (by decide +kernel)
set_option maxRecDepth 20000 in
theorem gX1_askAll_J7_fill_53178 : GoodIn wsX1_askAll (va_wsS RX1 30 yJ7_fill_53178 wsJ7_fill_53178) := goodIn_app (goodIn_of _ (by decide +kernel)) ggX1_askAll_J7_fill_53178
set_option maxRecDepth 20000 in
theorem ggX1_askAll_X1_askNext : GoodIn wsX1_askAll wsX1_askNext := goodIn_r _ [13, 1, 14, 4, 15, 16, 17, 12, 18, 19, 20, 21, 22, 23] (by decide +kernel) (by decide +kernel)
set_option maxRecDepth 20000 in
theorem gX1_askAll_X1_askNext : GoodIn wsX1_askAll (wsV RX1 66 RX1 yX1_askNext wsX1_askNext) := goodIn_app (goodIn_of _ (by decide +kernel)) ggX1_askAll_X1_askNext
theorem dX1_askAll_0 : decode cX1_askAll 0 = .ok (.aload_n 0, 1) := by decide +kernel
theorem dX1_askAll_1 : decode cX1_askAll 1 = .ok (.getfield 23, 3) := by decide +kernel
theorem dX1_askAll_4 : decode cX1_askAll 4 = .ok (.iconst 0, 1) := by decide +kernel
theorem dX1_askAll_5 : decode cX1_askAll 5 = .ok (.invokestatic 30, 3) := by decide +kernel
theorem dX1_askAll_8 : decode cX1_askAll 8 = .ok (.iconst 0, 1) := by decide +kernel
theorem dX1_askAll_9 : decode cX1_askAll 9 = .ok (.istore_n 2, 1) := by decide +kernel
theorem dX1_askAll_10 : decode cX1_askAll 10 = .ok (.iload_n 2, 1) := by decide +kernel
theorem dX1_askAll_11 : decode cX1_askAll 11 = .ok (.aload_n 1, 1) := by decide +kernel
theorem dX1_askAll_12 : decode cX1_askAll 12 = .ok (.getfield 36, 3) := by decide +kernel
theorem dX1_askAll_15 : decode cX1_askAll 15 = .ok (.if_icmp .gt 49, 3) := by decide +kernel
theorem dX1_askAll_18 : decode cX1_askAll 18 = .ok (.iconst 0, 1) := by decide +kernel
theorem dX1_askAll_19 : decode cX1_askAll 19 = .ok (.istore_n 3, 1) := by decide +kernel
theorem dX1_askAll_20 : decode cX1_askAll 20 = .ok (.iload_n 3, 1) := by decide +kernel
theorem dX1_askAll_21 : decode cX1_askAll 21 = .ok (.bipush 8, 2) := by decide +kernel
theorem dX1_askAll_23 : decode cX1_askAll 23 = .ok (.if_icmp .ge 35, 3) := by decide +kernel
theorem dX1_askAll_26 : decode cX1_askAll 26 = .ok (.aload_n 1, 1) := by decide +kernel
theorem dX1_askAll_27 : decode cX1_askAll 27 = .ok (.getfield 63, 3) := by decide +kernel
theorem dX1_askAll_30 : decode cX1_askAll 30 = .ok (.iload_n 3, 1) := by decide +kernel
theorem dX1_askAll_31 : decode cX1_askAll 31 = .ok (.ishr, 1) := by decide +kernel
theorem dX1_askAll_32 : decode cX1_askAll 32 = .ok (.iconst 1, 1) := by decide +kernel
theorem dX1_askAll_33 : decode cX1_askAll 33 = .ok (.iand, 1) := by decide +kernel
theorem dX1_askAll_34 : decode cX1_askAll 34 = .ok (.ifCond .eq 18, 3) := by decide +kernel
theorem dX1_askAll_37 : decode cX1_askAll 37 = .ok (.aload_n 0, 1) := by decide +kernel
theorem dX1_askAll_38 : decode cX1_askAll 38 = .ok (.getfield 20, 3) := by decide +kernel
theorem dX1_askAll_41 : decode cX1_askAll 41 = .ok (.iload_n 3, 1) := by decide +kernel
theorem dX1_askAll_42 : decode cX1_askAll 42 = .ok (.iaload, 1) := by decide +kernel
theorem dX1_askAll_43 : decode cX1_askAll 43 = .ok (.iconst (-1), 1) := by decide +kernel
theorem dX1_askAll_44 : decode cX1_askAll 44 = .ok (.if_icmp .ne 8, 3) := by decide +kernel
theorem dX1_askAll_47 : decode cX1_askAll 47 = .ok (.aload_n 0, 1) := by decide +kernel
theorem dX1_askAll_48 : decode cX1_askAll 48 = .ok (.iload_n 3, 1) := by decide +kernel
theorem dX1_askAll_49 : decode cX1_askAll 49 = .ok (.invokevirtual 66, 3) := by decide +kernel
theorem dX1_askAll_52 : decode cX1_askAll 52 = .ok (.iinc 3 1, 3) := by decide +kernel
theorem dX1_askAll_55 : decode cX1_askAll 55 = .ok (.goto (-35), 3) := by decide +kernel
theorem dX1_askAll_58 : decode cX1_askAll 58 = .ok (.iinc 2 1, 3) := by decide +kernel
theorem dX1_askAll_61 : decode cX1_askAll 61 = .ok (.goto (-51), 3) := by decide +kernel
theorem dX1_askAll_64 : decode cX1_askAll 64 = .ok (.return_, 1) := by decide +kernel
set_option maxRecDepth 20000 in
theorem ggX1_askNext_X1_ratherHas : GoodIn wsX1_askNext wsX1_ratherHas := goodIn_r _ [8, 3, 2, 9, 10, 11, 12, 13] (by decide +kernel) (by decide +kernel)
set_option maxRecDepth 20000 in
theorem gX1_askNext_X1_ratherHas : GoodIn wsX1_askNext (wsV RX1 70 RX1 yX1_ratherHas wsX1_ratherHas) := goodIn_app (goodIn_of _ (by decide +kernel)) ggX1_askNext_X1_ratherHas
theorem dX1_askNext_0 : decode cX1_askNext 0 = .ok (.iconst (-1), 1) := by decide +kernel
theorem dX1_askNext_1 : decode cX1_askNext 1 = .ok (.istore_n 2, 1) := by decide +kernel
theorem dX1_askNext_2 : decode cX1_askNext 2 = .ok (.iconst 0, 1) := by decide +kernel
theorem dX1_askNext_3 : decode cX1_askNext 3 = .ok (.istore_n 3, 1) := by decide +kernel
theorem dX1_askNext_4 : decode cX1_askNext 4 = .ok (.iload_n 3, 1) := by decide +kernel
theorem dX1_askNext_5 : decode cX1_askNext 5 = .ok (.bipush 8, 2) := by decide +kernel
theorem dX1_askNext_7 : decode cX1_askNext 7 = .ok (.if_icmp .ge 59, 3) := by decide +kernel
theorem dX1_askNext_10 : decode cX1_askNext 10 = .ok (.aload_n 0, 1) := by decide +kernel
theorem dX1_askNext_11 : decode cX1_askNext 11 = .ok (.getfield 23, 3) := by decide +kernel
theorem dX1_askNext_14 : decode cX1_askNext 14 = .ok (.iload_n 1, 1) := by decide +kernel
theorem dX1_askNext_15 : decode cX1_askNext 15 = .ok (.iaload, 1) := by decide +kernel
theorem dX1_askNext_16 : decode cX1_askNext 16 = .ok (.iload_n 3, 1) := by decide +kernel
theorem dX1_askNext_17 : decode cX1_askNext 17 = .ok (.ishr, 1) := by decide +kernel
theorem dX1_askNext_18 : decode cX1_askNext 18 = .ok (.iconst 1, 1) := by decide +kernel
theorem dX1_askNext_19 : decode cX1_askNext 19 = .ok (.iand, 1) := by decide +kernel
theorem dX1_askNext_20 : decode cX1_askNext 20 = .ok (.ifCond .ne 40, 3) := by decide +kernel
theorem dX1_askNext_23 : decode cX1_askNext 23 = .ok (.aload_n 0, 1) := by decide +kernel
theorem dX1_askNext_24 : decode cX1_askNext 24 = .ok (.getfield 11, 3) := by decide +kernel
theorem dX1_askNext_27 : decode cX1_askNext 27 = .ok (.iload_n 1, 1) := by decide +kernel
theorem dX1_askNext_28 : decode cX1_askNext 28 = .ok (.aaload, 1) := by decide +kernel
theorem dX1_askNext_29 : decode cX1_askNext 29 = .ok (.iload_n 3, 1) := by decide +kernel
theorem dX1_askNext_30 : decode cX1_askNext 30 = .ok (.iaload, 1) := by decide +kernel
theorem dX1_askNext_31 : decode cX1_askNext 31 = .ok (.ifCond .le 29, 3) := by decide +kernel
theorem dX1_askNext_34 : decode cX1_askNext 34 = .ok (.iload_n 2, 1) := by decide +kernel
theorem dX1_askNext_35 : decode cX1_askNext 35 = .ok (.iconst (-1), 1) := by decide +kernel
theorem dX1_askNext_36 : decode cX1_askNext 36 = .ok (.if_icmp .eq 22, 3) := by decide +kernel
theorem dX1_askNext_39 : decode cX1_askNext 39 = .ok (.aload_n 0, 1) := by decide +kernel
theorem dX1_askNext_40 : decode cX1_askNext 40 = .ok (.getfield 11, 3) := by decide +kernel
theorem dX1_askNext_43 : decode cX1_askNext 43 = .ok (.iload_n 1, 1) := by decide +kernel
theorem dX1_askNext_44 : decode cX1_askNext 44 = .ok (.aaload, 1) := by decide +kernel
theorem dX1_askNext_45 : decode cX1_askNext 45 = .ok (.iload_n 3, 1) := by decide +kernel
theorem dX1_askNext_46 : decode cX1_askNext 46 = .ok (.iaload, 1) := by decide +kernel
theorem dX1_askNext_47 : decode cX1_askNext 47 = .ok (.aload_n 0, 1) := by decide +kernel
theorem dX1_askNext_48 : decode cX1_askNext 48 = .ok (.getfield 11, 3) := by decide +kernel
theorem dX1_askNext_51 : decode cX1_askNext 51 = .ok (.iload_n 1, 1) := by decide +kernel
theorem dX1_askNext_52 : decode cX1_askNext 52 = .ok (.aaload, 1) := by decide +kernel
theorem dX1_askNext_53 : decode cX1_askNext 53 = .ok (.iload_n 2, 1) := by decide +kernel
theorem dX1_askNext_54 : decode cX1_askNext 54 = .ok (.iaload, 1) := by decide +kernel
theorem dX1_askNext_55 : decode cX1_askNext 55 = .ok (.if_icmp .le 5, 3) := by decide +kernel
theorem dX1_askNext_58 : decode cX1_askNext 58 = .ok (.iload_n 3, 1) := by decide +kernel
theorem dX1_askNext_59 : decode cX1_askNext 59 = .ok (.istore_n 2, 1) := by decide +kernel
theorem dX1_askNext_60 : decode cX1_askNext 60 = .ok (.iinc 3 1, 3) := by decide +kernel
theorem dX1_askNext_63 : decode cX1_askNext 63 = .ok (.goto (-59), 3) := by decide +kernel
theorem dX1_askNext_66 : decode cX1_askNext 66 = .ok (.iload_n 2, 1) := by decide +kernel
theorem dX1_askNext_67 : decode cX1_askNext 67 = .ok (.iconst (-1), 1) := by decide +kernel
theorem dX1_askNext_68 : decode cX1_askNext 68 = .ok (.if_icmp .ne 4, 3) := by decide +kernel
theorem dX1_askNext_71 : decode cX1_askNext 71 = .ok (.return_, 1) := by decide +kernel
theorem dX1_askNext_72 : decode cX1_askNext 72 = .ok (.aload_n 0, 1) := by decide +kernel
theorem dX1_askNext_73 : decode cX1_askNext 73 = .ok (.getfield 23, 3) := by decide +kernel
theorem dX1_askNext_76 : decode cX1_askNext 76 = .ok (.iload_n 1, 1) := by decide +kernel
theorem dX1_askNext_77 : decode cX1_askNext 77 = .ok (.dup2, 1) := by decide +kernel
theorem dX1_askNext_78 : decode cX1_askNext 78 = .ok (.iaload, 1) := by decide +kernel
theorem dX1_askNext_79 : decode cX1_askNext 79 = .ok (.iconst 1, 1) := by decide +kernel
theorem dX1_askNext_80 : decode cX1_askNext 80 = .ok (.iload_n 2, 1) := by decide +kernel
theorem dX1_askNext_81 : decode cX1_askNext 81 = .ok (.ishl, 1) := by decide +kernel
theorem dX1_askNext_82 : decode cX1_askNext 82 = .ok (.ior, 1) := by decide +kernel
theorem dX1_askNext_83 : decode cX1_askNext 83 = .ok (.iastore, 1) := by decide +kernel
theorem dX1_askNext_84 : decode cX1_askNext 84 = .ok (.aload_n 0, 1) := by decide +kernel
theorem dX1_askNext_85 : decode cX1_askNext 85 = .ok (.iload_n 2, 1) := by decide +kernel
theorem dX1_askNext_86 : decode cX1_askNext 86 = .ok (.iload_n 1, 1) := by decide +kernel
theorem dX1_askNext_87 : decode cX1_askNext 87 = .ok (.invokevirtual 70, 3) := by decide +kernel
theorem dX1_askNext_90 : decode cX1_askNext 90 = .ok (.ifCond .eq 36, 3) := by decide +kernel
theorem dX1_askNext_93 : decode cX1_askNext 93 = .ok (.aload_n 0, 1) := by decide +kernel
theorem dX1_askNext_94 : decode cX1_askNext 94 = .ok (.getfield 20, 3) := by decide +kernel
theorem dX1_askNext_97 : decode cX1_askNext 97 = .ok (.iload_n 2, 1) := by decide +kernel
theorem dX1_askNext_98 : decode cX1_askNext 98 = .ok (.iaload, 1) := by decide +kernel
theorem dX1_askNext_99 : decode cX1_askNext 99 = .ok (.istore_n 3, 1) := by decide +kernel
theorem dX1_askNext_100 : decode cX1_askNext 100 = .ok (.iload_n 3, 1) := by decide +kernel
theorem dX1_askNext_101 : decode cX1_askNext 101 = .ok (.iconst (-1), 1) := by decide +kernel
theorem dX1_askNext_102 : decode cX1_askNext 102 = .ok (.if_icmp .eq 10, 3) := by decide +kernel
theorem dX1_askNext_105 : decode cX1_askNext 105 = .ok (.aload_n 0, 1) := by decide +kernel
theorem dX1_askNext_106 : decode cX1_askNext 106 = .ok (.getfield 20, 3) := by decide +kernel
theorem dX1_askNext_109 : decode cX1_askNext 109 = .ok (.iload_n 3, 1) := by decide +kernel
theorem dX1_askNext_110 : decode cX1_askNext 110 = .ok (.iconst (-1), 1) := by decide +kernel
theorem dX1_askNext_111 : decode cX1_askNext 111 = .ok (.iastore, 1) := by decide +kernel
theorem dX1_askNext_112 : decode cX1_askNext 112 = .ok (.aload_n 0, 1) := by decide +kernel
theorem dX1_askNext_113 : decode cX1_askNext 113 = .ok (.getfield 20, 3) := by decide +kernel
theorem dX1_askNext_116 : decode cX1_askNext 116 = .ok (.iload_n 2, 1) := by decide +kernel
theorem dX1_askNext_117 : decode cX1_askNext 117 = .ok (.iload_n 1, 1) := by decide +kernel
theorem dX1_askNext_118 : decode cX1_askNext 118 = .ok (.iastore, 1) := by decide +kernel
theorem dX1_askNext_119 : decode cX1_askNext 119 = .ok (.aload_n 0, 1) := by decide +kernel
theorem dX1_askNext_120 : decode cX1_askNext 120 = .ok (.getfield 20, 3) := by decide +kernel
theorem dX1_askNext_123 : decode cX1_askNext 123 = .ok (.iload_n 1, 1) := by decide +kernel
theorem dX1_askNext_124 : decode cX1_askNext 124 = .ok (.iload_n 2, 1) := by decide +kernel
theorem dX1_askNext_125 : decode cX1_askNext 125 = .ok (.iastore, 1) := by decide +kernel
theorem dX1_askNext_126 : decode cX1_askNext 126 = .ok (.return_, 1) := by decide +kernel
theorem dX1_ratherHas_0 : decode cX1_ratherHas 0 = .ok (.aload_n 0, 1) := by decide +kernel
theorem dX1_ratherHas_1 : decode cX1_ratherHas 1 = .ok (.getfield 20, 3) := by decide +kernel
theorem dX1_ratherHas_4 : decode cX1_ratherHas 4 = .ok (.iload_n 1, 1) := by decide +kernel
theorem dX1_ratherHas_5 : decode cX1_ratherHas 5 = .ok (.iaload, 1) := by decide +kernel
theorem dX1_ratherHas_6 : decode cX1_ratherHas 6 = .ok (.istore_n 3, 1) := by decide +kernel
theorem dX1_ratherHas_7 : decode cX1_ratherHas 7 = .ok (.aload_n 0, 1) := by decide +kernel
theorem dX1_ratherHas_8 : decode cX1_ratherHas 8 = .ok (.getfield 11, 3) := by decide +kernel
theorem dX1_ratherHas_11 : decode cX1_ratherHas 11 = .ok (.iload_n 1, 1) := by decide +kernel
theorem dX1_ratherHas_12 : decode cX1_ratherHas 12 = .ok (.aaload, 1) := by decide +kernel
theorem dX1_ratherHas_13 : decode cX1_ratherHas 13 = .ok (.iload_n 2, 1) := by decide +kernel
theorem dX1_ratherHas_14 : decode cX1_ratherHas 14 = .ok (.iaload, 1) := by decide +kernel
theorem dX1_ratherHas_15 : decode cX1_ratherHas 15 = .ok (.iload_n 3, 1) := by decide +kernel
theorem dX1_ratherHas_16 : decode cX1_ratherHas 16 = .ok (.iconst (-1), 1) := by decide +kernel
theorem dX1_ratherHas_17 : decode cX1_ratherHas 17 = .ok (.if_icmp .ne 7, 3) := by decide +kernel
theorem dX1_ratherHas_20 : decode cX1_ratherHas 20 = .ok (.iconst 0, 1) := by decide +kernel
theorem dX1_ratherHas_21 : decode cX1_ratherHas 21 = .ok (.goto 11, 3) := by decide +kernel
theorem dX1_ratherHas_24 : decode cX1_ratherHas 24 = .ok (.aload_n 0, 1) := by decide +kernel
theorem dX1_ratherHas_25 : decode cX1_ratherHas 25 = .ok (.getfield 11, 3) := by decide +kernel
theorem dX1_ratherHas_28 : decode cX1_ratherHas 28 = .ok (.iload_n 1, 1) := by decide +kernel
theorem dX1_ratherHas_29 : decode cX1_ratherHas 29 = .ok (.aaload, 1) := by decide +kernel
theorem dX1_ratherHas_30 : decode cX1_ratherHas 30 = .ok (.iload_n 3, 1) := by decide +kernel
theorem dX1_ratherHas_31 : decode cX1_ratherHas 31 = .ok (.iaload, 1) := by decide +kernel
theorem dX1_ratherHas_32 : decode cX1_ratherHas 32 = .ok (.if_icmp .le 7, 3) := by decide +kernel
theorem dX1_ratherHas_35 : decode cX1_ratherHas 35 = .ok (.iconst 1, 1) := by decide +kernel
theorem dX1_ratherHas_36 : decode cX1_ratherHas 36 = .ok (.goto 4, 3) := by decide +kernel
theorem dX1_ratherHas_39 : decode cX1_ratherHas 39 = .ok (.iconst 0, 1) := by decide +kernel
theorem dX1_ratherHas_40 : decode cX1_ratherHas 40 = .ok (.ireturn, 1) := by decide +kernel
set_option maxRecDepth 20000 in
theorem ggX1_isRest_X1_ratherHas : GoodIn wsX1_isRest wsX1_ratherHas := goodIn_r _ [8, 9, 10, 19, 20, 21, 22, 23] (by decide +kernel) (by decide +kernel)
set_option maxRecDepth 20000 in
theorem gX1_isRest_X1_ratherHas : GoodIn wsX1_isRest (wsV RX1 70 RX1 yX1_ratherHas wsX1_ratherHas) := goodIn_app (goodIn_of _ (by decide +kernel)) ggX1_isRest_X1_ratherHas
theorem dX1_isRest_0 : decode cX1_isRest 0 = .ok (.iconst 0, 1) := by decide +kernel
theorem dX1_isRest_1 : decode cX1_isRest 1 = .ok (.istore_n 2, 1) := by decide +kernel
theorem dX1_isRest_2 : decode cX1_isRest 2 = .ok (.iload_n 2, 1) := by decide +kernel
theorem dX1_isRest_3 : decode cX1_isRest 3 = .ok (.aload_n 1, 1) := by decide +kernel
theorem dX1_isRest_4 : decode cX1_isRest 4 = .ok (.getfield 36, 3) := by decide +kernel
theorem dX1_isRest_7 : decode cX1_isRest 7 = .ok (.if_icmp .ge 46, 3) := by decide +kernel
theorem dX1_isRest_10 : decode cX1_isRest 10 = .ok (.aload_n 1, 1) := by decide +kernel
theorem dX1_isRest_11 : decode cX1_isRest 11 = .ok (.getfield 41, 3) := by decide +kernel
theorem dX1_isRest_14 : decode cX1_isRest 14 = .ok (.iload_n 2, 1) := by decide +kernel
theorem dX1_isRest_15 : decode cX1_isRest 15 = .ok (.iaload, 1) := by decide +kernel
theorem dX1_isRest_16 : decode cX1_isRest 16 = .ok (.istore_n 3, 1) := by decide +kernel
theorem dX1_isRest_17 : decode cX1_isRest 17 = .ok (.aload_n 1, 1) := by decide +kernel
theorem dX1_isRest_18 : decode cX1_isRest 18 = .ok (.getfield 44, 3) := by decide +kernel
theorem dX1_isRest_21 : decode cX1_isRest 21 = .ok (.iload_n 2, 1) := by decide +kernel
theorem dX1_isRest_22 : decode cX1_isRest 22 = .ok (.iaload, 1) := by decide +kernel
theorem dX1_isRest_23 : decode cX1_isRest 23 = .ok (.istore 4, 2) := by decide +kernel
theorem dX1_isRest_25 : decode cX1_isRest 25 = .ok (.aload_n 0, 1) := by decide +kernel
theorem dX1_isRest_26 : decode cX1_isRest 26 = .ok (.iload_n 3, 1) := by decide +kernel
theorem dX1_isRest_27 : decode cX1_isRest 27 = .ok (.iload 4, 2) := by decide +kernel
theorem dX1_isRest_29 : decode cX1_isRest 29 = .ok (.invokevirtual 70, 3) := by decide +kernel
theorem dX1_isRest_32 : decode cX1_isRest 32 = .ok (.ifCond .eq 15, 3) := by decide +kernel
theorem dX1_isRest_35 : decode cX1_isRest 35 = .ok (.aload_n 0, 1) := by decide +kernel
theorem dX1_isRest_36 : decode cX1_isRest 36 = .ok (.iload 4, 2) := by decide +kernel
theorem dX1_isRest_38 : decode cX1_isRest 38 = .ok (.iload_n 3, 1) := by decide +kernel
theorem dX1_isRest_39 : decode cX1_isRest 39 = .ok (.invokevirtual 70, 3) := by decide +kernel
theorem dX1_isRest_42 : decode cX1_isRest 42 = .ok (.ifCond .eq 5, 3) := by decide +kernel
theorem dX1_isRest_45 : decode cX1_isRest 45 = .ok (.iconst 0, 1) := by decide +kernel
theorem dX1_isRest_46 : decode cX1_isRest 46 = .ok (.ireturn, 1) := by decide +kernel
theorem dX1_isRest_47 : decode cX1_isRest 47 = .ok (.iinc 2 1, 3) := by decide +kernel
theorem dX1_isRest_50 : decode cX1_isRest 50 = .ok (.goto (-48), 3) := by decide +kernel
theorem dX1_isRest_53 : decode cX1_isRest 53 = .ok (.iconst 1, 1) := by decide +kernel
theorem dX1_isRest_54 : decode cX1_isRest 54 = .ok (.ireturn, 1) := by decide +kernel
theorem dX2_init_0 : decode cX2_init 0 = .ok (.aload_n 0, 1) := by decide +kernel
theorem dX2_init_1 : decode cX2_init 1 = .ok (.invokespecial 3, 3) := by decide +kernel
theorem dX2_init_4 : decode cX2_init 4 = .ok (.aload_n 0, 1) := by decide +kernel
theorem dX2_init_5 : decode cX2_init 5 = .ok (.iconst 0, 1) := by decide +kernel
theorem dX2_init_6 : decode cX2_init 6 = .ok (.putfield 9, 3) := by decide +kernel
theorem dX2_init_9 : decode cX2_init 9 = .ok (.aload_n 0, 1) := by decide +kernel
theorem dX2_init_10 : decode cX2_init 10 = .ok (.iconst 0, 1) := by decide +kernel
theorem dX2_init_11 : decode cX2_init 11 = .ok (.putfield 15, 3) := by decide +kernel
theorem dX2_init_14 : decode cX2_init 14 = .ok (.aload_n 0, 1) := by decide +kernel
theorem dX2_init_15 : decode cX2_init 15 = .ok (.iconst 0, 1) := by decide +kernel
theorem dX2_init_16 : decode cX2_init 16 = .ok (.putfield 18, 3) := by decide +kernel
theorem dX2_init_19 : decode cX2_init 19 = .ok (.aload_n 0, 1) := by decide +kernel
theorem dX2_init_20 : decode cX2_init 20 = .ok (.iconst 0, 1) := by decide +kernel
theorem dX2_init_21 : decode cX2_init 21 = .ok (.putfield 21, 3) := by decide +kernel
theorem dX2_init_24 : decode cX2_init 24 = .ok (.aload_n 0, 1) := by decide +kernel
theorem dX2_init_25 : decode cX2_init 25 = .ok (.iconst 0, 1) := by decide +kernel
theorem dX2_init_26 : decode cX2_init 26 = .ok (.putfield 24, 3) := by decide +kernel
theorem dX2_init_29 : decode cX2_init 29 = .ok (.aload_n 0, 1) := by decide +kernel
theorem dX2_init_30 : decode cX2_init 30 = .ok (.iconst 0, 1) := by decide +kernel
theorem dX2_init_31 : decode cX2_init 31 = .ok (.putfield 27, 3) := by decide +kernel
theorem dX2_init_34 : decode cX2_init 34 = .ok (.aload_n 0, 1) := by decide +kernel
theorem dX2_init_35 : decode cX2_init 35 = .ok (.iconst 5, 1) := by decide +kernel
theorem dX2_init_36 : decode cX2_init 36 = .ok (.newarray .int, 2) := by decide +kernel
theorem dX2_init_38 : decode cX2_init 38 = .ok (.putfield 30, 3) := by decide +kernel
theorem dX2_init_41 : decode cX2_init 41 = .ok (.return_, 1) := by decide +kernel
theorem dX2_begin_0 : decode cX2_begin 0 = .ok (.aload_n 0, 1) := by decide +kernel
theorem dX2_begin_1 : decode cX2_begin 1 = .ok (.iconst 0, 1) := by decide +kernel
theorem dX2_begin_2 : decode cX2_begin 2 = .ok (.putfield 9, 3) := by decide +kernel
theorem dX2_begin_5 : decode cX2_begin 5 = .ok (.aload_n 0, 1) := by decide +kernel
theorem dX2_begin_6 : decode cX2_begin 6 = .ok (.iconst 0, 1) := by decide +kernel
theorem dX2_begin_7 : decode cX2_begin 7 = .ok (.putfield 15, 3) := by decide +kernel
theorem dX2_begin_10 : decode cX2_begin 10 = .ok (.aload_n 0, 1) := by decide +kernel
theorem dX2_begin_11 : decode cX2_begin 11 = .ok (.iconst 0, 1) := by decide +kernel
theorem dX2_begin_12 : decode cX2_begin 12 = .ok (.putfield 18, 3) := by decide +kernel
theorem dX2_begin_15 : decode cX2_begin 15 = .ok (.aload_n 0, 1) := by decide +kernel
theorem dX2_begin_16 : decode cX2_begin 16 = .ok (.iconst 0, 1) := by decide +kernel
theorem dX2_begin_17 : decode cX2_begin 17 = .ok (.putfield 21, 3) := by decide +kernel
theorem dX2_begin_20 : decode cX2_begin 20 = .ok (.aload_n 0, 1) := by decide +kernel
theorem dX2_begin_21 : decode cX2_begin 21 = .ok (.iconst 0, 1) := by decide +kernel
theorem dX2_begin_22 : decode cX2_begin 22 = .ok (.putfield 24, 3) := by decide +kernel
theorem dX2_begin_25 : decode cX2_begin 25 = .ok (.return_, 1) := by decide +kernel
theorem dX2_bearAsTold_0 : decode cX2_bearAsTold 0 = .ok (.iconst 0, 1) := by decide +kernel
theorem dX2_bearAsTold_1 : decode cX2_bearAsTold 1 = .ok (.istore_n 2, 1) := by decide +kernel
theorem dX2_bearAsTold_2 : decode cX2_bearAsTold 2 = .ok (.iload_n 2, 1) := by decide +kernel
theorem dX2_bearAsTold_3 : decode cX2_bearAsTold 3 = .ok (.aload_n 1, 1) := by decide +kernel
theorem dX2_bearAsTold_4 : decode cX2_bearAsTold 4 = .ok (.getfield 34, 3) := by decide +kernel
theorem dX2_bearAsTold_7 : decode cX2_bearAsTold 7 = .ok (.if_icmp .ge 21, 3) := by decide +kernel
theorem dX2_bearAsTold_10 : decode cX2_bearAsTold 10 = .ok (.aload_n 0, 1) := by decide +kernel
theorem dX2_bearAsTold_11 : decode cX2_bearAsTold 11 = .ok (.getfield 30, 3) := by decide +kernel
theorem dX2_bearAsTold_14 : decode cX2_bearAsTold 14 = .ok (.iload_n 2, 1) := by decide +kernel
theorem dX2_bearAsTold_15 : decode cX2_bearAsTold 15 = .ok (.aload_n 1, 1) := by decide +kernel
theorem dX2_bearAsTold_16 : decode cX2_bearAsTold 16 = .ok (.getfield 39, 3) := by decide +kernel
theorem dX2_bearAsTold_19 : decode cX2_bearAsTold 19 = .ok (.iload_n 2, 1) := by decide +kernel
theorem dX2_bearAsTold_20 : decode cX2_bearAsTold 20 = .ok (.iaload, 1) := by decide +kernel
theorem dX2_bearAsTold_21 : decode cX2_bearAsTold 21 = .ok (.iastore, 1) := by decide +kernel
theorem dX2_bearAsTold_22 : decode cX2_bearAsTold 22 = .ok (.iinc 2 1, 3) := by decide +kernel
theorem dX2_bearAsTold_25 : decode cX2_bearAsTold 25 = .ok (.goto (-23), 3) := by decide +kernel
theorem dX2_bearAsTold_28 : decode cX2_bearAsTold 28 = .ok (.return_, 1) := by decide +kernel
theorem dX2_blossom_0 : decode cX2_blossom 0 = .ok (.iconst 0, 1) := by decide +kernel
theorem dX2_blossom_1 : decode cX2_blossom 1 = .ok (.istore_n 2, 1) := by decide +kernel
theorem dX2_blossom_2 : decode cX2_blossom 2 = .ok (.iload_n 2, 1) := by decide +kernel
theorem dX2_blossom_3 : decode cX2_blossom 3 = .ok (.aload_n 1, 1) := by decide +kernel
theorem dX2_blossom_4 : decode cX2_blossom 4 = .ok (.getfield 34, 3) := by decide +kernel
theorem dX2_blossom_7 : decode cX2_blossom 7 = .ok (.if_icmp .ge 52, 3) := by decide +kernel
theorem dX2_blossom_10 : decode cX2_blossom 10 = .ok (.aload_n 0, 1) := by decide +kernel
theorem dX2_blossom_11 : decode cX2_blossom 11 = .ok (.aload_n 0, 1) := by decide +kernel
theorem dX2_blossom_12 : decode cX2_blossom 12 = .ok (.getfield 27, 3) := by decide +kernel
theorem dX2_blossom_15 : decode cX2_blossom 15 = .ok (.ldc 42, 2) := by decide +kernel
theorem dX2_blossom_17 : decode cX2_blossom 17 = .ok (.imul, 1) := by decide +kernel
theorem dX2_blossom_18 : decode cX2_blossom 18 = .ok (.sipush 12345, 3) := by decide +kernel
theorem dX2_blossom_21 : decode cX2_blossom 21 = .ok (.iadd, 1) := by decide +kernel
theorem dX2_blossom_22 : decode cX2_blossom 22 = .ok (.putfield 27, 3) := by decide +kernel
theorem dX2_blossom_25 : decode cX2_blossom 25 = .ok (.aload_n 0, 1) := by decide +kernel
theorem dX2_blossom_26 : decode cX2_blossom 26 = .ok (.getfield 27, 3) := by decide +kernel
theorem dX2_blossom_29 : decode cX2_blossom 29 = .ok (.bipush 16, 2) := by decide +kernel
theorem dX2_blossom_31 : decode cX2_blossom 31 = .ok (.iushr, 1) := by decide +kernel
theorem dX2_blossom_32 : decode cX2_blossom 32 = .ok (.bipush 21, 2) := by decide +kernel
theorem dX2_blossom_34 : decode cX2_blossom 34 = .ok (.irem, 1) := by decide +kernel
theorem dX2_blossom_35 : decode cX2_blossom 35 = .ok (.istore_n 3, 1) := by decide +kernel
theorem dX2_blossom_36 : decode cX2_blossom 36 = .ok (.aload_n 0, 1) := by decide +kernel
theorem dX2_blossom_37 : decode cX2_blossom 37 = .ok (.getfield 30, 3) := by decide +kernel
theorem dX2_blossom_40 : decode cX2_blossom 40 = .ok (.iload_n 2, 1) := by decide +kernel
theorem dX2_blossom_41 : decode cX2_blossom 41 = .ok (.aload_n 1, 1) := by decide +kernel
theorem dX2_blossom_42 : decode cX2_blossom 42 = .ok (.getfield 39, 3) := by decide +kernel
theorem dX2_blossom_45 : decode cX2_blossom 45 = .ok (.iload_n 2, 1) := by decide +kernel
theorem dX2_blossom_46 : decode cX2_blossom 46 = .ok (.iaload, 1) := by decide +kernel
theorem dX2_blossom_47 : decode cX2_blossom 47 = .ok (.iload_n 3, 1) := by decide +kernel
theorem dX2_blossom_48 : decode cX2_blossom 48 = .ok (.imul, 1) := by decide +kernel
theorem dX2_blossom_49 : decode cX2_blossom 49 = .ok (.bipush 10, 2) := by decide +kernel
theorem dX2_blossom_51 : decode cX2_blossom 51 = .ok (.idiv, 1) := by decide +kernel
theorem dX2_blossom_52 : decode cX2_blossom 52 = .ok (.iastore, 1) := by decide +kernel
theorem dX2_blossom_53 : decode cX2_blossom 53 = .ok (.iinc 2 1, 3) := by decide +kernel
theorem dX2_blossom_56 : decode cX2_blossom 56 = .ok (.goto (-54), 3) := by decide +kernel
theorem dX2_blossom_59 : decode cX2_blossom 59 = .ok (.return_, 1) := by decide +kernel
theorem dX2_become_0 : decode cX2_become 0 = .ok (.aload_n 0, 1) := by decide +kernel
theorem dX2_become_1 : decode cX2_become 1 = .ok (.aload_n 1, 1) := by decide +kernel
theorem dX2_become_2 : decode cX2_become 2 = .ok (.getfield 9, 3) := by decide +kernel
theorem dX2_become_5 : decode cX2_become 5 = .ok (.putfield 9, 3) := by decide +kernel
theorem dX2_become_8 : decode cX2_become 8 = .ok (.aload_n 0, 1) := by decide +kernel
theorem dX2_become_9 : decode cX2_become 9 = .ok (.aload_n 1, 1) := by decide +kernel
theorem dX2_become_10 : decode cX2_become 10 = .ok (.getfield 15, 3) := by decide +kernel
theorem dX2_become_13 : decode cX2_become 13 = .ok (.putfield 15, 3) := by decide +kernel
theorem dX2_become_16 : decode cX2_become 16 = .ok (.aload_n 0, 1) := by decide +kernel
theorem dX2_become_17 : decode cX2_become 17 = .ok (.aload_n 1, 1) := by decide +kernel
theorem dX2_become_18 : decode cX2_become 18 = .ok (.getfield 18, 3) := by decide +kernel
theorem dX2_become_21 : decode cX2_become 21 = .ok (.putfield 18, 3) := by decide +kernel
theorem dX2_become_24 : decode cX2_become 24 = .ok (.aload_n 0, 1) := by decide +kernel
theorem dX2_become_25 : decode cX2_become 25 = .ok (.aload_n 1, 1) := by decide +kernel
theorem dX2_become_26 : decode cX2_become 26 = .ok (.getfield 21, 3) := by decide +kernel
theorem dX2_become_29 : decode cX2_become 29 = .ok (.putfield 21, 3) := by decide +kernel
theorem dX2_become_32 : decode cX2_become 32 = .ok (.aload_n 0, 1) := by decide +kernel
theorem dX2_become_33 : decode cX2_become 33 = .ok (.aload_n 1, 1) := by decide +kernel
theorem dX2_become_34 : decode cX2_become 34 = .ok (.getfield 24, 3) := by decide +kernel
theorem dX2_become_37 : decode cX2_become 37 = .ok (.putfield 24, 3) := by decide +kernel
theorem dX2_become_40 : decode cX2_become 40 = .ok (.aload_n 0, 1) := by decide +kernel
theorem dX2_become_41 : decode cX2_become 41 = .ok (.aload_n 1, 1) := by decide +kernel
theorem dX2_become_42 : decode cX2_become 42 = .ok (.getfield 27, 3) := by decide +kernel
theorem dX2_become_45 : decode cX2_become 45 = .ok (.putfield 27, 3) := by decide +kernel
theorem dX2_become_48 : decode cX2_become 48 = .ok (.iconst 0, 1) := by decide +kernel
theorem dX2_become_49 : decode cX2_become 49 = .ok (.istore_n 2, 1) := by decide +kernel
theorem dX2_become_50 : decode cX2_become 50 = .ok (.iload_n 2, 1) := by decide +kernel
theorem dX2_become_51 : decode cX2_become 51 = .ok (.iconst 5, 1) := by decide +kernel
theorem dX2_become_52 : decode cX2_become 52 = .ok (.if_icmp .ge 21, 3) := by decide +kernel
theorem dX2_become_55 : decode cX2_become 55 = .ok (.aload_n 0, 1) := by decide +kernel
theorem dX2_become_56 : decode cX2_become 56 = .ok (.getfield 30, 3) := by decide +kernel
theorem dX2_become_59 : decode cX2_become 59 = .ok (.iload_n 2, 1) := by decide +kernel
theorem dX2_become_60 : decode cX2_become 60 = .ok (.aload_n 1, 1) := by decide +kernel
theorem dX2_become_61 : decode cX2_become 61 = .ok (.getfield 30, 3) := by decide +kernel
theorem dX2_become_64 : decode cX2_become 64 = .ok (.iload_n 2, 1) := by decide +kernel
theorem dX2_become_65 : decode cX2_become 65 = .ok (.iaload, 1) := by decide +kernel
theorem dX2_become_66 : decode cX2_become 66 = .ok (.iastore, 1) := by decide +kernel
theorem dX2_become_67 : decode cX2_become 67 = .ok (.iinc 2 1, 3) := by decide +kernel
theorem dX2_become_70 : decode cX2_become 70 = .ok (.goto (-20), 3) := by decide +kernel
theorem dX2_become_73 : decode cX2_become 73 = .ok (.return_, 1) := by decide +kernel
theorem dX2_leftOnAll_0 : decode cX2_leftOnAll 0 = .ok (.iconst 0, 1) := by decide +kernel
theorem dX2_leftOnAll_1 : decode cX2_leftOnAll 1 = .ok (.istore_n 2, 1) := by decide +kernel
theorem dX2_leftOnAll_2 : decode cX2_leftOnAll 2 = .ok (.iconst 0, 1) := by decide +kernel
theorem dX2_leftOnAll_3 : decode cX2_leftOnAll 3 = .ok (.istore_n 3, 1) := by decide +kernel
theorem dX2_leftOnAll_4 : decode cX2_leftOnAll 4 = .ok (.iload_n 3, 1) := by decide +kernel
theorem dX2_leftOnAll_5 : decode cX2_leftOnAll 5 = .ok (.aload_n 1, 1) := by decide +kernel
theorem dX2_leftOnAll_6 : decode cX2_leftOnAll 6 = .ok (.getfield 34, 3) := by decide +kernel
theorem dX2_leftOnAll_9 : decode cX2_leftOnAll 9 = .ok (.if_icmp .ge 18, 3) := by decide +kernel
theorem dX2_leftOnAll_12 : decode cX2_leftOnAll 12 = .ok (.iload_n 2, 1) := by decide +kernel
theorem dX2_leftOnAll_13 : decode cX2_leftOnAll 13 = .ok (.aload_n 0, 1) := by decide +kernel
theorem dX2_leftOnAll_14 : decode cX2_leftOnAll 14 = .ok (.getfield 30, 3) := by decide +kernel
theorem dX2_leftOnAll_17 : decode cX2_leftOnAll 17 = .ok (.iload_n 3, 1) := by decide +kernel
theorem dX2_leftOnAll_18 : decode cX2_leftOnAll 18 = .ok (.iaload, 1) := by decide +kernel
theorem dX2_leftOnAll_19 : decode cX2_leftOnAll 19 = .ok (.iadd, 1) := by decide +kernel
theorem dX2_leftOnAll_20 : decode cX2_leftOnAll 20 = .ok (.istore_n 2, 1) := by decide +kernel
theorem dX2_leftOnAll_21 : decode cX2_leftOnAll 21 = .ok (.iinc 3 1, 3) := by decide +kernel
theorem dX2_leftOnAll_24 : decode cX2_leftOnAll 24 = .ok (.goto (-20), 3) := by decide +kernel
theorem dX2_leftOnAll_27 : decode cX2_leftOnAll 27 = .ok (.iload_n 2, 1) := by decide +kernel
theorem dX2_leftOnAll_28 : decode cX2_leftOnAll 28 = .ok (.ireturn, 1) := by decide +kernel
set_option maxRecDepth 20000 in
theorem ggX2_pickable_X3_isRipe : GoodIn wsX2_pickable wsX3_isRipe := goodIn_r _ [17, 18, 19, 20, 21, 16, 22, 23, 39, 40, 41, 42, 43, 44, 45, 46, 47, 48] (by decide +kernel) (by decide +kernel)
set_option maxRecDepth 20000 in
theorem gX2_pickable_X3_isRipe : GoodIn wsX2_pickable (wsV RX2 43 RX3 yX3_isRipe wsX3_isRipe) := goodIn_app (goodIn_of _ (by decide +kernel)) ggX2_pickable_X3_isRipe
theorem dX2_pickable_0 : decode cX2_pickable 0 = .ok (.aload_n 1, 1) := by decide +kernel
theorem dX2_pickable_1 : decode cX2_pickable 1 = .ok (.iload 4, 2) := by decide +kernel
theorem dX2_pickable_3 : decode cX2_pickable 3 = .ok (.aload_n 0, 1) := by decide +kernel
theorem dX2_pickable_4 : decode cX2_pickable 4 = .ok (.getfield 9, 3) := by decide +kernel
theorem dX2_pickable_7 : decode cX2_pickable 7 = .ok (.invokevirtual 43, 3) := by decide +kernel
theorem dX2_pickable_10 : decode cX2_pickable 10 = .ok (.ifCond .eq 15, 3) := by decide +kernel
theorem dX2_pickable_13 : decode cX2_pickable 13 = .ok (.aload_n 0, 1) := by decide +kernel
theorem dX2_pickable_14 : decode cX2_pickable 14 = .ok (.getfield 18, 3) := by decide +kernel
theorem dX2_pickable_17 : decode cX2_pickable 17 = .ok (.iload 4, 2) := by decide +kernel
theorem dX2_pickable_19 : decode cX2_pickable 19 = .ok (.ishr, 1) := by decide +kernel
theorem dX2_pickable_20 : decode cX2_pickable 20 = .ok (.iconst 1, 1) := by decide +kernel
theorem dX2_pickable_21 : decode cX2_pickable 21 = .ok (.iand, 1) := by decide +kernel
theorem dX2_pickable_22 : decode cX2_pickable 22 = .ok (.ifCond .eq 5, 3) := by decide +kernel
theorem dX2_pickable_25 : decode cX2_pickable 25 = .ok (.iconst 0, 1) := by decide +kernel
theorem dX2_pickable_26 : decode cX2_pickable 26 = .ok (.ireturn, 1) := by decide +kernel
theorem dX2_pickable_27 : decode cX2_pickable 27 = .ok (.aload_n 0, 1) := by decide +kernel
theorem dX2_pickable_28 : decode cX2_pickable 28 = .ok (.getfield 15, 3) := by decide +kernel
theorem dX2_pickable_31 : decode cX2_pickable 31 = .ok (.aload_n 2, 1) := by decide +kernel
theorem dX2_pickable_32 : decode cX2_pickable 32 = .ok (.getfield 47, 3) := by decide +kernel
theorem dX2_pickable_35 : decode cX2_pickable 35 = .ok (.iload_n 3, 1) := by decide +kernel
theorem dX2_pickable_36 : decode cX2_pickable 36 = .ok (.iaload, 1) := by decide +kernel
theorem dX2_pickable_37 : decode cX2_pickable 37 = .ok (.iand, 1) := by decide +kernel
theorem dX2_pickable_38 : decode cX2_pickable 38 = .ok (.ifCond .ne 19, 3) := by decide +kernel
theorem dX2_pickable_41 : decode cX2_pickable 41 = .ok (.aload_n 2, 1) := by decide +kernel
theorem dX2_pickable_42 : decode cX2_pickable 42 = .ok (.getfield 52, 3) := by decide +kernel
theorem dX2_pickable_45 : decode cX2_pickable 45 = .ok (.iload_n 3, 1) := by decide +kernel
theorem dX2_pickable_46 : decode cX2_pickable 46 = .ok (.iaload, 1) := by decide +kernel
theorem dX2_pickable_47 : decode cX2_pickable 47 = .ok (.aload_n 1, 1) := by decide +kernel
theorem dX2_pickable_48 : decode cX2_pickable 48 = .ok (.getfield 55, 3) := by decide +kernel
theorem dX2_pickable_51 : decode cX2_pickable 51 = .ok (.iload 4, 2) := by decide +kernel
theorem dX2_pickable_53 : decode cX2_pickable 53 = .ok (.iaload, 1) := by decide +kernel
theorem dX2_pickable_54 : decode cX2_pickable 54 = .ok (.if_icmp .ge 5, 3) := by decide +kernel
theorem dX2_pickable_57 : decode cX2_pickable 57 = .ok (.iconst 0, 1) := by decide +kernel
theorem dX2_pickable_58 : decode cX2_pickable 58 = .ok (.ireturn, 1) := by decide +kernel
theorem dX2_pickable_59 : decode cX2_pickable 59 = .ok (.aload_n 2, 1) := by decide +kernel
theorem dX2_pickable_60 : decode cX2_pickable 60 = .ok (.getfield 58, 3) := by decide +kernel
theorem dX2_pickable_63 : decode cX2_pickable 63 = .ok (.iload_n 3, 1) := by decide +kernel
theorem dX2_pickable_64 : decode cX2_pickable 64 = .ok (.iaload, 1) := by decide +kernel
theorem dX2_pickable_65 : decode cX2_pickable 65 = .ok (.aload_n 0, 1) := by decide +kernel
theorem dX2_pickable_66 : decode cX2_pickable 66 = .ok (.getfield 30, 3) := by decide +kernel
theorem dX2_pickable_69 : decode cX2_pickable 69 = .ok (.iload 4, 2) := by decide +kernel
theorem dX2_pickable_71 : decode cX2_pickable 71 = .ok (.iaload, 1) := by decide +kernel
theorem dX2_pickable_72 : decode cX2_pickable 72 = .ok (.invokestatic 61, 3) := by decide +kernel
theorem dX2_pickable_75 : decode cX2_pickable 75 = .ok (.ireturn, 1) := by decide +kernel
theorem dX2_pick_0 : decode cX2_pick 0 = .ok (.aload_n 0, 1) := by decide +kernel
theorem dX2_pick_1 : decode cX2_pick 1 = .ok (.dup, 1) := by decide +kernel
theorem dX2_pick_2 : decode cX2_pick 2 = .ok (.getfield 15, 3) := by decide +kernel
theorem dX2_pick_5 : decode cX2_pick 5 = .ok (.iload_n 1, 1) := by decide +kernel
theorem dX2_pick_6 : decode cX2_pick 6 = .ok (.ior, 1) := by decide +kernel
theorem dX2_pick_7 : decode cX2_pick 7 = .ok (.putfield 15, 3) := by decide +kernel
theorem dX2_pick_10 : decode cX2_pick 10 = .ok (.aload_n 0, 1) := by decide +kernel
theorem dX2_pick_11 : decode cX2_pick 11 = .ok (.dup, 1) := by decide +kernel
theorem dX2_pick_12 : decode cX2_pick 12 = .ok (.getfield 18, 3) := by decide +kernel
theorem dX2_pick_15 : decode cX2_pick 15 = .ok (.iconst 1, 1) := by decide +kernel
theorem dX2_pick_16 : decode cX2_pick 16 = .ok (.iload_n 2, 1) := by decide +kernel
theorem dX2_pick_17 : decode cX2_pick 17 = .ok (.ishl, 1) := by decide +kernel
theorem dX2_pick_18 : decode cX2_pick 18 = .ok (.ior, 1) := by decide +kernel
theorem dX2_pick_19 : decode cX2_pick 19 = .ok (.putfield 18, 3) := by decide +kernel
theorem dX2_pick_22 : decode cX2_pick 22 = .ok (.aload_n 0, 1) := by decide +kernel
theorem dX2_pick_23 : decode cX2_pick 23 = .ok (.getfield 30, 3) := by decide +kernel
theorem dX2_pick_26 : decode cX2_pick 26 = .ok (.iload_n 2, 1) := by decide +kernel
theorem dX2_pick_27 : decode cX2_pick 27 = .ok (.dup2, 1) := by decide +kernel
theorem dX2_pick_28 : decode cX2_pick 28 = .ok (.iaload, 1) := by decide +kernel
theorem dX2_pick_29 : decode cX2_pick 29 = .ok (.iload_n 3, 1) := by decide +kernel
theorem dX2_pick_30 : decode cX2_pick 30 = .ok (.isub, 1) := by decide +kernel
theorem dX2_pick_31 : decode cX2_pick 31 = .ok (.iastore, 1) := by decide +kernel
theorem dX2_pick_32 : decode cX2_pick 32 = .ok (.aload_n 0, 1) := by decide +kernel
theorem dX2_pick_33 : decode cX2_pick 33 = .ok (.dup, 1) := by decide +kernel
theorem dX2_pick_34 : decode cX2_pick 34 = .ok (.getfield 21, 3) := by decide +kernel
theorem dX2_pick_37 : decode cX2_pick 37 = .ok (.iload_n 3, 1) := by decide +kernel
theorem dX2_pick_38 : decode cX2_pick 38 = .ok (.iadd, 1) := by decide +kernel
theorem dX2_pick_39 : decode cX2_pick 39 = .ok (.putfield 21, 3) := by decide +kernel
theorem dX2_pick_42 : decode cX2_pick 42 = .ok (.return_, 1) := by decide +kernel
theorem dX2_endDay_0 : decode cX2_endDay 0 = .ok (.aload_n 0, 1) := by decide +kernel
theorem dX2_endDay_1 : decode cX2_endDay 1 = .ok (.dup, 1) := by decide +kernel
theorem dX2_endDay_2 : decode cX2_endDay 2 = .ok (.getfield 9, 3) := by decide +kernel
theorem dX2_endDay_5 : decode cX2_endDay 5 = .ok (.iconst 1, 1) := by decide +kernel
theorem dX2_endDay_6 : decode cX2_endDay 6 = .ok (.iadd, 1) := by decide +kernel
theorem dX2_endDay_7 : decode cX2_endDay 7 = .ok (.putfield 9, 3) := by decide +kernel
theorem dX2_endDay_10 : decode cX2_endDay 10 = .ok (.aload_n 0, 1) := by decide +kernel
theorem dX2_endDay_11 : decode cX2_endDay 11 = .ok (.iconst 0, 1) := by decide +kernel
theorem dX2_endDay_12 : decode cX2_endDay 12 = .ok (.putfield 15, 3) := by decide +kernel
theorem dX2_endDay_15 : decode cX2_endDay 15 = .ok (.aload_n 0, 1) := by decide +kernel
theorem dX2_endDay_16 : decode cX2_endDay 16 = .ok (.iconst 0, 1) := by decide +kernel
theorem dX2_endDay_17 : decode cX2_endDay 17 = .ok (.putfield 18, 3) := by decide +kernel
theorem dX2_endDay_20 : decode cX2_endDay 20 = .ok (.iconst 0, 1) := by decide +kernel
theorem dX2_endDay_21 : decode cX2_endDay 21 = .ok (.istore_n 2, 1) := by decide +kernel
theorem dX2_endDay_22 : decode cX2_endDay 22 = .ok (.iconst 0, 1) := by decide +kernel
theorem dX2_endDay_23 : decode cX2_endDay 23 = .ok (.istore_n 3, 1) := by decide +kernel
theorem dX2_endDay_24 : decode cX2_endDay 24 = .ok (.iload_n 3, 1) := by decide +kernel
theorem dX2_endDay_25 : decode cX2_endDay 25 = .ok (.aload_n 1, 1) := by decide +kernel
theorem dX2_endDay_26 : decode cX2_endDay 26 = .ok (.getfield 34, 3) := by decide +kernel
theorem dX2_endDay_29 : decode cX2_endDay 29 = .ok (.if_icmp .ge 40, 3) := by decide +kernel
theorem dX2_endDay_32 : decode cX2_endDay 32 = .ok (.aload_n 0, 1) := by decide +kernel
theorem dX2_endDay_33 : decode cX2_endDay 33 = .ok (.getfield 9, 3) := by decide +kernel
theorem dX2_endDay_36 : decode cX2_endDay 36 = .ok (.aload_n 1, 1) := by decide +kernel
theorem dX2_endDay_37 : decode cX2_endDay 37 = .ok (.getfield 67, 3) := by decide +kernel
theorem dX2_endDay_40 : decode cX2_endDay 40 = .ok (.iload_n 3, 1) := by decide +kernel
theorem dX2_endDay_41 : decode cX2_endDay 41 = .ok (.iaload, 1) := by decide +kernel
theorem dX2_endDay_42 : decode cX2_endDay 42 = .ok (.iconst 3, 1) := by decide +kernel
theorem dX2_endDay_43 : decode cX2_endDay 43 = .ok (.iadd, 1) := by decide +kernel
theorem dX2_endDay_44 : decode cX2_endDay 44 = .ok (.if_icmp .le 19, 3) := by decide +kernel
theorem dX2_endDay_47 : decode cX2_endDay 47 = .ok (.iload_n 2, 1) := by decide +kernel
theorem dX2_endDay_48 : decode cX2_endDay 48 = .ok (.aload_n 0, 1) := by decide +kernel
theorem dX2_endDay_49 : decode cX2_endDay 49 = .ok (.getfield 30, 3) := by decide +kernel
theorem dX2_endDay_52 : decode cX2_endDay 52 = .ok (.iload_n 3, 1) := by decide +kernel
theorem dX2_endDay_53 : decode cX2_endDay 53 = .ok (.iaload, 1) := by decide +kernel
theorem dX2_endDay_54 : decode cX2_endDay 54 = .ok (.iadd, 1) := by decide +kernel
theorem dX2_endDay_55 : decode cX2_endDay 55 = .ok (.istore_n 2, 1) := by decide +kernel
theorem dX2_endDay_56 : decode cX2_endDay 56 = .ok (.aload_n 0, 1) := by decide +kernel
theorem dX2_endDay_57 : decode cX2_endDay 57 = .ok (.getfield 30, 3) := by decide +kernel
theorem dX2_endDay_60 : decode cX2_endDay 60 = .ok (.iload_n 3, 1) := by decide +kernel
theorem dX2_endDay_61 : decode cX2_endDay 61 = .ok (.iconst 0, 1) := by decide +kernel
theorem dX2_endDay_62 : decode cX2_endDay 62 = .ok (.iastore, 1) := by decide +kernel
theorem dX2_endDay_63 : decode cX2_endDay 63 = .ok (.iinc 3 1, 3) := by decide +kernel
theorem dX2_endDay_66 : decode cX2_endDay 66 = .ok (.goto (-42), 3) := by decide +kernel
theorem dX2_endDay_69 : decode cX2_endDay 69 = .ok (.aload_n 0, 1) := by decide +kernel
theorem dX2_endDay_70 : decode cX2_endDay 70 = .ok (.dup, 1) := by decide +kernel
theorem dX2_endDay_71 : decode cX2_endDay 71 = .ok (.getfield 24, 3) := by decide +kernel
theorem dX2_endDay_74 : decode cX2_endDay 74 = .ok (.iload_n 2, 1) := by decide +kernel
theorem dX2_endDay_75 : decode cX2_endDay 75 = .ok (.iadd, 1) := by decide +kernel
theorem dX2_endDay_76 : decode cX2_endDay 76 = .ok (.putfield 24, 3) := by decide +kernel
theorem dX2_endDay_79 : decode cX2_endDay 79 = .ok (.iload_n 2, 1) := by decide +kernel
theorem dX2_endDay_80 : decode cX2_endDay 80 = .ok (.ireturn, 1) := by decide +kernel
theorem dX3_init_0 : decode cX3_init 0 = .ok (.aload_n 0, 1) := by decide +kernel
theorem dX3_init_1 : decode cX3_init 1 = .ok (.invokespecial 3, 3) := by decide +kernel
theorem dX3_init_4 : decode cX3_init 4 = .ok (.aload_n 0, 1) := by decide +kernel
theorem dX3_init_5 : decode cX3_init 5 = .ok (.iconst 0, 1) := by decide +kernel
theorem dX3_init_6 : decode cX3_init 6 = .ok (.putfield 9, 3) := by decide +kernel
theorem dX3_init_9 : decode cX3_init 9 = .ok (.aload_n 0, 1) := by decide +kernel
theorem dX3_init_10 : decode cX3_init 10 = .ok (.iconst 0, 1) := by decide +kernel
theorem dX3_init_11 : decode cX3_init 11 = .ok (.putfield 15, 3) := by decide +kernel
theorem dX3_init_14 : decode cX3_init 14 = .ok (.aload_n 0, 1) := by decide +kernel
theorem dX3_init_15 : decode cX3_init 15 = .ok (.bipush 8, 2) := by decide +kernel
theorem dX3_init_17 : decode cX3_init 17 = .ok (.newarray .int, 2) := by decide +kernel
theorem dX3_init_19 : decode cX3_init 19 = .ok (.putfield 18, 3) := by decide +kernel
theorem dX3_init_22 : decode cX3_init 22 = .ok (.aload_n 0, 1) := by decide +kernel
theorem dX3_init_23 : decode cX3_init 23 = .ok (.bipush 8, 2) := by decide +kernel
theorem dX3_init_25 : decode cX3_init 25 = .ok (.newarray .int, 2) := by decide +kernel
theorem dX3_init_27 : decode cX3_init 27 = .ok (.putfield 22, 3) := by decide +kernel
theorem dX3_init_30 : decode cX3_init 30 = .ok (.aload_n 0, 1) := by decide +kernel
theorem dX3_init_31 : decode cX3_init 31 = .ok (.bipush 8, 2) := by decide +kernel
theorem dX3_init_33 : decode cX3_init 33 = .ok (.newarray .int, 2) := by decide +kernel
theorem dX3_init_35 : decode cX3_init 35 = .ok (.putfield 25, 3) := by decide +kernel
theorem dX3_init_38 : decode cX3_init 38 = .ok (.aload_n 0, 1) := by decide +kernel
theorem dX3_init_39 : decode cX3_init 39 = .ok (.bipush 8, 2) := by decide +kernel
theorem dX3_init_41 : decode cX3_init 41 = .ok (.newarray .int, 2) := by decide +kernel
theorem dX3_init_43 : decode cX3_init 43 = .ok (.putfield 28, 3) := by decide +kernel
theorem dX3_init_46 : decode cX3_init 46 = .ok (.aload_n 0, 1) := by decide +kernel
theorem dX3_init_47 : decode cX3_init 47 = .ok (.bipush 8, 2) := by decide +kernel
theorem dX3_init_49 : decode cX3_init 49 = .ok (.newarray .int, 2) := by decide +kernel
