theorem dX10_next_207 : decode cX10_next 207 = .ok (.aload_n 0, 1) := by decide +kernel
theorem dX10_next_208 : decode cX10_next 208 = .ok (.getfield 93, 3) := by decide +kernel
theorem dX10_next_211 : decode cX10_next 211 = .ok (.goto 18, 3) := by decide +kernel
theorem dX10_next_214 : decode cX10_next 214 = .ok (.bipush 10, 2) := by decide +kernel
theorem dX10_next_216 : decode cX10_next 216 = .ok (.aload_n 0, 1) := by decide +kernel
theorem dX10_next_217 : decode cX10_next 217 = .ok (.getfield 93, 3) := by decide +kernel
theorem dX10_next_220 : decode cX10_next 220 = .ok (.imul, 1) := by decide +kernel
theorem dX10_next_221 : decode cX10_next 221 = .ok (.aload_n 0, 1) := by decide +kernel
theorem dX10_next_222 : decode cX10_next 222 = .ok (.invokevirtual 86, 3) := by decide +kernel
theorem dX10_next_225 : decode cX10_next 225 = .ok (.iadd, 1) := by decide +kernel
theorem dX10_next_226 : decode cX10_next 226 = .ok (.bipush 48, 2) := by decide +kernel
theorem dX10_next_228 : decode cX10_next 228 = .ok (.isub, 1) := by decide +kernel
theorem dX10_next_229 : decode cX10_next 229 = .ok (.putfield 93, 3) := by decide +kernel
theorem dX10_next_232 : decode cX10_next 232 = .ok (.aload_n 0, 1) := by decide +kernel
theorem dX10_next_233 : decode cX10_next 233 = .ok (.dup, 1) := by decide +kernel
theorem dX10_next_234 : decode cX10_next 234 = .ok (.getfield 82, 3) := by decide +kernel
theorem dX10_next_237 : decode cX10_next 237 = .ok (.iconst 1, 1) := by decide +kernel
theorem dX10_next_238 : decode cX10_next 238 = .ok (.iadd, 1) := by decide +kernel
theorem dX10_next_239 : decode cX10_next 239 = .ok (.putfield 82, 3) := by decide +kernel
theorem dX10_next_242 : decode cX10_next 242 = .ok (.goto (-59), 3) := by decide +kernel
theorem dX10_next_245 : decode cX10_next 245 = .ok (.aload_n 0, 1) := by decide +kernel
theorem dX10_next_246 : decode cX10_next 246 = .ok (.aload_n 0, 1) := by decide +kernel
theorem dX10_next_247 : decode cX10_next 247 = .ok (.getfield 93, 3) := by decide +kernel
theorem dX10_next_250 : decode cX10_next 250 = .ok (.bipush 99, 2) := by decide +kernel
theorem dX10_next_252 : decode cX10_next 252 = .ok (.if_icmp .gt 22, 3) := by decide +kernel
theorem dX10_next_255 : decode cX10_next 255 = .ok (.iload_n 1, 1) := by decide +kernel
theorem dX10_next_256 : decode cX10_next 256 = .ok (.bipush 48, 2) := by decide +kernel
theorem dX10_next_258 : decode cX10_next 258 = .ok (.if_icmp .ne 21, 3) := by decide +kernel
theorem dX10_next_261 : decode cX10_next 261 = .ok (.aload_n 0, 1) := by decide +kernel
theorem dX10_next_262 : decode cX10_next 262 = .ok (.getfield 82, 3) := by decide +kernel
theorem dX10_next_265 : decode cX10_next 265 = .ok (.aload_n 0, 1) := by decide +kernel
theorem dX10_next_266 : decode cX10_next 266 = .ok (.getfield 90, 3) := by decide +kernel
theorem dX10_next_269 : decode cX10_next 269 = .ok (.isub, 1) := by decide +kernel
theorem dX10_next_270 : decode cX10_next 270 = .ok (.iconst 1, 1) := by decide +kernel
theorem dX10_next_271 : decode cX10_next 271 = .ok (.if_icmp .le 8, 3) := by decide +kernel
theorem dX10_next_274 : decode cX10_next 274 = .ok (.bipush 7, 2) := by decide +kernel
theorem dX10_next_276 : decode cX10_next 276 = .ok (.goto 4, 3) := by decide +kernel
theorem dX10_next_279 : decode cX10_next 279 = .ok (.iconst 5, 1) := by decide +kernel
theorem dX10_next_280 : decode cX10_next 280 = .ok (.putfield 96, 3) := by decide +kernel
theorem dX10_next_283 : decode cX10_next 283 = .ok (.goto 30, 3) := by decide +kernel
theorem dX10_next_286 : decode cX10_next 286 = .ok (.aload_n 0, 1) := by decide +kernel
theorem dX10_next_287 : decode cX10_next 287 = .ok (.dup, 1) := by decide +kernel
theorem dX10_next_288 : decode cX10_next 288 = .ok (.getfield 82, 3) := by decide +kernel
theorem dX10_next_291 : decode cX10_next 291 = .ok (.iconst 1, 1) := by decide +kernel
theorem dX10_next_292 : decode cX10_next 292 = .ok (.iadd, 1) := by decide +kernel
theorem dX10_next_293 : decode cX10_next 293 = .ok (.putfield 82, 3) := by decide +kernel
theorem dX10_next_296 : decode cX10_next 296 = .ok (.aload_n 0, 1) := by decide +kernel
theorem dX10_next_297 : decode cX10_next 297 = .ok (.iload_n 1, 1) := by decide +kernel
theorem dX10_next_298 : decode cX10_next 298 = .ok (.bipush 59, 2) := by decide +kernel
theorem dX10_next_300 : decode cX10_next 300 = .ok (.if_icmp .ne 8, 3) := by decide +kernel
theorem dX10_next_303 : decode cX10_next 303 = .ok (.bipush 6, 2) := by decide +kernel
theorem dX10_next_305 : decode cX10_next 305 = .ok (.goto 5, 3) := by decide +kernel
theorem dX10_next_308 : decode cX10_next 308 = .ok (.bipush 7, 2) := by decide +kernel
theorem dX10_next_310 : decode cX10_next 310 = .ok (.putfield 96, 3) := by decide +kernel
theorem dX10_next_313 : decode cX10_next 313 = .ok (.return_, 1) := by decide +kernel
set_option maxRecDepth 20000 in
theorem ggX10_due_X10_next : GoodIn wsX10_due wsX10_next := goodIn_r _ [8, 9, 3, 1, 10, 11, 12, 13, 7, 14, 15, 16, 17, 18, 19, 20, 21, 22, 23, 24, 25, 26, 27, 28, 29, 30, 31, 32, 33, 34, 35, 36, 37, 38, 39, 40, 41, 42, 43, 44, 45, 46, 47, 48, 49, 50] (by decide +kernel) (by decide +kernel)
set_option maxRecDepth 20000 in
theorem gX10_due_X10_next : GoodIn wsX10_due (wsV RX10 106 RX10 yX10_next wsX10_next) := goodIn_app (goodIn_of _ (by decide +kernel)) ggX10_due_X10_next
theorem dX10_due_0 : decode cX10_due 0 = .ok (.aload_n 0, 1) := by decide +kernel
theorem dX10_due_1 : decode cX10_due 1 = .ok (.getfield 93, 3) := by decide +kernel
theorem dX10_due_4 : decode cX10_due 4 = .ok (.istore_n 2, 1) := by decide +kernel
theorem dX10_due_5 : decode cX10_due 5 = .ok (.aload_n 0, 1) := by decide +kernel
theorem dX10_due_6 : decode cX10_due 6 = .ok (.getfield 103, 3) := by decide +kernel
theorem dX10_due_9 : decode cX10_due 9 = .ok (.bipush (-9), 2) := by decide +kernel
theorem dX10_due_11 : decode cX10_due 11 = .ok (.if_icmp .ne 22, 3) := by decide +kernel
theorem dX10_due_14 : decode cX10_due 14 = .ok (.iload_n 1, 1) := by decide +kernel
theorem dX10_due_15 : decode cX10_due 15 = .ok (.ifCond .eq 10, 3) := by decide +kernel
theorem dX10_due_18 : decode cX10_due 18 = .ok (.aload_n 0, 1) := by decide +kernel
theorem dX10_due_19 : decode cX10_due 19 = .ok (.invokevirtual 106, 3) := by decide +kernel
theorem dX10_due_22 : decode cX10_due 22 = .ok (.goto 11, 3) := by decide +kernel
theorem dX10_due_25 : decode cX10_due 25 = .ok (.aload_n 0, 1) := by decide +kernel
theorem dX10_due_26 : decode cX10_due 26 = .ok (.aload_n 0, 1) := by decide +kernel
theorem dX10_due_27 : decode cX10_due 27 = .ok (.getfield 90, 3) := by decide +kernel
theorem dX10_due_30 : decode cX10_due 30 = .ok (.putfield 103, 3) := by decide +kernel
theorem dX10_due_33 : decode cX10_due 33 = .ok (.iload_n 2, 1) := by decide +kernel
theorem dX10_due_34 : decode cX10_due 34 = .ok (.ireturn, 1) := by decide +kernel
set_option maxRecDepth 20000 in
theorem ggX10_number_X10_in : GoodIn wsX10_number wsX10_in := goodIn_r _ [6] (by decide +kernel) (by decide +kernel)
set_option maxRecDepth 20000 in
theorem gX10_number_X10_in : GoodIn wsX10_number (va_wsS RX10 72 yX10_in wsX10_in) := goodIn_app (goodIn_of _ (by decide +kernel)) ggX10_number_X10_in
set_option maxRecDepth 20000 in
theorem ggX10_number_X10_due : GoodIn wsX10_number wsX10_due := goodIn_r _ [10, 2, 11, 12, 13, 14, 15, 5, 16, 17, 1, 18, 19, 20, 21, 22, 23, 3, 4, 6, 24, 25, 26, 27, 28, 29, 30, 31, 32, 33, 34, 35, 36, 37, 38, 39, 40, 41, 42, 43, 44, 45, 46, 47, 48, 49, 50, 51, 52, 53, 54] (by decide +kernel) (by decide +kernel)
set_option maxRecDepth 20000 in
theorem gX10_number_X10_due : GoodIn wsX10_number (wsV RX10 109 RX10 yX10_due wsX10_due) := goodIn_app (goodIn_of _ (by decide +kernel)) ggX10_number_X10_due
theorem dX10_number_0 : decode cX10_number 0 = .ok (.aload_n 0, 1) := by decide +kernel
theorem dX10_number_1 : decode cX10_number 1 = .ok (.aload_n 0, 1) := by decide +kernel
theorem dX10_number_2 : decode cX10_number 2 = .ok (.getfield 96, 3) := by decide +kernel
theorem dX10_number_5 : decode cX10_number 5 = .ok (.iconst 5, 1) := by decide +kernel
theorem dX10_number_6 : decode cX10_number 6 = .ok (.if_icmp .ne 19, 3) := by decide +kernel
theorem dX10_number_9 : decode cX10_number 9 = .ok (.aload_n 0, 1) := by decide +kernel
theorem dX10_number_10 : decode cX10_number 10 = .ok (.getfield 93, 3) := by decide +kernel
theorem dX10_number_13 : decode cX10_number 13 = .ok (.iload_n 1, 1) := by decide +kernel
theorem dX10_number_14 : decode cX10_number 14 = .ok (.iload_n 2, 1) := by decide +kernel
theorem dX10_number_15 : decode cX10_number 15 = .ok (.invokestatic 72, 3) := by decide +kernel
theorem dX10_number_18 : decode cX10_number 18 = .ok (.ifCond .eq 7, 3) := by decide +kernel
theorem dX10_number_21 : decode cX10_number 21 = .ok (.iconst 1, 1) := by decide +kernel
theorem dX10_number_22 : decode cX10_number 22 = .ok (.goto 4, 3) := by decide +kernel
theorem dX10_number_25 : decode cX10_number 25 = .ok (.iconst 0, 1) := by decide +kernel
theorem dX10_number_26 : decode cX10_number 26 = .ok (.invokevirtual 109, 3) := by decide +kernel
theorem dX10_number_29 : decode cX10_number 29 = .ok (.ireturn, 1) := by decide +kernel
set_option maxRecDepth 20000 in
theorem ggX10_readItem_X10_due : GoodIn wsX10_readItem wsX10_due := goodIn_r _ [18, 9, 4, 19, 20, 21, 22, 17, 23, 24, 1, 25, 26, 27, 28, 29, 30, 31, 32, 33, 34, 35, 36, 37, 42, 43, 44, 45, 46, 47, 48, 49, 50, 51, 52, 53, 54, 55, 56, 57, 58, 59, 60, 61, 62, 63, 64, 65, 66, 67, 68] (by decide +kernel) (by decide +kernel)
set_option maxRecDepth 20000 in
theorem gX10_readItem_X10_due : GoodIn wsX10_readItem (wsV RX10 109 RX10 yX10_due wsX10_due) := goodIn_app (goodIn_of _ (by decide +kernel)) ggX10_readItem_X10_due
set_option maxRecDepth 20000 in
theorem ggX10_readItem_X10_number : GoodIn wsX10_readItem wsX10_number := goodIn_r _ [41, 1, 9, 31, 32, 17, 33, 14, 15, 16, 18, 4, 19, 20, 21, 22, 23, 24, 25, 26, 27, 28, 29, 30, 34, 35, 36, 37, 42, 43, 44, 45, 46, 47, 48, 49, 50, 51, 52, 53, 54, 55, 56, 57, 58, 59, 60, 61, 62, 63, 64, 65, 66, 67, 68] (by decide +kernel) (by decide +kernel)
set_option maxRecDepth 20000 in
theorem gX10_readItem_X10_number : GoodIn wsX10_readItem (wsV RX10 113 RX10 yX10_number wsX10_number) := goodIn_app (goodIn_of _ (by decide +kernel)) ggX10_readItem_X10_number
set_option maxRecDepth 20000 in
theorem ggX10_readItem_X10_in : GoodIn wsX10_readItem wsX10_in := goodIn_r _ [33] (by decide +kernel) (by decide +kernel)
set_option maxRecDepth 20000 in
theorem gX10_readItem_X10_in : GoodIn wsX10_readItem (va_wsS RX10 72 yX10_in wsX10_in) := goodIn_app (goodIn_of _ (by decide +kernel)) ggX10_readItem_X10_in
theorem dX10_readItem_0 : decode cX10_readItem 0 = .ok (.aload_n 0, 1) := by decide +kernel
theorem dX10_readItem_1 : decode cX10_readItem 1 = .ok (.getfield 96, 3) := by decide +kernel
theorem dX10_readItem_4 : decode cX10_readItem 4 = .ok (.istore_n 1, 1) := by decide +kernel
theorem dX10_readItem_5 : decode cX10_readItem 5 = .ok (.iload_n 1, 1) := by decide +kernel
theorem dX10_readItem_6 : decode cX10_readItem 6 = .ok (.ifCond .eq 8, 3) := by decide +kernel
theorem dX10_readItem_9 : decode cX10_readItem 9 = .ok (.iload_n 1, 1) := by decide +kernel
theorem dX10_readItem_10 : decode cX10_readItem 10 = .ok (.iconst 1, 1) := by decide +kernel
theorem dX10_readItem_11 : decode cX10_readItem 11 = .ok (.if_icmp .ne 7, 3) := by decide +kernel
theorem dX10_readItem_14 : decode cX10_readItem 14 = .ok (.iconst 1, 1) := by decide +kernel
theorem dX10_readItem_15 : decode cX10_readItem 15 = .ok (.goto 4, 3) := by decide +kernel
theorem dX10_readItem_18 : decode cX10_readItem 18 = .ok (.iconst 0, 1) := by decide +kernel
theorem dX10_readItem_19 : decode cX10_readItem 19 = .ok (.istore_n 2, 1) := by decide +kernel
theorem dX10_readItem_20 : decode cX10_readItem 20 = .ok (.aload_n 0, 1) := by decide +kernel
theorem dX10_readItem_21 : decode cX10_readItem 21 = .ok (.iload_n 2, 1) := by decide +kernel
theorem dX10_readItem_22 : decode cX10_readItem 22 = .ok (.ifCond .eq 14, 3) := by decide +kernel
theorem dX10_readItem_25 : decode cX10_readItem 25 = .ok (.aload_n 0, 1) := by decide +kernel
theorem dX10_readItem_26 : decode cX10_readItem 26 = .ok (.getfield 13, 3) := by decide +kernel
theorem dX10_readItem_29 : decode cX10_readItem 29 = .ok (.iconst 1, 1) := by decide +kernel
theorem dX10_readItem_30 : decode cX10_readItem 30 = .ok (.iaload, 1) := by decide +kernel
theorem dX10_readItem_31 : decode cX10_readItem 31 = .ok (.bipush 8, 2) := by decide +kernel
theorem dX10_readItem_33 : decode cX10_readItem 33 = .ok (.if_icmp .lt 23, 3) := by decide +kernel
theorem dX10_readItem_36 : decode cX10_readItem 36 = .ok (.iload_n 1, 1) := by decide +kernel
theorem dX10_readItem_37 : decode cX10_readItem 37 = .ok (.iconst 2, 1) := by decide +kernel
theorem dX10_readItem_38 : decode cX10_readItem 38 = .ok (.if_icmp .eq 18, 3) := by decide +kernel
theorem dX10_readItem_41 : decode cX10_readItem 41 = .ok (.iload_n 1, 1) := by decide +kernel
theorem dX10_readItem_42 : decode cX10_readItem 42 = .ok (.iconst 3, 1) := by decide +kernel
theorem dX10_readItem_43 : decode cX10_readItem 43 = .ok (.if_icmp .ne 17, 3) := by decide +kernel
theorem dX10_readItem_46 : decode cX10_readItem 46 = .ok (.aload_n 0, 1) := by decide +kernel
theorem dX10_readItem_47 : decode cX10_readItem 47 = .ok (.getfield 33, 3) := by decide +kernel
theorem dX10_readItem_50 : decode cX10_readItem 50 = .ok (.iconst 1, 1) := by decide +kernel
theorem dX10_readItem_51 : decode cX10_readItem 51 = .ok (.iaload, 1) := by decide +kernel
theorem dX10_readItem_52 : decode cX10_readItem 52 = .ok (.iconst 5, 1) := by decide +kernel
theorem dX10_readItem_53 : decode cX10_readItem 53 = .ok (.if_icmp .ge 7, 3) := by decide +kernel
theorem dX10_readItem_56 : decode cX10_readItem 56 = .ok (.iconst 1, 1) := by decide +kernel
theorem dX10_readItem_57 : decode cX10_readItem 57 = .ok (.goto 4, 3) := by decide +kernel
theorem dX10_readItem_60 : decode cX10_readItem 60 = .ok (.iconst 0, 1) := by decide +kernel
theorem dX10_readItem_61 : decode cX10_readItem 61 = .ok (.invokevirtual 109, 3) := by decide +kernel
theorem dX10_readItem_64 : decode cX10_readItem 64 = .ok (.pop, 1) := by decide +kernel
theorem dX10_readItem_65 : decode cX10_readItem 65 = .ok (.aload_n 0, 1) := by decide +kernel
theorem dX10_readItem_66 : decode cX10_readItem 66 = .ok (.getfield 103, 3) := by decide +kernel
theorem dX10_readItem_69 : decode cX10_readItem 69 = .ok (.bipush (-9), 2) := by decide +kernel
theorem dX10_readItem_71 : decode cX10_readItem 71 = .ok (.if_icmp .eq 4, 3) := by decide +kernel
theorem dX10_readItem_74 : decode cX10_readItem 74 = .ok (.return_, 1) := by decide +kernel
theorem dX10_readItem_75 : decode cX10_readItem 75 = .ok (.iload_n 2, 1) := by decide +kernel
theorem dX10_readItem_76 : decode cX10_readItem 76 = .ok (.ifCond .eq 81, 3) := by decide +kernel
theorem dX10_readItem_79 : decode cX10_readItem 79 = .ok (.bipush 8, 2) := by decide +kernel
theorem dX10_readItem_81 : decode cX10_readItem 81 = .ok (.aload_n 0, 1) := by decide +kernel
theorem dX10_readItem_82 : decode cX10_readItem 82 = .ok (.getfield 13, 3) := by decide +kernel
theorem dX10_readItem_85 : decode cX10_readItem 85 = .ok (.iconst 1, 1) := by decide +kernel
theorem dX10_readItem_86 : decode cX10_readItem 86 = .ok (.iaload, 1) := by decide +kernel
theorem dX10_readItem_87 : decode cX10_readItem 87 = .ok (.iadd, 1) := by decide +kernel
theorem dX10_readItem_88 : decode cX10_readItem 88 = .ok (.istore_n 3, 1) := by decide +kernel
theorem dX10_readItem_89 : decode cX10_readItem 89 = .ok (.aload_n 0, 1) := by decide +kernel
theorem dX10_readItem_90 : decode cX10_readItem 90 = .ok (.getfield 17, 3) := by decide +kernel
theorem dX10_readItem_93 : decode cX10_readItem 93 = .ok (.iload_n 3, 1) := by decide +kernel
theorem dX10_readItem_94 : decode cX10_readItem 94 = .ok (.iload_n 1, 1) := by decide +kernel
theorem dX10_readItem_95 : decode cX10_readItem 95 = .ok (.iconst 1, 1) := by decide +kernel
theorem dX10_readItem_96 : decode cX10_readItem 96 = .ok (.if_icmp .ne 7, 3) := by decide +kernel
theorem dX10_readItem_99 : decode cX10_readItem 99 = .ok (.iconst 1, 1) := by decide +kernel
theorem dX10_readItem_100 : decode cX10_readItem 100 = .ok (.goto 4, 3) := by decide +kernel
theorem dX10_readItem_103 : decode cX10_readItem 103 = .ok (.iconst 0, 1) := by decide +kernel
theorem dX10_readItem_104 : decode cX10_readItem 104 = .ok (.iastore, 1) := by decide +kernel
theorem dX10_readItem_105 : decode cX10_readItem 105 = .ok (.aload_n 0, 1) := by decide +kernel
theorem dX10_readItem_106 : decode cX10_readItem 106 = .ok (.getfield 20, 3) := by decide +kernel
theorem dX10_readItem_109 : decode cX10_readItem 109 = .ok (.iload_n 3, 1) := by decide +kernel
theorem dX10_readItem_110 : decode cX10_readItem 110 = .ok (.aload_n 0, 1) := by decide +kernel
theorem dX10_readItem_111 : decode cX10_readItem 111 = .ok (.iconst 1, 1) := by decide +kernel
theorem dX10_readItem_112 : decode cX10_readItem 112 = .ok (.bipush 9, 2) := by decide +kernel
theorem dX10_readItem_114 : decode cX10_readItem 114 = .ok (.invokevirtual 113, 3) := by decide +kernel
theorem dX10_readItem_117 : decode cX10_readItem 117 = .ok (.iastore, 1) := by decide +kernel
theorem dX10_readItem_118 : decode cX10_readItem 118 = .ok (.aload_n 0, 1) := by decide +kernel
theorem dX10_readItem_119 : decode cX10_readItem 119 = .ok (.getfield 23, 3) := by decide +kernel
theorem dX10_readItem_122 : decode cX10_readItem 122 = .ok (.iload_n 3, 1) := by decide +kernel
theorem dX10_readItem_123 : decode cX10_readItem 123 = .ok (.aload_n 0, 1) := by decide +kernel
theorem dX10_readItem_124 : decode cX10_readItem 124 = .ok (.iconst 1, 1) := by decide +kernel
theorem dX10_readItem_125 : decode cX10_readItem 125 = .ok (.bipush 9, 2) := by decide +kernel
theorem dX10_readItem_127 : decode cX10_readItem 127 = .ok (.invokevirtual 113, 3) := by decide +kernel
theorem dX10_readItem_130 : decode cX10_readItem 130 = .ok (.iastore, 1) := by decide +kernel
theorem dX10_readItem_131 : decode cX10_readItem 131 = .ok (.aload_n 0, 1) := by decide +kernel
theorem dX10_readItem_132 : decode cX10_readItem 132 = .ok (.getfield 26, 3) := by decide +kernel
theorem dX10_readItem_135 : decode cX10_readItem 135 = .ok (.iload_n 3, 1) := by decide +kernel
theorem dX10_readItem_136 : decode cX10_readItem 136 = .ok (.aload_n 0, 1) := by decide +kernel
theorem dX10_readItem_137 : decode cX10_readItem 137 = .ok (.iconst 1, 1) := by decide +kernel
theorem dX10_readItem_138 : decode cX10_readItem 138 = .ok (.bipush 9, 2) := by decide +kernel
theorem dX10_readItem_140 : decode cX10_readItem 140 = .ok (.invokevirtual 113, 3) := by decide +kernel
theorem dX10_readItem_143 : decode cX10_readItem 143 = .ok (.iastore, 1) := by decide +kernel
theorem dX10_readItem_144 : decode cX10_readItem 144 = .ok (.aload_n 0, 1) := by decide +kernel
theorem dX10_readItem_145 : decode cX10_readItem 145 = .ok (.getfield 13, 3) := by decide +kernel
theorem dX10_readItem_148 : decode cX10_readItem 148 = .ok (.iconst 1, 1) := by decide +kernel
theorem dX10_readItem_149 : decode cX10_readItem 149 = .ok (.dup2, 1) := by decide +kernel
theorem dX10_readItem_150 : decode cX10_readItem 150 = .ok (.iaload, 1) := by decide +kernel
theorem dX10_readItem_151 : decode cX10_readItem 151 = .ok (.iconst 1, 1) := by decide +kernel
theorem dX10_readItem_152 : decode cX10_readItem 152 = .ok (.iadd, 1) := by decide +kernel
theorem dX10_readItem_153 : decode cX10_readItem 153 = .ok (.iastore, 1) := by decide +kernel
theorem dX10_readItem_154 : decode cX10_readItem 154 = .ok (.goto 174, 3) := by decide +kernel
theorem dX10_readItem_157 : decode cX10_readItem 157 = .ok (.iload_n 1, 1) := by decide +kernel
theorem dX10_readItem_158 : decode cX10_readItem 158 = .ok (.iconst 2, 1) := by decide +kernel
theorem dX10_readItem_159 : decode cX10_readItem 159 = .ok (.if_icmp .ne 111, 3) := by decide +kernel
theorem dX10_readItem_162 : decode cX10_readItem 162 = .ok (.aload_n 0, 1) := by decide +kernel
theorem dX10_readItem_163 : decode cX10_readItem 163 = .ok (.iconst 0, 1) := by decide +kernel
theorem dX10_readItem_164 : decode cX10_readItem 164 = .ok (.aload_n 0, 1) := by decide +kernel
theorem dX10_readItem_165 : decode cX10_readItem 165 = .ok (.getfield 13, 3) := by decide +kernel
theorem dX10_readItem_168 : decode cX10_readItem 168 = .ok (.iconst 1, 1) := by decide +kernel
theorem dX10_readItem_169 : decode cX10_readItem 169 = .ok (.iaload, 1) := by decide +kernel
theorem dX10_readItem_170 : decode cX10_readItem 170 = .ok (.iconst 1, 1) := by decide +kernel
theorem dX10_readItem_171 : decode cX10_readItem 171 = .ok (.isub, 1) := by decide +kernel
theorem dX10_readItem_172 : decode cX10_readItem 172 = .ok (.invokevirtual 113, 3) := by decide +kernel
theorem dX10_readItem_175 : decode cX10_readItem 175 = .ok (.istore_n 3, 1) := by decide +kernel
theorem dX10_readItem_176 : decode cX10_readItem 176 = .ok (.aload_n 0, 1) := by decide +kernel
theorem dX10_readItem_177 : decode cX10_readItem 177 = .ok (.getfield 96, 3) := by decide +kernel
theorem dX10_readItem_180 : decode cX10_readItem 180 = .ok (.iconst 5, 1) := by decide +kernel
theorem dX10_readItem_181 : decode cX10_readItem 181 = .ok (.if_icmp .ne 34, 3) := by decide +kernel
theorem dX10_readItem_184 : decode cX10_readItem 184 = .ok (.aload_n 0, 1) := by decide +kernel
theorem dX10_readItem_185 : decode cX10_readItem 185 = .ok (.getfield 93, 3) := by decide +kernel
theorem dX10_readItem_188 : decode cX10_readItem 188 = .ok (.iconst 0, 1) := by decide +kernel
theorem dX10_readItem_189 : decode cX10_readItem 189 = .ok (.aload_n 0, 1) := by decide +kernel
theorem dX10_readItem_190 : decode cX10_readItem 190 = .ok (.getfield 13, 3) := by decide +kernel
theorem dX10_readItem_193 : decode cX10_readItem 193 = .ok (.iconst 1, 1) := by decide +kernel
theorem dX10_readItem_194 : decode cX10_readItem 194 = .ok (.iaload, 1) := by decide +kernel
theorem dX10_readItem_195 : decode cX10_readItem 195 = .ok (.iconst 1, 1) := by decide +kernel
theorem dX10_readItem_196 : decode cX10_readItem 196 = .ok (.isub, 1) := by decide +kernel
theorem dX10_readItem_197 : decode cX10_readItem 197 = .ok (.invokestatic 72, 3) := by decide +kernel
theorem dX10_readItem_200 : decode cX10_readItem 200 = .ok (.ifCond .eq 15, 3) := by decide +kernel
theorem dX10_readItem_203 : decode cX10_readItem 203 = .ok (.aload_n 0, 1) := by decide +kernel
theorem dX10_readItem_204 : decode cX10_readItem 204 = .ok (.getfield 93, 3) := by decide +kernel
theorem dX10_readItem_207 : decode cX10_readItem 207 = .ok (.iload_n 3, 1) := by decide +kernel
theorem dX10_readItem_208 : decode cX10_readItem 208 = .ok (.if_icmp .eq 7, 3) := by decide +kernel
theorem dX10_readItem_211 : decode cX10_readItem 211 = .ok (.iconst 1, 1) := by decide +kernel
theorem dX10_readItem_212 : decode cX10_readItem 212 = .ok (.goto 4, 3) := by decide +kernel
theorem dX10_readItem_215 : decode cX10_readItem 215 = .ok (.iconst 0, 1) := by decide +kernel
theorem dX10_readItem_216 : decode cX10_readItem 216 = .ok (.istore 4, 2) := by decide +kernel
theorem dX10_readItem_218 : decode cX10_readItem 218 = .ok (.aload_n 0, 1) := by decide +kernel
theorem dX10_readItem_219 : decode cX10_readItem 219 = .ok (.iload 4, 2) := by decide +kernel
theorem dX10_readItem_221 : decode cX10_readItem 221 = .ok (.invokevirtual 109, 3) := by decide +kernel
theorem dX10_readItem_224 : decode cX10_readItem 224 = .ok (.istore 5, 2) := by decide +kernel
theorem dX10_readItem_226 : decode cX10_readItem 226 = .ok (.aload_n 0, 1) := by decide +kernel
theorem dX10_readItem_227 : decode cX10_readItem 227 = .ok (.getfield 103, 3) := by decide +kernel
theorem dX10_readItem_230 : decode cX10_readItem 230 = .ok (.bipush (-9), 2) := by decide +kernel
theorem dX10_readItem_232 : decode cX10_readItem 232 = .ok (.if_icmp .ne 35, 3) := by decide +kernel
theorem dX10_readItem_235 : decode cX10_readItem 235 = .ok (.aload_n 0, 1) := by decide +kernel
theorem dX10_readItem_236 : decode cX10_readItem 236 = .ok (.getfield 29, 3) := by decide +kernel
theorem dX10_readItem_239 : decode cX10_readItem 239 = .ok (.bipush 64, 2) := by decide +kernel
theorem dX10_readItem_241 : decode cX10_readItem 241 = .ok (.bipush 8, 2) := by decide +kernel
theorem dX10_readItem_243 : decode cX10_readItem 243 = .ok (.iload_n 3, 1) := by decide +kernel
theorem dX10_readItem_244 : decode cX10_readItem 244 = .ok (.imul, 1) := by decide +kernel
theorem dX10_readItem_245 : decode cX10_readItem 245 = .ok (.iadd, 1) := by decide +kernel
theorem dX10_readItem_246 : decode cX10_readItem 246 = .ok (.iload 5, 2) := by decide +kernel
theorem dX10_readItem_248 : decode cX10_readItem 248 = .ok (.iadd, 1) := by decide +kernel
theorem dX10_readItem_249 : decode cX10_readItem 249 = .ok (.iconst 1, 1) := by decide +kernel
theorem dX10_readItem_250 : decode cX10_readItem 250 = .ok (.bastore, 1) := by decide +kernel
theorem dX10_readItem_251 : decode cX10_readItem 251 = .ok (.aload_n 0, 1) := by decide +kernel
theorem dX10_readItem_252 : decode cX10_readItem 252 = .ok (.getfield 29, 3) := by decide +kernel
theorem dX10_readItem_255 : decode cX10_readItem 255 = .ok (.bipush 64, 2) := by decide +kernel
theorem dX10_readItem_257 : decode cX10_readItem 257 = .ok (.bipush 8, 2) := by decide +kernel
theorem dX10_readItem_259 : decode cX10_readItem 259 = .ok (.iload 5, 2) := by decide +kernel
theorem dX10_readItem_261 : decode cX10_readItem 261 = .ok (.imul, 1) := by decide +kernel
theorem dX10_readItem_262 : decode cX10_readItem 262 = .ok (.iadd, 1) := by decide +kernel
theorem dX10_readItem_263 : decode cX10_readItem 263 = .ok (.iload_n 3, 1) := by decide +kernel
theorem dX10_readItem_264 : decode cX10_readItem 264 = .ok (.iadd, 1) := by decide +kernel
theorem dX10_readItem_265 : decode cX10_readItem 265 = .ok (.iconst 1, 1) := by decide +kernel
theorem dX10_readItem_266 : decode cX10_readItem 266 = .ok (.bastore, 1) := by decide +kernel
theorem dX10_readItem_267 : decode cX10_readItem 267 = .ok (.goto 61, 3) := by decide +kernel
theorem dX10_readItem_270 : decode cX10_readItem 270 = .ok (.iconst 5, 1) := by decide +kernel
theorem dX10_readItem_271 : decode cX10_readItem 271 = .ok (.aload_n 0, 1) := by decide +kernel
theorem dX10_readItem_272 : decode cX10_readItem 272 = .ok (.getfield 33, 3) := by decide +kernel
theorem dX10_readItem_275 : decode cX10_readItem 275 = .ok (.iconst 1, 1) := by decide +kernel
theorem dX10_readItem_276 : decode cX10_readItem 276 = .ok (.iaload, 1) := by decide +kernel
theorem dX10_readItem_277 : decode cX10_readItem 277 = .ok (.iadd, 1) := by decide +kernel
theorem dX10_readItem_278 : decode cX10_readItem 278 = .ok (.istore_n 3, 1) := by decide +kernel
theorem dX10_readItem_279 : decode cX10_readItem 279 = .ok (.aload_n 0, 1) := by decide +kernel
theorem dX10_readItem_280 : decode cX10_readItem 280 = .ok (.getfield 36, 3) := by decide +kernel
theorem dX10_readItem_283 : decode cX10_readItem 283 = .ok (.iload_n 3, 1) := by decide +kernel
theorem dX10_readItem_284 : decode cX10_readItem 284 = .ok (.aload_n 0, 1) := by decide +kernel
theorem dX10_readItem_285 : decode cX10_readItem 285 = .ok (.iconst 1, 1) := by decide +kernel
theorem dX10_readItem_286 : decode cX10_readItem 286 = .ok (.bipush 9, 2) := by decide +kernel
theorem dX10_readItem_288 : decode cX10_readItem 288 = .ok (.invokevirtual 113, 3) := by decide +kernel
theorem dX10_readItem_291 : decode cX10_readItem 291 = .ok (.iastore, 1) := by decide +kernel
theorem dX10_readItem_292 : decode cX10_readItem 292 = .ok (.aload_n 0, 1) := by decide +kernel
theorem dX10_readItem_293 : decode cX10_readItem 293 = .ok (.getfield 39, 3) := by decide +kernel
theorem dX10_readItem_296 : decode cX10_readItem 296 = .ok (.iload_n 3, 1) := by decide +kernel
theorem dX10_readItem_297 : decode cX10_readItem 297 = .ok (.aload_n 0, 1) := by decide +kernel
theorem dX10_readItem_298 : decode cX10_readItem 298 = .ok (.iconst 0, 1) := by decide +kernel
theorem dX10_readItem_299 : decode cX10_readItem 299 = .ok (.bipush 20, 2) := by decide +kernel
theorem dX10_readItem_301 : decode cX10_readItem 301 = .ok (.invokevirtual 113, 3) := by decide +kernel
theorem dX10_readItem_304 : decode cX10_readItem 304 = .ok (.iastore, 1) := by decide +kernel
theorem dX10_readItem_305 : decode cX10_readItem 305 = .ok (.aload_n 0, 1) := by decide +kernel
theorem dX10_readItem_306 : decode cX10_readItem 306 = .ok (.getfield 42, 3) := by decide +kernel
theorem dX10_readItem_309 : decode cX10_readItem 309 = .ok (.iload_n 3, 1) := by decide +kernel
theorem dX10_readItem_310 : decode cX10_readItem 310 = .ok (.aload_n 0, 1) := by decide +kernel
theorem dX10_readItem_311 : decode cX10_readItem 311 = .ok (.iconst 0, 1) := by decide +kernel
theorem dX10_readItem_312 : decode cX10_readItem 312 = .ok (.bipush 99, 2) := by decide +kernel
theorem dX10_readItem_314 : decode cX10_readItem 314 = .ok (.invokevirtual 113, 3) := by decide +kernel
theorem dX10_readItem_317 : decode cX10_readItem 317 = .ok (.iastore, 1) := by decide +kernel
theorem dX10_readItem_318 : decode cX10_readItem 318 = .ok (.aload_n 0, 1) := by decide +kernel
theorem dX10_readItem_319 : decode cX10_readItem 319 = .ok (.getfield 33, 3) := by decide +kernel
theorem dX10_readItem_322 : decode cX10_readItem 322 = .ok (.iconst 1, 1) := by decide +kernel
theorem dX10_readItem_323 : decode cX10_readItem 323 = .ok (.dup2, 1) := by decide +kernel
theorem dX10_readItem_324 : decode cX10_readItem 324 = .ok (.iaload, 1) := by decide +kernel
theorem dX10_readItem_325 : decode cX10_readItem 325 = .ok (.iconst 1, 1) := by decide +kernel
theorem dX10_readItem_326 : decode cX10_readItem 326 = .ok (.iadd, 1) := by decide +kernel
theorem dX10_readItem_327 : decode cX10_readItem 327 = .ok (.iastore, 1) := by decide +kernel
theorem dX10_readItem_328 : decode cX10_readItem 328 = .ok (.aload_n 0, 1) := by decide +kernel
theorem dX10_readItem_329 : decode cX10_readItem 329 = .ok (.aload_n 0, 1) := by decide +kernel
theorem dX10_readItem_330 : decode cX10_readItem 330 = .ok (.getfield 96, 3) := by decide +kernel
theorem dX10_readItem_333 : decode cX10_readItem 333 = .ok (.bipush 6, 2) := by decide +kernel
theorem dX10_readItem_335 : decode cX10_readItem 335 = .ok (.if_icmp .ne 7, 3) := by decide +kernel
theorem dX10_readItem_338 : decode cX10_readItem 338 = .ok (.iconst 1, 1) := by decide +kernel
theorem dX10_readItem_339 : decode cX10_readItem 339 = .ok (.goto 4, 3) := by decide +kernel
theorem dX10_readItem_342 : decode cX10_readItem 342 = .ok (.iconst 0, 1) := by decide +kernel
theorem dX10_readItem_343 : decode cX10_readItem 343 = .ok (.invokevirtual 109, 3) := by decide +kernel
theorem dX10_readItem_346 : decode cX10_readItem 346 = .ok (.pop, 1) := by decide +kernel
theorem dX10_readItem_347 : decode cX10_readItem 347 = .ok (.return_, 1) := by decide +kernel
set_option maxRecDepth 20000 in
theorem ggX10_orchard_X10_next : GoodIn wsX10_orchard wsX10_next := goodIn_r _ [21, 1, 22, 23, 6, 24, 25, 26, 20, 27, 16, 28, 29, 30, 31, 32, 33, 34, 35, 52, 53, 54, 55, 56, 57, 58, 59, 60, 61, 62, 63, 64, 65, 66, 67, 68, 69, 70, 71, 72, 73, 74, 75, 76, 77, 78] (by decide +kernel) (by decide +kernel)
set_option maxRecDepth 20000 in
theorem gX10_orchard_X10_next : GoodIn wsX10_orchard (wsV RX10 106 RX10 yX10_next wsX10_next) := goodIn_app (goodIn_of _ (by decide +kernel)) ggX10_orchard_X10_next
set_option maxRecDepth 20000 in
theorem ggX10_orchard_X10_readItem : GoodIn wsX10_orchard wsX10_readItem := goodIn_r _ [39, 6, 3, 4, 2, 7, 8, 9, 10, 23, 5, 11, 12, 13, 40, 41, 42, 20, 43, 22, 17, 18, 19, 21, 1, 24, 25, 26, 27, 16, 28, 29, 30, 31, 32, 33, 34, 35, 44, 45, 46, 47, 52, 53, 54, 55, 56, 57, 58, 59, 60, 61, 62, 63, 64, 65, 66, 67, 68, 69, 70, 71, 72, 73, 74, 75, 76, 77, 78] (by decide +kernel) (by decide +kernel)
set_option maxRecDepth 20000 in
theorem gX10_orchard_X10_readItem : GoodIn wsX10_orchard (wsV RX10 116 RX10 yX10_readItem wsX10_readItem) := goodIn_app (goodIn_of _ (by decide +kernel)) ggX10_orchard_X10_readItem
set_option maxRecDepth 20000 in
theorem ggX10_orchard_X10_begin : GoodIn wsX10_orchard wsX10_begin := goodIn_r _ [51, 14, 52, 53, 54, 55, 56, 57, 58, 59, 60, 61, 62, 63, 64, 65, 66, 67, 68, 69, 70, 71, 72, 73, 74, 75, 76, 77, 78] (by decide +kernel) (by decide +kernel)
set_option maxRecDepth 20000 in
theorem gX10_orchard_X10_begin : GoodIn wsX10_orchard (wsV RX10 119 RX10 yX10_begin wsX10_begin) := goodIn_app (goodIn_of _ (by decide +kernel)) ggX10_orchard_X10_begin
theorem dX10_orchard_0 : decode cX10_orchard 0 = .ok (.aload_n 0, 1) := by decide +kernel
theorem dX10_orchard_1 : decode cX10_orchard 1 = .ok (.iconst 0, 1) := by decide +kernel
theorem dX10_orchard_2 : decode cX10_orchard 2 = .ok (.putfield 82, 3) := by decide +kernel
theorem dX10_orchard_5 : decode cX10_orchard 5 = .ok (.aload_n 0, 1) := by decide +kernel
theorem dX10_orchard_6 : decode cX10_orchard 6 = .ok (.bipush (-9), 2) := by decide +kernel
theorem dX10_orchard_8 : decode cX10_orchard 8 = .ok (.putfield 103, 3) := by decide +kernel
theorem dX10_orchard_11 : decode cX10_orchard 11 = .ok (.aload_n 0, 1) := by decide +kernel
theorem dX10_orchard_12 : decode cX10_orchard 12 = .ok (.getfield 13, 3) := by decide +kernel
theorem dX10_orchard_15 : decode cX10_orchard 15 = .ok (.iconst 1, 1) := by decide +kernel
theorem dX10_orchard_16 : decode cX10_orchard 16 = .ok (.iconst 0, 1) := by decide +kernel
theorem dX10_orchard_17 : decode cX10_orchard 17 = .ok (.iastore, 1) := by decide +kernel
theorem dX10_orchard_18 : decode cX10_orchard 18 = .ok (.aload_n 0, 1) := by decide +kernel
theorem dX10_orchard_19 : decode cX10_orchard 19 = .ok (.getfield 33, 3) := by decide +kernel
theorem dX10_orchard_22 : decode cX10_orchard 22 = .ok (.iconst 1, 1) := by decide +kernel
theorem dX10_orchard_23 : decode cX10_orchard 23 = .ok (.iconst 0, 1) := by decide +kernel
theorem dX10_orchard_24 : decode cX10_orchard 24 = .ok (.iastore, 1) := by decide +kernel
theorem dX10_orchard_25 : decode cX10_orchard 25 = .ok (.bipush 64, 2) := by decide +kernel
theorem dX10_orchard_27 : decode cX10_orchard 27 = .ok (.istore_n 1, 1) := by decide +kernel
theorem dX10_orchard_28 : decode cX10_orchard 28 = .ok (.iload_n 1, 1) := by decide +kernel
theorem dX10_orchard_29 : decode cX10_orchard 29 = .ok (.sipush 128, 3) := by decide +kernel
theorem dX10_orchard_32 : decode cX10_orchard 32 = .ok (.if_icmp .ge 16, 3) := by decide +kernel
theorem dX10_orchard_35 : decode cX10_orchard 35 = .ok (.aload_n 0, 1) := by decide +kernel
theorem dX10_orchard_36 : decode cX10_orchard 36 = .ok (.getfield 29, 3) := by decide +kernel
theorem dX10_orchard_39 : decode cX10_orchard 39 = .ok (.iload_n 1, 1) := by decide +kernel
theorem dX10_orchard_40 : decode cX10_orchard 40 = .ok (.iconst 0, 1) := by decide +kernel
theorem dX10_orchard_41 : decode cX10_orchard 41 = .ok (.bastore, 1) := by decide +kernel
theorem dX10_orchard_42 : decode cX10_orchard 42 = .ok (.iinc 1 1, 3) := by decide +kernel
theorem dX10_orchard_45 : decode cX10_orchard 45 = .ok (.goto (-17), 3) := by decide +kernel
theorem dX10_orchard_48 : decode cX10_orchard 48 = .ok (.iconst 0, 1) := by decide +kernel
theorem dX10_orchard_49 : decode cX10_orchard 49 = .ok (.istore_n 1, 1) := by decide +kernel
theorem dX10_orchard_50 : decode cX10_orchard 50 = .ok (.aload_n 0, 1) := by decide +kernel
theorem dX10_orchard_51 : decode cX10_orchard 51 = .ok (.invokevirtual 106, 3) := by decide +kernel
theorem dX10_orchard_54 : decode cX10_orchard 54 = .ok (.aload_n 0, 1) := by decide +kernel
theorem dX10_orchard_55 : decode cX10_orchard 55 = .ok (.getfield 103, 3) := by decide +kernel
theorem dX10_orchard_58 : decode cX10_orchard 58 = .ok (.bipush (-9), 2) := by decide +kernel
theorem dX10_orchard_60 : decode cX10_orchard 60 = .ok (.if_icmp .ne 21, 3) := by decide +kernel
theorem dX10_orchard_63 : decode cX10_orchard 63 = .ok (.aload_n 0, 1) := by decide +kernel
theorem dX10_orchard_64 : decode cX10_orchard 64 = .ok (.getfield 96, 3) := by decide +kernel
theorem dX10_orchard_67 : decode cX10_orchard 67 = .ok (.iconst 4, 1) := by decide +kernel
theorem dX10_orchard_68 : decode cX10_orchard 68 = .ok (.if_icmp .eq 13, 3) := by decide +kernel
theorem dX10_orchard_71 : decode cX10_orchard 71 = .ok (.aload_n 0, 1) := by decide +kernel
theorem dX10_orchard_72 : decode cX10_orchard 72 = .ok (.invokevirtual 116, 3) := by decide +kernel
theorem dX10_orchard_75 : decode cX10_orchard 75 = .ok (.iinc 1 1, 3) := by decide +kernel
theorem dX10_orchard_78 : decode cX10_orchard 78 = .ok (.goto (-24), 3) := by decide +kernel
theorem dX10_orchard_81 : decode cX10_orchard 81 = .ok (.aload_n 0, 1) := by decide +kernel
theorem dX10_orchard_82 : decode cX10_orchard 82 = .ok (.getfield 103, 3) := by decide +kernel
theorem dX10_orchard_85 : decode cX10_orchard 85 = .ok (.bipush (-9), 2) := by decide +kernel
theorem dX10_orchard_87 : decode cX10_orchard 87 = .ok (.if_icmp .eq 11, 3) := by decide +kernel
theorem dX10_orchard_90 : decode cX10_orchard 90 = .ok (.bipush (-10), 2) := by decide +kernel
theorem dX10_orchard_92 : decode cX10_orchard 92 = .ok (.aload_n 0, 1) := by decide +kernel
theorem dX10_orchard_93 : decode cX10_orchard 93 = .ok (.getfield 103, 3) := by decide +kernel
theorem dX10_orchard_96 : decode cX10_orchard 96 = .ok (.isub, 1) := by decide +kernel
theorem dX10_orchard_97 : decode cX10_orchard 97 = .ok (.ireturn, 1) := by decide +kernel
theorem dX10_orchard_98 : decode cX10_orchard 98 = .ok (.aload_n 0, 1) := by decide +kernel
theorem dX10_orchard_99 : decode cX10_orchard 99 = .ok (.getfield 13, 3) := by decide +kernel
theorem dX10_orchard_102 : decode cX10_orchard 102 = .ok (.iconst 0, 1) := by decide +kernel
theorem dX10_orchard_103 : decode cX10_orchard 103 = .ok (.aload_n 0, 1) := by decide +kernel
theorem dX10_orchard_104 : decode cX10_orchard 104 = .ok (.getfield 13, 3) := by decide +kernel
theorem dX10_orchard_107 : decode cX10_orchard 107 = .ok (.iconst 1, 1) := by decide +kernel
theorem dX10_orchard_108 : decode cX10_orchard 108 = .ok (.iaload, 1) := by decide +kernel
theorem dX10_orchard_109 : decode cX10_orchard 109 = .ok (.iastore, 1) := by decide +kernel
theorem dX10_orchard_110 : decode cX10_orchard 110 = .ok (.aload_n 0, 1) := by decide +kernel
theorem dX10_orchard_111 : decode cX10_orchard 111 = .ok (.getfield 33, 3) := by decide +kernel
theorem dX10_orchard_114 : decode cX10_orchard 114 = .ok (.iconst 0, 1) := by decide +kernel
theorem dX10_orchard_115 : decode cX10_orchard 115 = .ok (.aload_n 0, 1) := by decide +kernel
theorem dX10_orchard_116 : decode cX10_orchard 116 = .ok (.getfield 33, 3) := by decide +kernel
theorem dX10_orchard_119 : decode cX10_orchard 119 = .ok (.iconst 1, 1) := by decide +kernel
theorem dX10_orchard_120 : decode cX10_orchard 120 = .ok (.iaload, 1) := by decide +kernel
theorem dX10_orchard_121 : decode cX10_orchard 121 = .ok (.iastore, 1) := by decide +kernel
theorem dX10_orchard_122 : decode cX10_orchard 122 = .ok (.iconst 0, 1) := by decide +kernel
theorem dX10_orchard_123 : decode cX10_orchard 123 = .ok (.istore_n 2, 1) := by decide +kernel
theorem dX10_orchard_124 : decode cX10_orchard 124 = .ok (.iload_n 2, 1) := by decide +kernel
theorem dX10_orchard_125 : decode cX10_orchard 125 = .ok (.bipush 8, 2) := by decide +kernel
theorem dX10_orchard_127 : decode cX10_orchard 127 = .ok (.if_icmp .ge 69, 3) := by decide +kernel
theorem dX10_orchard_130 : decode cX10_orchard 130 = .ok (.aload_n 0, 1) := by decide +kernel
theorem dX10_orchard_131 : decode cX10_orchard 131 = .ok (.getfield 17, 3) := by decide +kernel
theorem dX10_orchard_134 : decode cX10_orchard 134 = .ok (.iload_n 2, 1) := by decide +kernel
theorem dX10_orchard_135 : decode cX10_orchard 135 = .ok (.aload_n 0, 1) := by decide +kernel
theorem dX10_orchard_136 : decode cX10_orchard 136 = .ok (.getfield 17, 3) := by decide +kernel
theorem dX10_orchard_139 : decode cX10_orchard 139 = .ok (.bipush 8, 2) := by decide +kernel
theorem dX10_orchard_141 : decode cX10_orchard 141 = .ok (.iload_n 2, 1) := by decide +kernel
theorem dX10_orchard_142 : decode cX10_orchard 142 = .ok (.iadd, 1) := by decide +kernel
theorem dX10_orchard_143 : decode cX10_orchard 143 = .ok (.iaload, 1) := by decide +kernel
theorem dX10_orchard_144 : decode cX10_orchard 144 = .ok (.iastore, 1) := by decide +kernel
theorem dX10_orchard_145 : decode cX10_orchard 145 = .ok (.aload_n 0, 1) := by decide +kernel
theorem dX10_orchard_146 : decode cX10_orchard 146 = .ok (.getfield 20, 3) := by decide +kernel
theorem dX10_orchard_149 : decode cX10_orchard 149 = .ok (.iload_n 2, 1) := by decide +kernel
theorem dX10_orchard_150 : decode cX10_orchard 150 = .ok (.aload_n 0, 1) := by decide +kernel
theorem dX10_orchard_151 : decode cX10_orchard 151 = .ok (.getfield 20, 3) := by decide +kernel
theorem dX10_orchard_154 : decode cX10_orchard 154 = .ok (.bipush 8, 2) := by decide +kernel
theorem dX10_orchard_156 : decode cX10_orchard 156 = .ok (.iload_n 2, 1) := by decide +kernel
theorem dX10_orchard_157 : decode cX10_orchard 157 = .ok (.iadd, 1) := by decide +kernel
theorem dX10_orchard_158 : decode cX10_orchard 158 = .ok (.iaload, 1) := by decide +kernel
theorem dX10_orchard_159 : decode cX10_orchard 159 = .ok (.iastore, 1) := by decide +kernel
theorem dX10_orchard_160 : decode cX10_orchard 160 = .ok (.aload_n 0, 1) := by decide +kernel
theorem dX10_orchard_161 : decode cX10_orchard 161 = .ok (.getfield 23, 3) := by decide +kernel
theorem dX10_orchard_164 : decode cX10_orchard 164 = .ok (.iload_n 2, 1) := by decide +kernel
theorem dX10_orchard_165 : decode cX10_orchard 165 = .ok (.aload_n 0, 1) := by decide +kernel
theorem dX10_orchard_166 : decode cX10_orchard 166 = .ok (.getfield 23, 3) := by decide +kernel
theorem dX10_orchard_169 : decode cX10_orchard 169 = .ok (.bipush 8, 2) := by decide +kernel
theorem dX10_orchard_171 : decode cX10_orchard 171 = .ok (.iload_n 2, 1) := by decide +kernel
theorem dX10_orchard_172 : decode cX10_orchard 172 = .ok (.iadd, 1) := by decide +kernel
theorem dX10_orchard_173 : decode cX10_orchard 173 = .ok (.iaload, 1) := by decide +kernel
theorem dX10_orchard_174 : decode cX10_orchard 174 = .ok (.iastore, 1) := by decide +kernel
theorem dX10_orchard_175 : decode cX10_orchard 175 = .ok (.aload_n 0, 1) := by decide +kernel
theorem dX10_orchard_176 : decode cX10_orchard 176 = .ok (.getfield 26, 3) := by decide +kernel
theorem dX10_orchard_179 : decode cX10_orchard 179 = .ok (.iload_n 2, 1) := by decide +kernel
theorem dX10_orchard_180 : decode cX10_orchard 180 = .ok (.aload_n 0, 1) := by decide +kernel
theorem dX10_orchard_181 : decode cX10_orchard 181 = .ok (.getfield 26, 3) := by decide +kernel
theorem dX10_orchard_184 : decode cX10_orchard 184 = .ok (.bipush 8, 2) := by decide +kernel
theorem dX10_orchard_186 : decode cX10_orchard 186 = .ok (.iload_n 2, 1) := by decide +kernel
theorem dX10_orchard_187 : decode cX10_orchard 187 = .ok (.iadd, 1) := by decide +kernel
theorem dX10_orchard_188 : decode cX10_orchard 188 = .ok (.iaload, 1) := by decide +kernel
theorem dX10_orchard_189 : decode cX10_orchard 189 = .ok (.iastore, 1) := by decide +kernel
theorem dX10_orchard_190 : decode cX10_orchard 190 = .ok (.iinc 2 1, 3) := by decide +kernel
theorem dX10_orchard_193 : decode cX10_orchard 193 = .ok (.goto (-69), 3) := by decide +kernel
theorem dX10_orchard_196 : decode cX10_orchard 196 = .ok (.iconst 0, 1) := by decide +kernel
theorem dX10_orchard_197 : decode cX10_orchard 197 = .ok (.istore_n 2, 1) := by decide +kernel
theorem dX10_orchard_198 : decode cX10_orchard 198 = .ok (.iload_n 2, 1) := by decide +kernel
theorem dX10_orchard_199 : decode cX10_orchard 199 = .ok (.bipush 64, 2) := by decide +kernel
theorem dX10_orchard_201 : decode cX10_orchard 201 = .ok (.if_icmp .ge 24, 3) := by decide +kernel
theorem dX10_orchard_204 : decode cX10_orchard 204 = .ok (.aload_n 0, 1) := by decide +kernel
theorem dX10_orchard_205 : decode cX10_orchard 205 = .ok (.getfield 29, 3) := by decide +kernel
theorem dX10_orchard_208 : decode cX10_orchard 208 = .ok (.iload_n 2, 1) := by decide +kernel
theorem dX10_orchard_209 : decode cX10_orchard 209 = .ok (.aload_n 0, 1) := by decide +kernel
theorem dX10_orchard_210 : decode cX10_orchard 210 = .ok (.getfield 29, 3) := by decide +kernel
theorem dX10_orchard_213 : decode cX10_orchard 213 = .ok (.bipush 64, 2) := by decide +kernel
theorem dX10_orchard_215 : decode cX10_orchard 215 = .ok (.iload_n 2, 1) := by decide +kernel
theorem dX10_orchard_216 : decode cX10_orchard 216 = .ok (.iadd, 1) := by decide +kernel
theorem dX10_orchard_217 : decode cX10_orchard 217 = .ok (.baload, 1) := by decide +kernel
theorem dX10_orchard_218 : decode cX10_orchard 218 = .ok (.bastore, 1) := by decide +kernel
theorem dX10_orchard_219 : decode cX10_orchard 219 = .ok (.iinc 2 1, 3) := by decide +kernel
theorem dX10_orchard_222 : decode cX10_orchard 222 = .ok (.goto (-24), 3) := by decide +kernel
theorem dX10_orchard_225 : decode cX10_orchard 225 = .ok (.iconst 0, 1) := by decide +kernel
theorem dX10_orchard_226 : decode cX10_orchard 226 = .ok (.istore_n 2, 1) := by decide +kernel
theorem dX10_orchard_227 : decode cX10_orchard 227 = .ok (.iload_n 2, 1) := by decide +kernel
theorem dX10_orchard_228 : decode cX10_orchard 228 = .ok (.iconst 5, 1) := by decide +kernel
theorem dX10_orchard_229 : decode cX10_orchard 229 = .ok (.if_icmp .ge 51, 3) := by decide +kernel
theorem dX10_orchard_232 : decode cX10_orchard 232 = .ok (.aload_n 0, 1) := by decide +kernel
theorem dX10_orchard_233 : decode cX10_orchard 233 = .ok (.getfield 36, 3) := by decide +kernel
theorem dX10_orchard_236 : decode cX10_orchard 236 = .ok (.iload_n 2, 1) := by decide +kernel
theorem dX10_orchard_237 : decode cX10_orchard 237 = .ok (.aload_n 0, 1) := by decide +kernel
theorem dX10_orchard_238 : decode cX10_orchard 238 = .ok (.getfield 36, 3) := by decide +kernel
theorem dX10_orchard_241 : decode cX10_orchard 241 = .ok (.iconst 5, 1) := by decide +kernel
theorem dX10_orchard_242 : decode cX10_orchard 242 = .ok (.iload_n 2, 1) := by decide +kernel
theorem dX10_orchard_243 : decode cX10_orchard 243 = .ok (.iadd, 1) := by decide +kernel
theorem dX10_orchard_244 : decode cX10_orchard 244 = .ok (.iaload, 1) := by decide +kernel
theorem dX10_orchard_245 : decode cX10_orchard 245 = .ok (.iastore, 1) := by decide +kernel
theorem dX10_orchard_246 : decode cX10_orchard 246 = .ok (.aload_n 0, 1) := by decide +kernel
theorem dX10_orchard_247 : decode cX10_orchard 247 = .ok (.getfield 39, 3) := by decide +kernel
theorem dX10_orchard_250 : decode cX10_orchard 250 = .ok (.iload_n 2, 1) := by decide +kernel
theorem dX10_orchard_251 : decode cX10_orchard 251 = .ok (.aload_n 0, 1) := by decide +kernel
theorem dX10_orchard_252 : decode cX10_orchard 252 = .ok (.getfield 39, 3) := by decide +kernel
theorem dX10_orchard_255 : decode cX10_orchard 255 = .ok (.iconst 5, 1) := by decide +kernel
theorem dX10_orchard_256 : decode cX10_orchard 256 = .ok (.iload_n 2, 1) := by decide +kernel
theorem dX10_orchard_257 : decode cX10_orchard 257 = .ok (.iadd, 1) := by decide +kernel
theorem dX10_orchard_258 : decode cX10_orchard 258 = .ok (.iaload, 1) := by decide +kernel
theorem dX10_orchard_259 : decode cX10_orchard 259 = .ok (.iastore, 1) := by decide +kernel
theorem dX10_orchard_260 : decode cX10_orchard 260 = .ok (.aload_n 0, 1) := by decide +kernel
theorem dX10_orchard_261 : decode cX10_orchard 261 = .ok (.getfield 42, 3) := by decide +kernel
theorem dX10_orchard_264 : decode cX10_orchard 264 = .ok (.iload_n 2, 1) := by decide +kernel
theorem dX10_orchard_265 : decode cX10_orchard 265 = .ok (.aload_n 0, 1) := by decide +kernel
theorem dX10_orchard_266 : decode cX10_orchard 266 = .ok (.getfield 42, 3) := by decide +kernel
theorem dX10_orchard_269 : decode cX10_orchard 269 = .ok (.iconst 5, 1) := by decide +kernel
theorem dX10_orchard_270 : decode cX10_orchard 270 = .ok (.iload_n 2, 1) := by decide +kernel
theorem dX10_orchard_271 : decode cX10_orchard 271 = .ok (.iadd, 1) := by decide +kernel
theorem dX10_orchard_272 : decode cX10_orchard 272 = .ok (.iaload, 1) := by decide +kernel
theorem dX10_orchard_273 : decode cX10_orchard 273 = .ok (.iastore, 1) := by decide +kernel
theorem dX10_orchard_274 : decode cX10_orchard 274 = .ok (.iinc 2 1, 3) := by decide +kernel
theorem dX10_orchard_277 : decode cX10_orchard 277 = .ok (.goto (-50), 3) := by decide +kernel
theorem dX10_orchard_280 : decode cX10_orchard 280 = .ok (.aload_n 0, 1) := by decide +kernel
theorem dX10_orchard_281 : decode cX10_orchard 281 = .ok (.invokevirtual 119, 3) := by decide +kernel
theorem dX10_orchard_284 : decode cX10_orchard 284 = .ok (.iconst 0, 1) := by decide +kernel
theorem dX10_orchard_285 : decode cX10_orchard 285 = .ok (.istore_n 2, 1) := by decide +kernel
theorem dX10_orchard_286 : decode cX10_orchard 286 = .ok (.iload_n 2, 1) := by decide +kernel
theorem dX10_orchard_287 : decode cX10_orchard 287 = .ok (.aload_n 0, 1) := by decide +kernel
theorem dX10_orchard_288 : decode cX10_orchard 288 = .ok (.getfield 33, 3) := by decide +kernel
theorem dX10_orchard_291 : decode cX10_orchard 291 = .ok (.iconst 0, 1) := by decide +kernel
theorem dX10_orchard_292 : decode cX10_orchard 292 = .ok (.iaload, 1) := by decide +kernel
theorem dX10_orchard_293 : decode cX10_orchard 293 = .ok (.if_icmp .ge 24, 3) := by decide +kernel
theorem dX10_orchard_296 : decode cX10_orchard 296 = .ok (.aload_n 0, 1) := by decide +kernel
theorem dX10_orchard_297 : decode cX10_orchard 297 = .ok (.getfield 45, 3) := by decide +kernel
theorem dX10_orchard_300 : decode cX10_orchard 300 = .ok (.bipush 6, 2) := by decide +kernel
theorem dX10_orchard_302 : decode cX10_orchard 302 = .ok (.iload_n 2, 1) := by decide +kernel
theorem dX10_orchard_303 : decode cX10_orchard 303 = .ok (.iadd, 1) := by decide +kernel
theorem dX10_orchard_304 : decode cX10_orchard 304 = .ok (.aload_n 0, 1) := by decide +kernel
theorem dX10_orchard_305 : decode cX10_orchard 305 = .ok (.getfield 42, 3) := by decide +kernel
theorem dX10_orchard_308 : decode cX10_orchard 308 = .ok (.iload_n 2, 1) := by decide +kernel
theorem dX10_orchard_309 : decode cX10_orchard 309 = .ok (.iaload, 1) := by decide +kernel
theorem dX10_orchard_310 : decode cX10_orchard 310 = .ok (.iastore, 1) := by decide +kernel
theorem dX10_orchard_311 : decode cX10_orchard 311 = .ok (.iinc 2 1, 3) := by decide +kernel
theorem dX10_orchard_314 : decode cX10_orchard 314 = .ok (.goto (-28), 3) := by decide +kernel
theorem dX10_orchard_317 : decode cX10_orchard 317 = .ok (.aload_n 0, 1) := by decide +kernel
theorem dX10_orchard_318 : decode cX10_orchard 318 = .ok (.getfield 48, 3) := by decide +kernel
theorem dX10_orchard_321 : decode cX10_orchard 321 = .ok (.iconst 0, 1) := by decide +kernel
theorem dX10_orchard_322 : decode cX10_orchard 322 = .ok (.iconst 0, 1) := by decide +kernel
theorem dX10_orchard_323 : decode cX10_orchard 323 = .ok (.bastore, 1) := by decide +kernel
theorem dX10_orchard_324 : decode cX10_orchard 324 = .ok (.aload_n 0, 1) := by decide +kernel
theorem dX10_orchard_325 : decode cX10_orchard 325 = .ok (.getfield 48, 3) := by decide +kernel
theorem dX10_orchard_328 : decode cX10_orchard 328 = .ok (.iconst 1, 1) := by decide +kernel
theorem dX10_orchard_329 : decode cX10_orchard 329 = .ok (.iconst 0, 1) := by decide +kernel
theorem dX10_orchard_330 : decode cX10_orchard 330 = .ok (.bastore, 1) := by decide +kernel
theorem dX10_orchard_331 : decode cX10_orchard 331 = .ok (.aload_n 0, 1) := by decide +kernel
theorem dX10_orchard_332 : decode cX10_orchard 332 = .ok (.iconst 0, 1) := by decide +kernel
theorem dX10_orchard_333 : decode cX10_orchard 333 = .ok (.putfield 76, 3) := by decide +kernel
theorem dX10_orchard_336 : decode cX10_orchard 336 = .ok (.iload_n 1, 1) := by decide +kernel
theorem dX10_orchard_337 : decode cX10_orchard 337 = .ok (.ireturn, 1) := by decide +kernel
set_option maxRecDepth 20000 in
theorem ggX10_isOne_X10_in : GoodIn wsX10_isOne wsX10_in := goodIn_r _ [5] (by decide +kernel) (by decide +kernel)
set_option maxRecDepth 20000 in
theorem gX10_isOne_X10_in : GoodIn wsX10_isOne (va_wsS RX10 72 yX10_in wsX10_in) := goodIn_app (goodIn_of _ (by decide +kernel)) ggX10_isOne_X10_in
theorem dX10_isOne_0 : decode cX10_isOne 0 = .ok (.iload_n 1, 1) := by decide +kernel
theorem dX10_isOne_1 : decode cX10_isOne 1 = .ok (.iconst 0, 1) := by decide +kernel
theorem dX10_isOne_2 : decode cX10_isOne 2 = .ok (.aload_n 0, 1) := by decide +kernel
theorem dX10_isOne_3 : decode cX10_isOne 3 = .ok (.getfield 13, 3) := by decide +kernel
theorem dX10_isOne_6 : decode cX10_isOne 6 = .ok (.iconst 0, 1) := by decide +kernel
theorem dX10_isOne_7 : decode cX10_isOne 7 = .ok (.iaload, 1) := by decide +kernel
theorem dX10_isOne_8 : decode cX10_isOne 8 = .ok (.iconst 1, 1) := by decide +kernel
theorem dX10_isOne_9 : decode cX10_isOne 9 = .ok (.isub, 1) := by decide +kernel
theorem dX10_isOne_10 : decode cX10_isOne 10 = .ok (.invokestatic 72, 3) := by decide +kernel
theorem dX10_isOne_13 : decode cX10_isOne 13 = .ok (.ireturn, 1) := by decide +kernel
set_option maxRecDepth 20000 in
theorem ggX10_isTree_X10_in : GoodIn wsX10_isTree wsX10_in := goodIn_r _ [5] (by decide +kernel) (by decide +kernel)
set_option maxRecDepth 20000 in
theorem gX10_isTree_X10_in : GoodIn wsX10_isTree (va_wsS RX10 72 yX10_in wsX10_in) := goodIn_app (goodIn_of _ (by decide +kernel)) ggX10_isTree_X10_in
theorem dX10_isTree_0 : decode cX10_isTree 0 = .ok (.iload_n 1, 1) := by decide +kernel
theorem dX10_isTree_1 : decode cX10_isTree 1 = .ok (.iconst 0, 1) := by decide +kernel
theorem dX10_isTree_2 : decode cX10_isTree 2 = .ok (.aload_n 0, 1) := by decide +kernel
theorem dX10_isTree_3 : decode cX10_isTree 3 = .ok (.getfield 33, 3) := by decide +kernel
theorem dX10_isTree_6 : decode cX10_isTree 6 = .ok (.iconst 0, 1) := by decide +kernel
theorem dX10_isTree_7 : decode cX10_isTree 7 = .ok (.iaload, 1) := by decide +kernel
theorem dX10_isTree_8 : decode cX10_isTree 8 = .ok (.iconst 1, 1) := by decide +kernel
theorem dX10_isTree_9 : decode cX10_isTree 9 = .ok (.isub, 1) := by decide +kernel
theorem dX10_isTree_10 : decode cX10_isTree 10 = .ok (.invokestatic 72, 3) := by decide +kernel
theorem dX10_isTree_13 : decode cX10_isTree 13 = .ok (.ireturn, 1) := by decide +kernel
theorem dX10_fits_0 : decode cX10_fits 0 = .ok (.aload_n 0, 1) := by decide +kernel
theorem dX10_fits_1 : decode cX10_fits 1 = .ok (.getfield 17, 3) := by decide +kernel
theorem dX10_fits_4 : decode cX10_fits 4 = .ok (.iload_n 1, 1) := by decide +kernel
theorem dX10_fits_5 : decode cX10_fits 5 = .ok (.iaload, 1) := by decide +kernel
theorem dX10_fits_6 : decode cX10_fits 6 = .ok (.aload_n 0, 1) := by decide +kernel
theorem dX10_fits_7 : decode cX10_fits 7 = .ok (.getfield 17, 3) := by decide +kernel
theorem dX10_fits_10 : decode cX10_fits 10 = .ok (.iload_n 2, 1) := by decide +kernel
theorem dX10_fits_11 : decode cX10_fits 11 = .ok (.iaload, 1) := by decide +kernel
theorem dX10_fits_12 : decode cX10_fits 12 = .ok (.if_icmp .eq 36, 3) := by decide +kernel
theorem dX10_fits_15 : decode cX10_fits 15 = .ok (.aload_n 0, 1) := by decide +kernel
theorem dX10_fits_16 : decode cX10_fits 16 = .ok (.getfield 20, 3) := by decide +kernel
theorem dX10_fits_19 : decode cX10_fits 19 = .ok (.iload_n 1, 1) := by decide +kernel
theorem dX10_fits_20 : decode cX10_fits 20 = .ok (.iaload, 1) := by decide +kernel
theorem dX10_fits_21 : decode cX10_fits 21 = .ok (.aload_n 0, 1) := by decide +kernel
theorem dX10_fits_22 : decode cX10_fits 22 = .ok (.getfield 20, 3) := by decide +kernel
theorem dX10_fits_25 : decode cX10_fits 25 = .ok (.iload_n 2, 1) := by decide +kernel
theorem dX10_fits_26 : decode cX10_fits 26 = .ok (.iaload, 1) := by decide +kernel
theorem dX10_fits_27 : decode cX10_fits 27 = .ok (.if_icmp .ne 21, 3) := by decide +kernel
theorem dX10_fits_30 : decode cX10_fits 30 = .ok (.aload_n 0, 1) := by decide +kernel
theorem dX10_fits_31 : decode cX10_fits 31 = .ok (.getfield 29, 3) := by decide +kernel
theorem dX10_fits_34 : decode cX10_fits 34 = .ok (.bipush 8, 2) := by decide +kernel
theorem dX10_fits_36 : decode cX10_fits 36 = .ok (.iload_n 1, 1) := by decide +kernel
theorem dX10_fits_37 : decode cX10_fits 37 = .ok (.imul, 1) := by decide +kernel
theorem dX10_fits_38 : decode cX10_fits 38 = .ok (.iload_n 2, 1) := by decide +kernel
theorem dX10_fits_39 : decode cX10_fits 39 = .ok (.iadd, 1) := by decide +kernel
theorem dX10_fits_40 : decode cX10_fits 40 = .ok (.baload, 1) := by decide +kernel
theorem dX10_fits_41 : decode cX10_fits 41 = .ok (.ifCond .ne 7, 3) := by decide +kernel
theorem dX10_fits_44 : decode cX10_fits 44 = .ok (.iconst 1, 1) := by decide +kernel
theorem dX10_fits_45 : decode cX10_fits 45 = .ok (.goto 4, 3) := by decide +kernel
theorem dX10_fits_48 : decode cX10_fits 48 = .ok (.iconst 0, 1) := by decide +kernel
theorem dX10_fits_49 : decode cX10_fits 49 = .ok (.ireturn, 1) := by decide +kernel
theorem dX10_ladder_0 : decode cX10_ladder 0 = .ok (.aload_n 0, 1) := by decide +kernel
theorem dX10_ladder_1 : decode cX10_ladder 1 = .ok (.getfield 23, 3) := by decide +kernel
theorem dX10_ladder_4 : decode cX10_ladder 4 = .ok (.iload_n 1, 1) := by decide +kernel
theorem dX10_ladder_5 : decode cX10_ladder 5 = .ok (.iaload, 1) := by decide +kernel
theorem dX10_ladder_6 : decode cX10_ladder 6 = .ok (.aload_n 0, 1) := by decide +kernel
theorem dX10_ladder_7 : decode cX10_ladder 7 = .ok (.getfield 23, 3) := by decide +kernel
theorem dX10_ladder_10 : decode cX10_ladder 10 = .ok (.iload_n 2, 1) := by decide +kernel
theorem dX10_ladder_11 : decode cX10_ladder 11 = .ok (.iaload, 1) := by decide +kernel
theorem dX10_ladder_12 : decode cX10_ladder 12 = .ok (.if_icmp .ge 12, 3) := by decide +kernel
theorem dX10_ladder_15 : decode cX10_ladder 15 = .ok (.aload_n 0, 1) := by decide +kernel
theorem dX10_ladder_16 : decode cX10_ladder 16 = .ok (.getfield 23, 3) := by decide +kernel
theorem dX10_ladder_19 : decode cX10_ladder 19 = .ok (.iload_n 1, 1) := by decide +kernel
theorem dX10_ladder_20 : decode cX10_ladder 20 = .ok (.iaload, 1) := by decide +kernel
theorem dX10_ladder_21 : decode cX10_ladder 21 = .ok (.goto 9, 3) := by decide +kernel
theorem dX10_ladder_24 : decode cX10_ladder 24 = .ok (.aload_n 0, 1) := by decide +kernel
theorem dX10_ladder_25 : decode cX10_ladder 25 = .ok (.getfield 23, 3) := by decide +kernel
theorem dX10_ladder_28 : decode cX10_ladder 28 = .ok (.iload_n 2, 1) := by decide +kernel
theorem dX10_ladder_29 : decode cX10_ladder 29 = .ok (.iaload, 1) := by decide +kernel
theorem dX10_ladder_30 : decode cX10_ladder 30 = .ok (.ireturn, 1) := by decide +kernel
set_option maxRecDepth 20000 in
theorem ggX10_half_X10_isOne : GoodIn wsX10_half wsX10_isOne := goodIn_r _ [10, 11, 12, 13, 9, 14, 15, 16, 17, 18, 19, 20, 21, 22, 23, 24, 25, 26, 27, 28, 29, 30, 31, 32, 33, 34, 35, 36, 37, 38, 39, 40, 41] (by decide +kernel) (by decide +kernel)
set_option maxRecDepth 20000 in
theorem gX10_half_X10_isOne : GoodIn wsX10_half (wsV RX10 122 RX10 yX10_isOne wsX10_isOne) := goodIn_app (goodIn_of _ (by decide +kernel)) ggX10_half_X10_isOne
set_option maxRecDepth 20000 in
theorem ggX10_half_X10_in : GoodIn wsX10_half wsX10_in := goodIn_r _ [14] (by decide +kernel) (by decide +kernel)
set_option maxRecDepth 20000 in
theorem gX10_half_X10_in : GoodIn wsX10_half (va_wsS RX10 72 yX10_in wsX10_in) := goodIn_app (goodIn_of _ (by decide +kernel)) ggX10_half_X10_in
theorem dX10_half_0 : decode cX10_half 0 = .ok (.aload_n 0, 1) := by decide +kernel
theorem dX10_half_1 : decode cX10_half 1 = .ok (.iload_n 1, 1) := by decide +kernel
theorem dX10_half_2 : decode cX10_half 2 = .ok (.invokevirtual 122, 3) := by decide +kernel
theorem dX10_half_5 : decode cX10_half 5 = .ok (.ifCond .eq 12, 3) := by decide +kernel
theorem dX10_half_8 : decode cX10_half 8 = .ok (.iload_n 2, 1) := by decide +kernel
theorem dX10_half_9 : decode cX10_half 9 = .ok (.iconst 0, 1) := by decide +kernel
theorem dX10_half_10 : decode cX10_half 10 = .ok (.iconst 4, 1) := by decide +kernel
theorem dX10_half_11 : decode cX10_half 11 = .ok (.invokestatic 72, 3) := by decide +kernel
theorem dX10_half_14 : decode cX10_half 14 = .ok (.ifCond .ne 5, 3) := by decide +kernel
theorem dX10_half_17 : decode cX10_half 17 = .ok (.iconst (-1), 1) := by decide +kernel
theorem dX10_half_18 : decode cX10_half 18 = .ok (.ireturn, 1) := by decide +kernel
theorem dX10_half_19 : decode cX10_half 19 = .ok (.iload_n 2, 1) := by decide +kernel
theorem dX10_half_20 : decode cX10_half 20 = .ok (.ifCond .ne 12, 3) := by decide +kernel
theorem dX10_half_23 : decode cX10_half 23 = .ok (.aload_n 0, 1) := by decide +kernel
theorem dX10_half_24 : decode cX10_half 24 = .ok (.getfield 17, 3) := by decide +kernel
