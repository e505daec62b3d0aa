theorem dX10_mayPair_72 : decode cX10_mayPair 72 = .ok (.iload_n 1, 1) := by decide +kernel
theorem dX10_mayPair_73 : decode cX10_mayPair 73 = .ok (.iload 5, 2) := by decide +kernel
theorem dX10_mayPair_75 : decode cX10_mayPair 75 = .ok (.iload 6, 2) := by decide +kernel
theorem dX10_mayPair_77 : decode cX10_mayPair 77 = .ok (.iload_n 3, 1) := by decide +kernel
theorem dX10_mayPair_78 : decode cX10_mayPair 78 = .ok (.invokevirtual 140, 3) := by decide +kernel
theorem dX10_mayPair_81 : decode cX10_mayPair 81 = .ok (.ifCond .eq 7, 3) := by decide +kernel
theorem dX10_mayPair_84 : decode cX10_mayPair 84 = .ok (.iconst 1, 1) := by decide +kernel
theorem dX10_mayPair_85 : decode cX10_mayPair 85 = .ok (.goto 4, 3) := by decide +kernel
theorem dX10_mayPair_88 : decode cX10_mayPair 88 = .ok (.iconst 0, 1) := by decide +kernel
theorem dX10_mayPair_89 : decode cX10_mayPair 89 = .ok (.ireturn, 1) := by decide +kernel
set_option maxRecDepth 20000 in
theorem ggX10_findBest_X10_mayPair : GoodIn wsX10_findBest wsX10_mayPair := goodIn_r _ [8, 9, 10, 11, 12, 7, 13, 14, 15, 16, 17, 18, 19, 20, 21, 22, 23, 24, 25, 26, 27, 28, 29, 30, 31, 32, 33, 34, 35, 44, 45, 46, 47, 48, 49, 50, 51, 52, 53, 54, 55, 56, 57, 58, 59, 60, 61, 62, 63, 64, 65, 66, 67, 68, 69, 70] (by decide +kernel) (by decide +kernel)
set_option maxRecDepth 20000 in
theorem gX10_findBest_X10_mayPair : GoodIn wsX10_findBest (wsV RX10 152 RX10 yX10_mayPair wsX10_mayPair) := goodIn_app (goodIn_of _ (by decide +kernel)) ggX10_findBest_X10_mayPair
set_option maxRecDepth 20000 in
theorem ggX10_findBest_X10_leftOf : GoodIn wsX10_findBest wsX10_leftOf := goodIn_r _ [38] (by decide +kernel) (by decide +kernel)
set_option maxRecDepth 20000 in
theorem gX10_findBest_X10_leftOf : GoodIn wsX10_findBest (va_wsS RX10 155 yX10_leftOf wsX10_leftOf) := goodIn_app (goodIn_of _ (by decide +kernel)) ggX10_findBest_X10_leftOf
set_option maxRecDepth 20000 in
theorem ggX10_findBest_X10_picks : GoodIn wsX10_findBest wsX10_picks := goodIn_r _ [42, 43, 22, 44, 45, 46, 47, 48, 49, 50, 51, 52, 53, 54, 55, 56, 57, 58, 59, 60, 61, 62, 63, 64, 65, 66, 67, 68, 69, 70] (by decide +kernel) (by decide +kernel)
set_option maxRecDepth 20000 in
theorem gX10_findBest_X10_picks : GoodIn wsX10_findBest (wsV RX10 136 RX10 yX10_picks wsX10_picks) := goodIn_app (goodIn_of _ (by decide +kernel)) ggX10_findBest_X10_picks
theorem dX10_findBest_0 : decode cX10_findBest 0 = .ok (.iconst 5, 1) := by decide +kernel
theorem dX10_findBest_1 : decode cX10_findBest 1 = .ok (.istore_n 2, 1) := by decide +kernel
theorem dX10_findBest_2 : decode cX10_findBest 2 = .ok (.iload_n 2, 1) := by decide +kernel
theorem dX10_findBest_3 : decode cX10_findBest 3 = .ok (.ifCond .lt 171, 3) := by decide +kernel
theorem dX10_findBest_6 : decode cX10_findBest 6 = .ok (.iconst 0, 1) := by decide +kernel
theorem dX10_findBest_7 : decode cX10_findBest 7 = .ok (.istore_n 3, 1) := by decide +kernel
theorem dX10_findBest_8 : decode cX10_findBest 8 = .ok (.iload_n 3, 1) := by decide +kernel
theorem dX10_findBest_9 : decode cX10_findBest 9 = .ok (.sipush 256, 3) := by decide +kernel
theorem dX10_findBest_12 : decode cX10_findBest 12 = .ok (.if_icmp .ge 156, 3) := by decide +kernel
theorem dX10_findBest_15 : decode cX10_findBest 15 = .ok (.iload_n 2, 1) := by decide +kernel
theorem dX10_findBest_16 : decode cX10_findBest 16 = .ok (.aload_n 0, 1) := by decide +kernel
theorem dX10_findBest_17 : decode cX10_findBest 17 = .ok (.getfield 33, 3) := by decide +kernel
theorem dX10_findBest_20 : decode cX10_findBest 20 = .ok (.iconst 0, 1) := by decide +kernel
theorem dX10_findBest_21 : decode cX10_findBest 21 = .ok (.iaload, 1) := by decide +kernel
theorem dX10_findBest_22 : decode cX10_findBest 22 = .ok (.if_icmp .lt 7, 3) := by decide +kernel
theorem dX10_findBest_25 : decode cX10_findBest 25 = .ok (.iconst 0, 1) := by decide +kernel
theorem dX10_findBest_26 : decode cX10_findBest 26 = .ok (.goto 17, 3) := by decide +kernel
theorem dX10_findBest_29 : decode cX10_findBest 29 = .ok (.aload_n 0, 1) := by decide +kernel
theorem dX10_findBest_30 : decode cX10_findBest 30 = .ok (.getfield 51, 3) := by decide +kernel
theorem dX10_findBest_33 : decode cX10_findBest 33 = .ok (.sipush 256, 3) := by decide +kernel
theorem dX10_findBest_36 : decode cX10_findBest 36 = .ok (.iload_n 2, 1) := by decide +kernel
theorem dX10_findBest_37 : decode cX10_findBest 37 = .ok (.iconst 1, 1) := by decide +kernel
theorem dX10_findBest_38 : decode cX10_findBest 38 = .ok (.iadd, 1) := by decide +kernel
theorem dX10_findBest_39 : decode cX10_findBest 39 = .ok (.imul, 1) := by decide +kernel
theorem dX10_findBest_40 : decode cX10_findBest 40 = .ok (.iload_n 3, 1) := by decide +kernel
theorem dX10_findBest_41 : decode cX10_findBest 41 = .ok (.iadd, 1) := by decide +kernel
theorem dX10_findBest_42 : decode cX10_findBest 42 = .ok (.iaload, 1) := by decide +kernel
theorem dX10_findBest_43 : decode cX10_findBest 43 = .ok (.istore 4, 2) := by decide +kernel
theorem dX10_findBest_45 : decode cX10_findBest 45 = .ok (.iconst 0, 1) := by decide +kernel
theorem dX10_findBest_46 : decode cX10_findBest 46 = .ok (.istore 5, 2) := by decide +kernel
theorem dX10_findBest_48 : decode cX10_findBest 48 = .ok (.iload 5, 2) := by decide +kernel
theorem dX10_findBest_50 : decode cX10_findBest 50 = .ok (.bipush 78, 2) := by decide +kernel
theorem dX10_findBest_52 : decode cX10_findBest 52 = .ok (.if_icmp .ge 96, 3) := by decide +kernel
theorem dX10_findBest_55 : decode cX10_findBest 55 = .ok (.iload_n 2, 1) := by decide +kernel
theorem dX10_findBest_56 : decode cX10_findBest 56 = .ok (.aload_n 0, 1) := by decide +kernel
theorem dX10_findBest_57 : decode cX10_findBest 57 = .ok (.getfield 33, 3) := by decide +kernel
theorem dX10_findBest_60 : decode cX10_findBest 60 = .ok (.iconst 0, 1) := by decide +kernel
theorem dX10_findBest_61 : decode cX10_findBest 61 = .ok (.iaload, 1) := by decide +kernel
theorem dX10_findBest_62 : decode cX10_findBest 62 = .ok (.if_icmp .ge 86, 3) := by decide +kernel
theorem dX10_findBest_65 : decode cX10_findBest 65 = .ok (.aload_n 0, 1) := by decide +kernel
theorem dX10_findBest_66 : decode cX10_findBest 66 = .ok (.iload_n 1, 1) := by decide +kernel
theorem dX10_findBest_67 : decode cX10_findBest 67 = .ok (.iload 5, 2) := by decide +kernel
theorem dX10_findBest_69 : decode cX10_findBest 69 = .ok (.iload_n 2, 1) := by decide +kernel
theorem dX10_findBest_70 : decode cX10_findBest 70 = .ok (.iload_n 3, 1) := by decide +kernel
theorem dX10_findBest_71 : decode cX10_findBest 71 = .ok (.invokevirtual 152, 3) := by decide +kernel
theorem dX10_findBest_74 : decode cX10_findBest 74 = .ok (.ifCond .eq 68, 3) := by decide +kernel
theorem dX10_findBest_77 : decode cX10_findBest 77 = .ok (.aload_n 0, 1) := by decide +kernel
theorem dX10_findBest_78 : decode cX10_findBest 78 = .ok (.iload_n 1, 1) := by decide +kernel
theorem dX10_findBest_79 : decode cX10_findBest 79 = .ok (.iload 5, 2) := by decide +kernel
theorem dX10_findBest_81 : decode cX10_findBest 81 = .ok (.invokestatic 155, 3) := by decide +kernel
theorem dX10_findBest_84 : decode cX10_findBest 84 = .ok (.iload 5, 2) := by decide +kernel
theorem dX10_findBest_86 : decode cX10_findBest 86 = .ok (.bipush 10, 2) := by decide +kernel
theorem dX10_findBest_88 : decode cX10_findBest 88 = .ok (.irem, 1) := by decide +kernel
theorem dX10_findBest_89 : decode cX10_findBest 89 = .ok (.iload_n 2, 1) := by decide +kernel
theorem dX10_findBest_90 : decode cX10_findBest 90 = .ok (.invokevirtual 136, 3) := by decide +kernel
theorem dX10_findBest_93 : decode cX10_findBest 93 = .ok (.aload_n 0, 1) := by decide +kernel
theorem dX10_findBest_94 : decode cX10_findBest 94 = .ok (.getfield 51, 3) := by decide +kernel
theorem dX10_findBest_97 : decode cX10_findBest 97 = .ok (.sipush 256, 3) := by decide +kernel
theorem dX10_findBest_100 : decode cX10_findBest 100 = .ok (.iload_n 2, 1) := by decide +kernel
theorem dX10_findBest_101 : decode cX10_findBest 101 = .ok (.iconst 1, 1) := by decide +kernel
theorem dX10_findBest_102 : decode cX10_findBest 102 = .ok (.iadd, 1) := by decide +kernel
theorem dX10_findBest_103 : decode cX10_findBest 103 = .ok (.imul, 1) := by decide +kernel
theorem dX10_findBest_104 : decode cX10_findBest 104 = .ok (.iload_n 3, 1) := by decide +kernel
theorem dX10_findBest_105 : decode cX10_findBest 105 = .ok (.iconst 1, 1) := by decide +kernel
theorem dX10_findBest_106 : decode cX10_findBest 106 = .ok (.iload 5, 2) := by decide +kernel
theorem dX10_findBest_108 : decode cX10_findBest 108 = .ok (.invokestatic 155, 3) := by decide +kernel
theorem dX10_findBest_111 : decode cX10_findBest 111 = .ok (.ishl, 1) := by decide +kernel
theorem dX10_findBest_112 : decode cX10_findBest 112 = .ok (.ior, 1) := by decide +kernel
theorem dX10_findBest_113 : decode cX10_findBest 113 = .ok (.iconst 1, 1) := by decide +kernel
theorem dX10_findBest_114 : decode cX10_findBest 114 = .ok (.iload 5, 2) := by decide +kernel
theorem dX10_findBest_116 : decode cX10_findBest 116 = .ok (.bipush 10, 2) := by decide +kernel
theorem dX10_findBest_118 : decode cX10_findBest 118 = .ok (.irem, 1) := by decide +kernel
theorem dX10_findBest_119 : decode cX10_findBest 119 = .ok (.ishl, 1) := by decide +kernel
theorem dX10_findBest_120 : decode cX10_findBest 120 = .ok (.ior, 1) := by decide +kernel
theorem dX10_findBest_121 : decode cX10_findBest 121 = .ok (.iadd, 1) := by decide +kernel
theorem dX10_findBest_122 : decode cX10_findBest 122 = .ok (.iaload, 1) := by decide +kernel
theorem dX10_findBest_123 : decode cX10_findBest 123 = .ok (.iadd, 1) := by decide +kernel
theorem dX10_findBest_124 : decode cX10_findBest 124 = .ok (.istore 6, 2) := by decide +kernel
theorem dX10_findBest_126 : decode cX10_findBest 126 = .ok (.iload 6, 2) := by decide +kernel
theorem dX10_findBest_128 : decode cX10_findBest 128 = .ok (.iload 4, 2) := by decide +kernel
theorem dX10_findBest_130 : decode cX10_findBest 130 = .ok (.if_icmp .le 8, 3) := by decide +kernel
theorem dX10_findBest_133 : decode cX10_findBest 133 = .ok (.iload 6, 2) := by decide +kernel
theorem dX10_findBest_135 : decode cX10_findBest 135 = .ok (.goto 5, 3) := by decide +kernel
theorem dX10_findBest_138 : decode cX10_findBest 138 = .ok (.iload 4, 2) := by decide +kernel
theorem dX10_findBest_140 : decode cX10_findBest 140 = .ok (.istore 4, 2) := by decide +kernel
theorem dX10_findBest_142 : decode cX10_findBest 142 = .ok (.iinc 5 1, 3) := by decide +kernel
theorem dX10_findBest_145 : decode cX10_findBest 145 = .ok (.goto (-97), 3) := by decide +kernel
theorem dX10_findBest_148 : decode cX10_findBest 148 = .ok (.aload_n 0, 1) := by decide +kernel
theorem dX10_findBest_149 : decode cX10_findBest 149 = .ok (.getfield 51, 3) := by decide +kernel
theorem dX10_findBest_152 : decode cX10_findBest 152 = .ok (.sipush 256, 3) := by decide +kernel
theorem dX10_findBest_155 : decode cX10_findBest 155 = .ok (.iload_n 2, 1) := by decide +kernel
theorem dX10_findBest_156 : decode cX10_findBest 156 = .ok (.imul, 1) := by decide +kernel
theorem dX10_findBest_157 : decode cX10_findBest 157 = .ok (.iload_n 3, 1) := by decide +kernel
theorem dX10_findBest_158 : decode cX10_findBest 158 = .ok (.iadd, 1) := by decide +kernel
theorem dX10_findBest_159 : decode cX10_findBest 159 = .ok (.iload 4, 2) := by decide +kernel
theorem dX10_findBest_161 : decode cX10_findBest 161 = .ok (.iastore, 1) := by decide +kernel
theorem dX10_findBest_162 : decode cX10_findBest 162 = .ok (.iinc 3 1, 3) := by decide +kernel
theorem dX10_findBest_165 : decode cX10_findBest 165 = .ok (.goto (-157), 3) := by decide +kernel
theorem dX10_findBest_168 : decode cX10_findBest 168 = .ok (.iinc 2 (-1), 3) := by decide +kernel
theorem dX10_findBest_171 : decode cX10_findBest 171 = .ok (.goto (-169), 3) := by decide +kernel
theorem dX10_findBest_174 : decode cX10_findBest 174 = .ok (.iconst 0, 1) := by decide +kernel
theorem dX10_findBest_175 : decode cX10_findBest 175 = .ok (.istore_n 2, 1) := by decide +kernel
theorem dX10_findBest_176 : decode cX10_findBest 176 = .ok (.iconst 0, 1) := by decide +kernel
theorem dX10_findBest_177 : decode cX10_findBest 177 = .ok (.istore_n 3, 1) := by decide +kernel
theorem dX10_findBest_178 : decode cX10_findBest 178 = .ok (.iload_n 3, 1) := by decide +kernel
theorem dX10_findBest_179 : decode cX10_findBest 179 = .ok (.aload_n 0, 1) := by decide +kernel
theorem dX10_findBest_180 : decode cX10_findBest 180 = .ok (.getfield 33, 3) := by decide +kernel
theorem dX10_findBest_183 : decode cX10_findBest 183 = .ok (.iconst 0, 1) := by decide +kernel
theorem dX10_findBest_184 : decode cX10_findBest 184 = .ok (.iaload, 1) := by decide +kernel
theorem dX10_findBest_185 : decode cX10_findBest 185 = .ok (.if_icmp .ge 149, 3) := by decide +kernel
theorem dX10_findBest_188 : decode cX10_findBest 188 = .ok (.aload_n 0, 1) := by decide +kernel
theorem dX10_findBest_189 : decode cX10_findBest 189 = .ok (.getfield 54, 3) := by decide +kernel
theorem dX10_findBest_192 : decode cX10_findBest 192 = .ok (.iload_n 3, 1) := by decide +kernel
theorem dX10_findBest_193 : decode cX10_findBest 193 = .ok (.bipush (-9), 2) := by decide +kernel
theorem dX10_findBest_195 : decode cX10_findBest 195 = .ok (.iastore, 1) := by decide +kernel
theorem dX10_findBest_196 : decode cX10_findBest 196 = .ok (.aload_n 0, 1) := by decide +kernel
theorem dX10_findBest_197 : decode cX10_findBest 197 = .ok (.getfield 51, 3) := by decide +kernel
theorem dX10_findBest_200 : decode cX10_findBest 200 = .ok (.sipush 256, 3) := by decide +kernel
theorem dX10_findBest_203 : decode cX10_findBest 203 = .ok (.iload_n 3, 1) := by decide +kernel
theorem dX10_findBest_204 : decode cX10_findBest 204 = .ok (.imul, 1) := by decide +kernel
theorem dX10_findBest_205 : decode cX10_findBest 205 = .ok (.iload_n 2, 1) := by decide +kernel
theorem dX10_findBest_206 : decode cX10_findBest 206 = .ok (.iadd, 1) := by decide +kernel
theorem dX10_findBest_207 : decode cX10_findBest 207 = .ok (.iaload, 1) := by decide +kernel
theorem dX10_findBest_208 : decode cX10_findBest 208 = .ok (.istore 4, 2) := by decide +kernel
theorem dX10_findBest_210 : decode cX10_findBest 210 = .ok (.aload_n 0, 1) := by decide +kernel
theorem dX10_findBest_211 : decode cX10_findBest 211 = .ok (.getfield 51, 3) := by decide +kernel
theorem dX10_findBest_214 : decode cX10_findBest 214 = .ok (.sipush 256, 3) := by decide +kernel
theorem dX10_findBest_217 : decode cX10_findBest 217 = .ok (.iload_n 3, 1) := by decide +kernel
theorem dX10_findBest_218 : decode cX10_findBest 218 = .ok (.iconst 1, 1) := by decide +kernel
theorem dX10_findBest_219 : decode cX10_findBest 219 = .ok (.iadd, 1) := by decide +kernel
theorem dX10_findBest_220 : decode cX10_findBest 220 = .ok (.imul, 1) := by decide +kernel
theorem dX10_findBest_221 : decode cX10_findBest 221 = .ok (.iload_n 2, 1) := by decide +kernel
theorem dX10_findBest_222 : decode cX10_findBest 222 = .ok (.iadd, 1) := by decide +kernel
theorem dX10_findBest_223 : decode cX10_findBest 223 = .ok (.iaload, 1) := by decide +kernel
theorem dX10_findBest_224 : decode cX10_findBest 224 = .ok (.iload 4, 2) := by decide +kernel
theorem dX10_findBest_226 : decode cX10_findBest 226 = .ok (.if_icmp .eq 102, 3) := by decide +kernel
theorem dX10_findBest_229 : decode cX10_findBest 229 = .ok (.iconst 0, 1) := by decide +kernel
theorem dX10_findBest_230 : decode cX10_findBest 230 = .ok (.istore 5, 2) := by decide +kernel
theorem dX10_findBest_232 : decode cX10_findBest 232 = .ok (.aload_n 0, 1) := by decide +kernel
theorem dX10_findBest_233 : decode cX10_findBest 233 = .ok (.iload_n 1, 1) := by decide +kernel
theorem dX10_findBest_234 : decode cX10_findBest 234 = .ok (.iload 5, 2) := by decide +kernel
theorem dX10_findBest_236 : decode cX10_findBest 236 = .ok (.iload_n 3, 1) := by decide +kernel
theorem dX10_findBest_237 : decode cX10_findBest 237 = .ok (.iload_n 2, 1) := by decide +kernel
theorem dX10_findBest_238 : decode cX10_findBest 238 = .ok (.invokevirtual 152, 3) := by decide +kernel
theorem dX10_findBest_241 : decode cX10_findBest 241 = .ok (.ifCond .eq 55, 3) := by decide +kernel
theorem dX10_findBest_244 : decode cX10_findBest 244 = .ok (.aload_n 0, 1) := by decide +kernel
theorem dX10_findBest_245 : decode cX10_findBest 245 = .ok (.iload_n 1, 1) := by decide +kernel
theorem dX10_findBest_246 : decode cX10_findBest 246 = .ok (.iload 5, 2) := by decide +kernel
theorem dX10_findBest_248 : decode cX10_findBest 248 = .ok (.invokestatic 155, 3) := by decide +kernel
theorem dX10_findBest_251 : decode cX10_findBest 251 = .ok (.iload 5, 2) := by decide +kernel
theorem dX10_findBest_253 : decode cX10_findBest 253 = .ok (.bipush 10, 2) := by decide +kernel
theorem dX10_findBest_255 : decode cX10_findBest 255 = .ok (.irem, 1) := by decide +kernel
theorem dX10_findBest_256 : decode cX10_findBest 256 = .ok (.iload_n 3, 1) := by decide +kernel
theorem dX10_findBest_257 : decode cX10_findBest 257 = .ok (.invokevirtual 136, 3) := by decide +kernel
theorem dX10_findBest_260 : decode cX10_findBest 260 = .ok (.aload_n 0, 1) := by decide +kernel
theorem dX10_findBest_261 : decode cX10_findBest 261 = .ok (.getfield 51, 3) := by decide +kernel
theorem dX10_findBest_264 : decode cX10_findBest 264 = .ok (.sipush 256, 3) := by decide +kernel
theorem dX10_findBest_267 : decode cX10_findBest 267 = .ok (.iload_n 3, 1) := by decide +kernel
theorem dX10_findBest_268 : decode cX10_findBest 268 = .ok (.iconst 1, 1) := by decide +kernel
theorem dX10_findBest_269 : decode cX10_findBest 269 = .ok (.iadd, 1) := by decide +kernel
theorem dX10_findBest_270 : decode cX10_findBest 270 = .ok (.imul, 1) := by decide +kernel
theorem dX10_findBest_271 : decode cX10_findBest 271 = .ok (.iload_n 2, 1) := by decide +kernel
theorem dX10_findBest_272 : decode cX10_findBest 272 = .ok (.iconst 1, 1) := by decide +kernel
theorem dX10_findBest_273 : decode cX10_findBest 273 = .ok (.iload 5, 2) := by decide +kernel
theorem dX10_findBest_275 : decode cX10_findBest 275 = .ok (.invokestatic 155, 3) := by decide +kernel
theorem dX10_findBest_278 : decode cX10_findBest 278 = .ok (.ishl, 1) := by decide +kernel
theorem dX10_findBest_279 : decode cX10_findBest 279 = .ok (.ior, 1) := by decide +kernel
theorem dX10_findBest_280 : decode cX10_findBest 280 = .ok (.iconst 1, 1) := by decide +kernel
theorem dX10_findBest_281 : decode cX10_findBest 281 = .ok (.iload 5, 2) := by decide +kernel
theorem dX10_findBest_283 : decode cX10_findBest 283 = .ok (.bipush 10, 2) := by decide +kernel
theorem dX10_findBest_285 : decode cX10_findBest 285 = .ok (.irem, 1) := by decide +kernel
theorem dX10_findBest_286 : decode cX10_findBest 286 = .ok (.ishl, 1) := by decide +kernel
theorem dX10_findBest_287 : decode cX10_findBest 287 = .ok (.ior, 1) := by decide +kernel
theorem dX10_findBest_288 : decode cX10_findBest 288 = .ok (.iadd, 1) := by decide +kernel
theorem dX10_findBest_289 : decode cX10_findBest 289 = .ok (.iaload, 1) := by decide +kernel
theorem dX10_findBest_290 : decode cX10_findBest 290 = .ok (.iadd, 1) := by decide +kernel
theorem dX10_findBest_291 : decode cX10_findBest 291 = .ok (.iload 4, 2) := by decide +kernel
theorem dX10_findBest_293 : decode cX10_findBest 293 = .ok (.if_icmp .eq 9, 3) := by decide +kernel
theorem dX10_findBest_296 : decode cX10_findBest 296 = .ok (.iinc 5 1, 3) := by decide +kernel
theorem dX10_findBest_299 : decode cX10_findBest 299 = .ok (.goto (-67), 3) := by decide +kernel
theorem dX10_findBest_302 : decode cX10_findBest 302 = .ok (.aload_n 0, 1) := by decide +kernel
theorem dX10_findBest_303 : decode cX10_findBest 303 = .ok (.getfield 54, 3) := by decide +kernel
theorem dX10_findBest_306 : decode cX10_findBest 306 = .ok (.iload_n 3, 1) := by decide +kernel
theorem dX10_findBest_307 : decode cX10_findBest 307 = .ok (.iload 5, 2) := by decide +kernel
theorem dX10_findBest_309 : decode cX10_findBest 309 = .ok (.iastore, 1) := by decide +kernel
theorem dX10_findBest_310 : decode cX10_findBest 310 = .ok (.iload_n 2, 1) := by decide +kernel
theorem dX10_findBest_311 : decode cX10_findBest 311 = .ok (.iconst 1, 1) := by decide +kernel
theorem dX10_findBest_312 : decode cX10_findBest 312 = .ok (.iload 5, 2) := by decide +kernel
theorem dX10_findBest_314 : decode cX10_findBest 314 = .ok (.invokestatic 155, 3) := by decide +kernel
theorem dX10_findBest_317 : decode cX10_findBest 317 = .ok (.ishl, 1) := by decide +kernel
theorem dX10_findBest_318 : decode cX10_findBest 318 = .ok (.iconst 1, 1) := by decide +kernel
theorem dX10_findBest_319 : decode cX10_findBest 319 = .ok (.iload 5, 2) := by decide +kernel
theorem dX10_findBest_321 : decode cX10_findBest 321 = .ok (.bipush 10, 2) := by decide +kernel
theorem dX10_findBest_323 : decode cX10_findBest 323 = .ok (.irem, 1) := by decide +kernel
theorem dX10_findBest_324 : decode cX10_findBest 324 = .ok (.ishl, 1) := by decide +kernel
theorem dX10_findBest_325 : decode cX10_findBest 325 = .ok (.ior, 1) := by decide +kernel
theorem dX10_findBest_326 : decode cX10_findBest 326 = .ok (.ior, 1) := by decide +kernel
theorem dX10_findBest_327 : decode cX10_findBest 327 = .ok (.istore_n 2, 1) := by decide +kernel
theorem dX10_findBest_328 : decode cX10_findBest 328 = .ok (.iinc 3 1, 3) := by decide +kernel
theorem dX10_findBest_331 : decode cX10_findBest 331 = .ok (.goto (-153), 3) := by decide +kernel
theorem dX10_findBest_334 : decode cX10_findBest 334 = .ok (.return_, 1) := by decide +kernel
set_option maxRecDepth 20000 in
theorem ggX10_best_X10_in : GoodIn wsX10_best wsX10_in := goodIn_r _ [7] (by decide +kernel) (by decide +kernel)
set_option maxRecDepth 20000 in
theorem gX10_best_X10_in : GoodIn wsX10_best (va_wsS RX10 72 yX10_in wsX10_in) := goodIn_app (goodIn_of _ (by decide +kernel)) ggX10_best_X10_in
set_option maxRecDepth 20000 in
theorem ggX10_best_X10_findBest : GoodIn wsX10_best wsX10_findBest := goodIn_r _ [11, 1, 2, 3, 12, 13, 14, 6, 15, 16, 17, 18, 19, 20, 21, 4, 5, 7, 22, 23, 24, 25, 26, 27, 28, 29, 30, 31, 32, 33, 34, 35, 36, 37, 38, 39, 40, 41, 42, 43, 44, 45, 46, 47, 48, 49, 50, 51, 52, 53, 54, 55, 56, 57, 58, 59, 60, 61, 62, 63, 64, 65, 66, 67, 68, 69, 70, 71, 72, 73, 74] (by decide +kernel) (by decide +kernel)
set_option maxRecDepth 20000 in
theorem gX10_best_X10_findBest : GoodIn wsX10_best (wsV RX10 158 RX10 yX10_findBest wsX10_findBest) := goodIn_app (goodIn_of _ (by decide +kernel)) ggX10_best_X10_findBest
theorem dX10_best_0 : decode cX10_best 0 = .ok (.iload_n 1, 1) := by decide +kernel
theorem dX10_best_1 : decode cX10_best 1 = .ok (.iconst (-1), 1) := by decide +kernel
theorem dX10_best_2 : decode cX10_best 2 = .ok (.aload_n 0, 1) := by decide +kernel
theorem dX10_best_3 : decode cX10_best 3 = .ok (.getfield 33, 3) := by decide +kernel
theorem dX10_best_6 : decode cX10_best 6 = .ok (.iconst 0, 1) := by decide +kernel
theorem dX10_best_7 : decode cX10_best 7 = .ok (.iaload, 1) := by decide +kernel
theorem dX10_best_8 : decode cX10_best 8 = .ok (.iconst 1, 1) := by decide +kernel
theorem dX10_best_9 : decode cX10_best 9 = .ok (.isub, 1) := by decide +kernel
theorem dX10_best_10 : decode cX10_best 10 = .ok (.invokestatic 72, 3) := by decide +kernel
theorem dX10_best_13 : decode cX10_best 13 = .ok (.ifCond .ne 5, 3) := by decide +kernel
theorem dX10_best_16 : decode cX10_best 16 = .ok (.iconst (-1), 1) := by decide +kernel
theorem dX10_best_17 : decode cX10_best 17 = .ok (.ireturn, 1) := by decide +kernel
theorem dX10_best_18 : decode cX10_best 18 = .ok (.aload_n 0, 1) := by decide +kernel
theorem dX10_best_19 : decode cX10_best 19 = .ok (.iconst 0, 1) := by decide +kernel
theorem dX10_best_20 : decode cX10_best 20 = .ok (.invokevirtual 158, 3) := by decide +kernel
theorem dX10_best_23 : decode cX10_best 23 = .ok (.iload_n 1, 1) := by decide +kernel
theorem dX10_best_24 : decode cX10_best 24 = .ok (.iconst (-1), 1) := by decide +kernel
theorem dX10_best_25 : decode cX10_best 25 = .ok (.if_icmp .ne 12, 3) := by decide +kernel
theorem dX10_best_28 : decode cX10_best 28 = .ok (.aload_n 0, 1) := by decide +kernel
theorem dX10_best_29 : decode cX10_best 29 = .ok (.getfield 51, 3) := by decide +kernel
theorem dX10_best_32 : decode cX10_best 32 = .ok (.iconst 0, 1) := by decide +kernel
theorem dX10_best_33 : decode cX10_best 33 = .ok (.iaload, 1) := by decide +kernel
theorem dX10_best_34 : decode cX10_best 34 = .ok (.goto 9, 3) := by decide +kernel
theorem dX10_best_37 : decode cX10_best 37 = .ok (.aload_n 0, 1) := by decide +kernel
theorem dX10_best_38 : decode cX10_best 38 = .ok (.getfield 54, 3) := by decide +kernel
theorem dX10_best_41 : decode cX10_best 41 = .ok (.iload_n 1, 1) := by decide +kernel
theorem dX10_best_42 : decode cX10_best 42 = .ok (.iaload, 1) := by decide +kernel
theorem dX10_best_43 : decode cX10_best 43 = .ok (.ireturn, 1) := by decide +kernel
theorem dX10_copy_0 : decode cX10_copy 0 = .ok (.iconst 0, 1) := by decide +kernel
theorem dX10_copy_1 : decode cX10_copy 1 = .ok (.istore_n 3, 1) := by decide +kernel
theorem dX10_copy_2 : decode cX10_copy 2 = .ok (.iload_n 3, 1) := by decide +kernel
theorem dX10_copy_3 : decode cX10_copy 3 = .ok (.bipush 12, 2) := by decide +kernel
theorem dX10_copy_5 : decode cX10_copy 5 = .ok (.if_icmp .ge 25, 3) := by decide +kernel
theorem dX10_copy_8 : decode cX10_copy 8 = .ok (.aload_n 0, 1) := by decide +kernel
theorem dX10_copy_9 : decode cX10_copy 9 = .ok (.getfield 45, 3) := by decide +kernel
theorem dX10_copy_12 : decode cX10_copy 12 = .ok (.iload_n 2, 1) := by decide +kernel
theorem dX10_copy_13 : decode cX10_copy 13 = .ok (.iload_n 3, 1) := by decide +kernel
theorem dX10_copy_14 : decode cX10_copy 14 = .ok (.iadd, 1) := by decide +kernel
theorem dX10_copy_15 : decode cX10_copy 15 = .ok (.aload_n 0, 1) := by decide +kernel
theorem dX10_copy_16 : decode cX10_copy 16 = .ok (.getfield 45, 3) := by decide +kernel
theorem dX10_copy_19 : decode cX10_copy 19 = .ok (.iload_n 1, 1) := by decide +kernel
theorem dX10_copy_20 : decode cX10_copy 20 = .ok (.iload_n 3, 1) := by decide +kernel
theorem dX10_copy_21 : decode cX10_copy 21 = .ok (.iadd, 1) := by decide +kernel
theorem dX10_copy_22 : decode cX10_copy 22 = .ok (.iaload, 1) := by decide +kernel
theorem dX10_copy_23 : decode cX10_copy 23 = .ok (.iastore, 1) := by decide +kernel
theorem dX10_copy_24 : decode cX10_copy 24 = .ok (.iinc 3 1, 3) := by decide +kernel
theorem dX10_copy_27 : decode cX10_copy 27 = .ok (.goto (-25), 3) := by decide +kernel
theorem dX10_copy_30 : decode cX10_copy 30 = .ok (.return_, 1) := by decide +kernel
set_option maxRecDepth 20000 in
theorem ggX10_season_X10_in : GoodIn wsX10_season wsX10_in := goodIn_r _ [8] (by decide +kernel) (by decide +kernel)
set_option maxRecDepth 20000 in
theorem gX10_season_X10_in : GoodIn wsX10_season (va_wsS RX10 72 yX10_in wsX10_in) := goodIn_app (goodIn_of _ (by decide +kernel)) ggX10_season_X10_in
set_option maxRecDepth 20000 in
theorem ggX10_season_X10_copy : GoodIn wsX10_season wsX10_copy := goodIn_r _ [12, 4, 60, 61, 62, 63, 64, 65, 66, 67, 68, 69, 70, 71, 72, 73, 74, 75, 76, 77, 78, 79, 80, 81, 82, 83, 84, 85, 86] (by decide +kernel) (by decide +kernel)
set_option maxRecDepth 20000 in
theorem gX10_season_X10_copy : GoodIn wsX10_season (wsV RX10 162 RX10 yX10_copy wsX10_copy) := goodIn_app (goodIn_of _ (by decide +kernel)) ggX10_season_X10_copy
set_option maxRecDepth 20000 in
theorem ggX10_season_X10_findBest : GoodIn wsX10_season wsX10_findBest := goodIn_r _ [16, 2, 1, 3, 17, 18, 19, 7, 20, 21, 22, 23, 24, 25, 26, 5, 6, 8, 27, 28, 29, 30, 4, 31, 32, 33, 34, 35, 36, 37, 38, 39, 40, 41, 42, 43, 44, 45, 46, 47, 48, 49, 50, 51, 60, 61, 62, 63, 64, 65, 66, 67, 68, 69, 70, 71, 72, 73, 74, 75, 76, 77, 78, 79, 80, 81, 82, 83, 84, 85, 86] (by decide +kernel) (by decide +kernel)
set_option maxRecDepth 20000 in
theorem gX10_season_X10_findBest : GoodIn wsX10_season (wsV RX10 158 RX10 yX10_findBest wsX10_findBest) := goodIn_app (goodIn_of _ (by decide +kernel)) ggX10_season_X10_findBest
set_option maxRecDepth 20000 in
theorem ggX10_season_X10_leftOf : GoodIn wsX10_season wsX10_leftOf := goodIn_r _ [46] (by decide +kernel) (by decide +kernel)
set_option maxRecDepth 20000 in
theorem gX10_season_X10_leftOf : GoodIn wsX10_season (va_wsS RX10 155 yX10_leftOf wsX10_leftOf) := goodIn_app (goodIn_of _ (by decide +kernel)) ggX10_season_X10_leftOf
set_option maxRecDepth 20000 in
theorem ggX10_season_X10_climbs : GoodIn wsX10_season wsX10_climbs := goodIn_r _ [55, 4, 47, 48, 49, 7, 50, 51, 60, 61, 62, 63, 64, 65, 66, 67, 68, 69, 70, 71, 72, 73, 74, 75, 76, 77, 78, 79, 80, 81, 82, 83, 84, 85, 86] (by decide +kernel) (by decide +kernel)
set_option maxRecDepth 20000 in
theorem gX10_season_X10_climbs : GoodIn wsX10_season (wsV RX10 144 RX10 yX10_climbs wsX10_climbs) := goodIn_app (goodIn_of _ (by decide +kernel)) ggX10_season_X10_climbs
set_option maxRecDepth 20000 in
theorem ggX10_season_X10_endDay : GoodIn wsX10_season wsX10_endDay := goodIn_r _ [59, 4, 2, 31, 60, 61, 62, 63, 64, 65, 66, 67, 68, 69, 70, 71, 72, 73, 74, 75, 76, 77, 78, 79, 80, 81, 82, 83, 84, 85, 86] (by decide +kernel) (by decide +kernel)
set_option maxRecDepth 20000 in
theorem gX10_season_X10_endDay : GoodIn wsX10_season (wsV RX10 147 RX10 yX10_endDay wsX10_endDay) := goodIn_app (goodIn_of _ (by decide +kernel)) ggX10_season_X10_endDay
theorem dX10_season_0 : decode cX10_season 0 = .ok (.iload_n 1, 1) := by decide +kernel
theorem dX10_season_1 : decode cX10_season 1 = .ok (.iconst 1, 1) := by decide +kernel
theorem dX10_season_2 : decode cX10_season 2 = .ok (.bipush 8, 2) := by decide +kernel
theorem dX10_season_4 : decode cX10_season 4 = .ok (.invokestatic 72, 3) := by decide +kernel
theorem dX10_season_7 : decode cX10_season 7 = .ok (.ifCond .ne 5, 3) := by decide +kernel
theorem dX10_season_10 : decode cX10_season 10 = .ok (.iconst (-1), 1) := by decide +kernel
theorem dX10_season_11 : decode cX10_season 11 = .ok (.ireturn, 1) := by decide +kernel
theorem dX10_season_12 : decode cX10_season 12 = .ok (.aload_n 0, 1) := by decide +kernel
theorem dX10_season_13 : decode cX10_season 13 = .ok (.iconst 0, 1) := by decide +kernel
theorem dX10_season_14 : decode cX10_season 14 = .ok (.bipush 12, 2) := by decide +kernel
theorem dX10_season_16 : decode cX10_season 16 = .ok (.invokevirtual 162, 3) := by decide +kernel
theorem dX10_season_19 : decode cX10_season 19 = .ok (.iconst 0, 1) := by decide +kernel
theorem dX10_season_20 : decode cX10_season 20 = .ok (.istore_n 2, 1) := by decide +kernel
theorem dX10_season_21 : decode cX10_season 21 = .ok (.iconst 0, 1) := by decide +kernel
theorem dX10_season_22 : decode cX10_season 22 = .ok (.istore_n 3, 1) := by decide +kernel
theorem dX10_season_23 : decode cX10_season 23 = .ok (.iload_n 3, 1) := by decide +kernel
theorem dX10_season_24 : decode cX10_season 24 = .ok (.iload_n 1, 1) := by decide +kernel
theorem dX10_season_25 : decode cX10_season 25 = .ok (.if_icmp .ge 106, 3) := by decide +kernel
theorem dX10_season_28 : decode cX10_season 28 = .ok (.aload_n 0, 1) := by decide +kernel
theorem dX10_season_29 : decode cX10_season 29 = .ok (.bipush 12, 2) := by decide +kernel
theorem dX10_season_31 : decode cX10_season 31 = .ok (.invokevirtual 158, 3) := by decide +kernel
theorem dX10_season_34 : decode cX10_season 34 = .ok (.iload_n 2, 1) := by decide +kernel
theorem dX10_season_35 : decode cX10_season 35 = .ok (.aload_n 0, 1) := by decide +kernel
theorem dX10_season_36 : decode cX10_season 36 = .ok (.getfield 51, 3) := by decide +kernel
theorem dX10_season_39 : decode cX10_season 39 = .ok (.iconst 0, 1) := by decide +kernel
theorem dX10_season_40 : decode cX10_season 40 = .ok (.iaload, 1) := by decide +kernel
theorem dX10_season_41 : decode cX10_season 41 = .ok (.iadd, 1) := by decide +kernel
theorem dX10_season_42 : decode cX10_season 42 = .ok (.istore_n 2, 1) := by decide +kernel
theorem dX10_season_43 : decode cX10_season 43 = .ok (.iconst 0, 1) := by decide +kernel
theorem dX10_season_44 : decode cX10_season 44 = .ok (.istore 4, 2) := by decide +kernel
theorem dX10_season_46 : decode cX10_season 46 = .ok (.iload 4, 2) := by decide +kernel
theorem dX10_season_48 : decode cX10_season 48 = .ok (.aload_n 0, 1) := by decide +kernel
theorem dX10_season_49 : decode cX10_season 49 = .ok (.getfield 33, 3) := by decide +kernel
theorem dX10_season_52 : decode cX10_season 52 = .ok (.iconst 0, 1) := by decide +kernel
theorem dX10_season_53 : decode cX10_season 53 = .ok (.iaload, 1) := by decide +kernel
theorem dX10_season_54 : decode cX10_season 54 = .ok (.if_icmp .ge 50, 3) := by decide +kernel
theorem dX10_season_57 : decode cX10_season 57 = .ok (.aload_n 0, 1) := by decide +kernel
theorem dX10_season_58 : decode cX10_season 58 = .ok (.getfield 54, 3) := by decide +kernel
theorem dX10_season_61 : decode cX10_season 61 = .ok (.iload 4, 2) := by decide +kernel
theorem dX10_season_63 : decode cX10_season 63 = .ok (.iaload, 1) := by decide +kernel
theorem dX10_season_64 : decode cX10_season 64 = .ok (.bipush (-9), 2) := by decide +kernel
theorem dX10_season_66 : decode cX10_season 66 = .ok (.if_icmp .eq 32, 3) := by decide +kernel
theorem dX10_season_69 : decode cX10_season 69 = .ok (.aload_n 0, 1) := by decide +kernel
theorem dX10_season_70 : decode cX10_season 70 = .ok (.bipush 12, 2) := by decide +kernel
theorem dX10_season_72 : decode cX10_season 72 = .ok (.aload_n 0, 1) := by decide +kernel
theorem dX10_season_73 : decode cX10_season 73 = .ok (.getfield 54, 3) := by decide +kernel
theorem dX10_season_76 : decode cX10_season 76 = .ok (.iload 4, 2) := by decide +kernel
theorem dX10_season_78 : decode cX10_season 78 = .ok (.iaload, 1) := by decide +kernel
theorem dX10_season_79 : decode cX10_season 79 = .ok (.invokestatic 155, 3) := by decide +kernel
theorem dX10_season_82 : decode cX10_season 82 = .ok (.aload_n 0, 1) := by decide +kernel
theorem dX10_season_83 : decode cX10_season 83 = .ok (.getfield 54, 3) := by decide +kernel
theorem dX10_season_86 : decode cX10_season 86 = .ok (.iload 4, 2) := by decide +kernel
theorem dX10_season_88 : decode cX10_season 88 = .ok (.iaload, 1) := by decide +kernel
theorem dX10_season_89 : decode cX10_season 89 = .ok (.bipush 10, 2) := by decide +kernel
theorem dX10_season_91 : decode cX10_season 91 = .ok (.irem, 1) := by decide +kernel
theorem dX10_season_92 : decode cX10_season 92 = .ok (.iload 4, 2) := by decide +kernel
theorem dX10_season_94 : decode cX10_season 94 = .ok (.invokevirtual 144, 3) := by decide +kernel
theorem dX10_season_97 : decode cX10_season 97 = .ok (.pop, 1) := by decide +kernel
theorem dX10_season_98 : decode cX10_season 98 = .ok (.iinc 4 1, 3) := by decide +kernel
theorem dX10_season_101 : decode cX10_season 101 = .ok (.goto (-55), 3) := by decide +kernel
theorem dX10_season_104 : decode cX10_season 104 = .ok (.aload_n 0, 1) := by decide +kernel
theorem dX10_season_105 : decode cX10_season 105 = .ok (.getfield 45, 3) := by decide +kernel
theorem dX10_season_108 : decode cX10_season 108 = .ok (.bipush 12, 2) := by decide +kernel
theorem dX10_season_110 : decode cX10_season 110 = .ok (.iaload, 1) := by decide +kernel
theorem dX10_season_111 : decode cX10_season 111 = .ok (.bipush 30, 2) := by decide +kernel
theorem dX10_season_113 : decode cX10_season 113 = .ok (.if_icmp .ne 5, 3) := by decide +kernel
theorem dX10_season_116 : decode cX10_season 116 = .ok (.iload_n 2, 1) := by decide +kernel
theorem dX10_season_117 : decode cX10_season 117 = .ok (.ireturn, 1) := by decide +kernel
theorem dX10_season_118 : decode cX10_season 118 = .ok (.aload_n 0, 1) := by decide +kernel
theorem dX10_season_119 : decode cX10_season 119 = .ok (.bipush 12, 2) := by decide +kernel
theorem dX10_season_121 : decode cX10_season 121 = .ok (.invokevirtual 147, 3) := by decide +kernel
theorem dX10_season_124 : decode cX10_season 124 = .ok (.pop, 1) := by decide +kernel
theorem dX10_season_125 : decode cX10_season 125 = .ok (.iinc 3 1, 3) := by decide +kernel
theorem dX10_season_128 : decode cX10_season 128 = .ok (.goto (-105), 3) := by decide +kernel
theorem dX10_season_131 : decode cX10_season 131 = .ok (.iload_n 2, 1) := by decide +kernel
theorem dX10_season_132 : decode cX10_season 132 = .ok (.ireturn, 1) := by decide +kernel
set_option maxRecDepth 20000 in
theorem ggX10_findWholes_X10_fits : GoodIn wsX10_findWholes wsX10_fits := goodIn_r _ [8, 9, 10, 11, 12, 13, 14, 15, 16, 17, 18, 19, 20, 21, 22, 23, 24, 25, 26, 27, 28, 29, 30, 31, 32, 33, 34, 35, 36, 37, 38] (by decide +kernel) (by decide +kernel)
set_option maxRecDepth 20000 in
theorem gX10_findWholes_X10_fits : GoodIn wsX10_findWholes (wsV RX10 129 RX10 yX10_fits wsX10_fits) := goodIn_app (goodIn_of _ (by decide +kernel)) ggX10_findWholes_X10_fits
theorem dX10_findWholes_0 : decode cX10_findWholes 0 = .ok (.aload_n 0, 1) := by decide +kernel
theorem dX10_findWholes_1 : decode cX10_findWholes 1 = .ok (.getfield 57, 3) := by decide +kernel
theorem dX10_findWholes_4 : decode cX10_findWholes 4 = .ok (.iconst 0, 1) := by decide +kernel
theorem dX10_findWholes_5 : decode cX10_findWholes 5 = .ok (.iconst 0, 1) := by decide +kernel
theorem dX10_findWholes_6 : decode cX10_findWholes 6 = .ok (.iastore, 1) := by decide +kernel
theorem dX10_findWholes_7 : decode cX10_findWholes 7 = .ok (.iconst 1, 1) := by decide +kernel
theorem dX10_findWholes_8 : decode cX10_findWholes 8 = .ok (.istore_n 1, 1) := by decide +kernel
theorem dX10_findWholes_9 : decode cX10_findWholes 9 = .ok (.iload_n 1, 1) := by decide +kernel
theorem dX10_findWholes_10 : decode cX10_findWholes 10 = .ok (.iconst 1, 1) := by decide +kernel
theorem dX10_findWholes_11 : decode cX10_findWholes 11 = .ok (.aload_n 0, 1) := by decide +kernel
theorem dX10_findWholes_12 : decode cX10_findWholes 12 = .ok (.getfield 13, 3) := by decide +kernel
theorem dX10_findWholes_15 : decode cX10_findWholes 15 = .ok (.iconst 0, 1) := by decide +kernel
theorem dX10_findWholes_16 : decode cX10_findWholes 16 = .ok (.iaload, 1) := by decide +kernel
theorem dX10_findWholes_17 : decode cX10_findWholes 17 = .ok (.ishl, 1) := by decide +kernel
theorem dX10_findWholes_18 : decode cX10_findWholes 18 = .ok (.if_icmp .ge 137, 3) := by decide +kernel
theorem dX10_findWholes_21 : decode cX10_findWholes 21 = .ok (.iconst 0, 1) := by decide +kernel
theorem dX10_findWholes_22 : decode cX10_findWholes 22 = .ok (.istore_n 2, 1) := by decide +kernel
theorem dX10_findWholes_23 : decode cX10_findWholes 23 = .ok (.iload_n 1, 1) := by decide +kernel
theorem dX10_findWholes_24 : decode cX10_findWholes 24 = .ok (.iload_n 2, 1) := by decide +kernel
theorem dX10_findWholes_25 : decode cX10_findWholes 25 = .ok (.ishr, 1) := by decide +kernel
theorem dX10_findWholes_26 : decode cX10_findWholes 26 = .ok (.iconst 1, 1) := by decide +kernel
theorem dX10_findWholes_27 : decode cX10_findWholes 27 = .ok (.iand, 1) := by decide +kernel
theorem dX10_findWholes_28 : decode cX10_findWholes 28 = .ok (.ifCond .ne 9, 3) := by decide +kernel
theorem dX10_findWholes_31 : decode cX10_findWholes 31 = .ok (.iinc 2 1, 3) := by decide +kernel
theorem dX10_findWholes_34 : decode cX10_findWholes 34 = .ok (.goto (-11), 3) := by decide +kernel
theorem dX10_findWholes_37 : decode cX10_findWholes 37 = .ok (.iload_n 1, 1) := by decide +kernel
theorem dX10_findWholes_38 : decode cX10_findWholes 38 = .ok (.iconst 1, 1) := by decide +kernel
theorem dX10_findWholes_39 : decode cX10_findWholes 39 = .ok (.iload_n 2, 1) := by decide +kernel
theorem dX10_findWholes_40 : decode cX10_findWholes 40 = .ok (.ishl, 1) := by decide +kernel
theorem dX10_findWholes_41 : decode cX10_findWholes 41 = .ok (.iconst (-1), 1) := by decide +kernel
theorem dX10_findWholes_42 : decode cX10_findWholes 42 = .ok (.ixor, 1) := by decide +kernel
theorem dX10_findWholes_43 : decode cX10_findWholes 43 = .ok (.iand, 1) := by decide +kernel
theorem dX10_findWholes_44 : decode cX10_findWholes 44 = .ok (.istore_n 3, 1) := by decide +kernel
theorem dX10_findWholes_45 : decode cX10_findWholes 45 = .ok (.aload_n 0, 1) := by decide +kernel
theorem dX10_findWholes_46 : decode cX10_findWholes 46 = .ok (.getfield 57, 3) := by decide +kernel
theorem dX10_findWholes_49 : decode cX10_findWholes 49 = .ok (.iload_n 3, 1) := by decide +kernel
theorem dX10_findWholes_50 : decode cX10_findWholes 50 = .ok (.iaload, 1) := by decide +kernel
theorem dX10_findWholes_51 : decode cX10_findWholes 51 = .ok (.istore 4, 2) := by decide +kernel
theorem dX10_findWholes_53 : decode cX10_findWholes 53 = .ok (.iload_n 2, 1) := by decide +kernel
theorem dX10_findWholes_54 : decode cX10_findWholes 54 = .ok (.iconst 1, 1) := by decide +kernel
theorem dX10_findWholes_55 : decode cX10_findWholes 55 = .ok (.iadd, 1) := by decide +kernel
theorem dX10_findWholes_56 : decode cX10_findWholes 56 = .ok (.istore 5, 2) := by decide +kernel
theorem dX10_findWholes_58 : decode cX10_findWholes 58 = .ok (.iload 5, 2) := by decide +kernel
theorem dX10_findWholes_60 : decode cX10_findWholes 60 = .ok (.aload_n 0, 1) := by decide +kernel
theorem dX10_findWholes_61 : decode cX10_findWholes 61 = .ok (.getfield 13, 3) := by decide +kernel
theorem dX10_findWholes_64 : decode cX10_findWholes 64 = .ok (.iconst 0, 1) := by decide +kernel
theorem dX10_findWholes_65 : decode cX10_findWholes 65 = .ok (.iaload, 1) := by decide +kernel
theorem dX10_findWholes_66 : decode cX10_findWholes 66 = .ok (.if_icmp .ge 75, 3) := by decide +kernel
theorem dX10_findWholes_69 : decode cX10_findWholes 69 = .ok (.iload_n 3, 1) := by decide +kernel
theorem dX10_findWholes_70 : decode cX10_findWholes 70 = .ok (.iload 5, 2) := by decide +kernel
theorem dX10_findWholes_72 : decode cX10_findWholes 72 = .ok (.ishr, 1) := by decide +kernel
theorem dX10_findWholes_73 : decode cX10_findWholes 73 = .ok (.iconst 1, 1) := by decide +kernel
theorem dX10_findWholes_74 : decode cX10_findWholes 74 = .ok (.iand, 1) := by decide +kernel
theorem dX10_findWholes_75 : decode cX10_findWholes 75 = .ok (.iconst 1, 1) := by decide +kernel
theorem dX10_findWholes_76 : decode cX10_findWholes 76 = .ok (.if_icmp .ne 59, 3) := by decide +kernel
theorem dX10_findWholes_79 : decode cX10_findWholes 79 = .ok (.aload_n 0, 1) := by decide +kernel
theorem dX10_findWholes_80 : decode cX10_findWholes 80 = .ok (.iload_n 2, 1) := by decide +kernel
theorem dX10_findWholes_81 : decode cX10_findWholes 81 = .ok (.iload 5, 2) := by decide +kernel
theorem dX10_findWholes_83 : decode cX10_findWholes 83 = .ok (.invokevirtual 129, 3) := by decide +kernel
theorem dX10_findWholes_86 : decode cX10_findWholes 86 = .ok (.ifCond .eq 49, 3) := by decide +kernel
theorem dX10_findWholes_89 : decode cX10_findWholes 89 = .ok (.aload_n 0, 1) := by decide +kernel
theorem dX10_findWholes_90 : decode cX10_findWholes 90 = .ok (.getfield 26, 3) := by decide +kernel
theorem dX10_findWholes_93 : decode cX10_findWholes 93 = .ok (.iload_n 2, 1) := by decide +kernel
theorem dX10_findWholes_94 : decode cX10_findWholes 94 = .ok (.iaload, 1) := by decide +kernel
theorem dX10_findWholes_95 : decode cX10_findWholes 95 = .ok (.aload_n 0, 1) := by decide +kernel
theorem dX10_findWholes_96 : decode cX10_findWholes 96 = .ok (.getfield 26, 3) := by decide +kernel
theorem dX10_findWholes_99 : decode cX10_findWholes 99 = .ok (.iload 5, 2) := by decide +kernel
theorem dX10_findWholes_101 : decode cX10_findWholes 101 = .ok (.iaload, 1) := by decide +kernel
theorem dX10_findWholes_102 : decode cX10_findWholes 102 = .ok (.iadd, 1) := by decide +kernel
theorem dX10_findWholes_103 : decode cX10_findWholes 103 = .ok (.aload_n 0, 1) := by decide +kernel
theorem dX10_findWholes_104 : decode cX10_findWholes 104 = .ok (.getfield 57, 3) := by decide +kernel
theorem dX10_findWholes_107 : decode cX10_findWholes 107 = .ok (.iload_n 3, 1) := by decide +kernel
theorem dX10_findWholes_108 : decode cX10_findWholes 108 = .ok (.iconst 1, 1) := by decide +kernel
theorem dX10_findWholes_109 : decode cX10_findWholes 109 = .ok (.iload 5, 2) := by decide +kernel
theorem dX10_findWholes_111 : decode cX10_findWholes 111 = .ok (.ishl, 1) := by decide +kernel
theorem dX10_findWholes_112 : decode cX10_findWholes 112 = .ok (.iconst (-1), 1) := by decide +kernel
theorem dX10_findWholes_113 : decode cX10_findWholes 113 = .ok (.ixor, 1) := by decide +kernel
theorem dX10_findWholes_114 : decode cX10_findWholes 114 = .ok (.iand, 1) := by decide +kernel
theorem dX10_findWholes_115 : decode cX10_findWholes 115 = .ok (.iaload, 1) := by decide +kernel
theorem dX10_findWholes_116 : decode cX10_findWholes 116 = .ok (.iadd, 1) := by decide +kernel
theorem dX10_findWholes_117 : decode cX10_findWholes 117 = .ok (.istore 6, 2) := by decide +kernel
theorem dX10_findWholes_119 : decode cX10_findWholes 119 = .ok (.iload 6, 2) := by decide +kernel
theorem dX10_findWholes_121 : decode cX10_findWholes 121 = .ok (.iload 4, 2) := by decide +kernel
theorem dX10_findWholes_123 : decode cX10_findWholes 123 = .ok (.if_icmp .le 8, 3) := by decide +kernel
theorem dX10_findWholes_126 : decode cX10_findWholes 126 = .ok (.iload 6, 2) := by decide +kernel
theorem dX10_findWholes_128 : decode cX10_findWholes 128 = .ok (.goto 5, 3) := by decide +kernel
theorem dX10_findWholes_131 : decode cX10_findWholes 131 = .ok (.iload 4, 2) := by decide +kernel
theorem dX10_findWholes_133 : decode cX10_findWholes 133 = .ok (.istore 4, 2) := by decide +kernel
theorem dX10_findWholes_135 : decode cX10_findWholes 135 = .ok (.iinc 5 1, 3) := by decide +kernel
theorem dX10_findWholes_138 : decode cX10_findWholes 138 = .ok (.goto (-80), 3) := by decide +kernel
theorem dX10_findWholes_141 : decode cX10_findWholes 141 = .ok (.aload_n 0, 1) := by decide +kernel
theorem dX10_findWholes_142 : decode cX10_findWholes 142 = .ok (.getfield 57, 3) := by decide +kernel
theorem dX10_findWholes_145 : decode cX10_findWholes 145 = .ok (.iload_n 1, 1) := by decide +kernel
theorem dX10_findWholes_146 : decode cX10_findWholes 146 = .ok (.iload 4, 2) := by decide +kernel
theorem dX10_findWholes_148 : decode cX10_findWholes 148 = .ok (.iastore, 1) := by decide +kernel
theorem dX10_findWholes_149 : decode cX10_findWholes 149 = .ok (.iinc 1 1, 3) := by decide +kernel
theorem dX10_findWholes_152 : decode cX10_findWholes 152 = .ok (.goto (-143), 3) := by decide +kernel
theorem dX10_findWholes_155 : decode cX10_findWholes 155 = .ok (.return_, 1) := by decide +kernel
set_option maxRecDepth 20000 in
theorem ggX10_whole_X10_findWholes : GoodIn wsX10_whole wsX10_findWholes := goodIn_r _ [7, 1, 2, 8, 9, 10, 11, 6, 12, 13, 14, 15, 16, 17, 18, 19, 20, 21, 22, 23, 24, 25, 26, 27, 28, 29, 30, 31, 32, 33, 34, 35, 36, 37, 38, 39, 40, 41, 42] (by decide +kernel) (by decide +kernel)
set_option maxRecDepth 20000 in
theorem gX10_whole_X10_findWholes : GoodIn wsX10_whole (wsV RX10 166 RX10 yX10_findWholes wsX10_findWholes) := goodIn_app (goodIn_of _ (by decide +kernel)) ggX10_whole_X10_findWholes
theorem dX10_whole_0 : decode cX10_whole 0 = .ok (.aload_n 0, 1) := by decide +kernel
theorem dX10_whole_1 : decode cX10_whole 1 = .ok (.invokevirtual 166, 3) := by decide +kernel
theorem dX10_whole_4 : decode cX10_whole 4 = .ok (.aload_n 0, 1) := by decide +kernel
theorem dX10_whole_5 : decode cX10_whole 5 = .ok (.getfield 57, 3) := by decide +kernel
theorem dX10_whole_8 : decode cX10_whole 8 = .ok (.iload_n 1, 1) := by decide +kernel
theorem dX10_whole_9 : decode cX10_whole 9 = .ok (.iconst 1, 1) := by decide +kernel
theorem dX10_whole_10 : decode cX10_whole 10 = .ok (.aload_n 0, 1) := by decide +kernel
theorem dX10_whole_11 : decode cX10_whole 11 = .ok (.getfield 13, 3) := by decide +kernel
theorem dX10_whole_14 : decode cX10_whole 14 = .ok (.iconst 0, 1) := by decide +kernel
theorem dX10_whole_15 : decode cX10_whole 15 = .ok (.iaload, 1) := by decide +kernel
theorem dX10_whole_16 : decode cX10_whole 16 = .ok (.ishl, 1) := by decide +kernel
theorem dX10_whole_17 : decode cX10_whole 17 = .ok (.iconst 1, 1) := by decide +kernel
theorem dX10_whole_18 : decode cX10_whole 18 = .ok (.isub, 1) := by decide +kernel
theorem dX10_whole_19 : decode cX10_whole 19 = .ok (.iand, 1) := by decide +kernel
theorem dX10_whole_20 : decode cX10_whole 20 = .ok (.iaload, 1) := by decide +kernel
theorem dX10_whole_21 : decode cX10_whole 21 = .ok (.ireturn, 1) := by decide +kernel
theorem dX10_orders_0 : decode cX10_orders 0 = .ok (.iconst 1, 1) := by decide +kernel
theorem dX10_orders_1 : decode cX10_orders 1 = .ok (.istore_n 1, 1) := by decide +kernel
theorem dX10_orders_2 : decode cX10_orders 2 = .ok (.iconst 2, 1) := by decide +kernel
theorem dX10_orders_3 : decode cX10_orders 3 = .ok (.istore_n 2, 1) := by decide +kernel
theorem dX10_orders_4 : decode cX10_orders 4 = .ok (.iload_n 2, 1) := by decide +kernel
theorem dX10_orders_5 : decode cX10_orders 5 = .ok (.iload_n 0, 1) := by decide +kernel
theorem dX10_orders_6 : decode cX10_orders 6 = .ok (.if_icmp .gt 13, 3) := by decide +kernel
theorem dX10_orders_9 : decode cX10_orders 9 = .ok (.iload_n 1, 1) := by decide +kernel
theorem dX10_orders_10 : decode cX10_orders 10 = .ok (.iload_n 2, 1) := by decide +kernel
theorem dX10_orders_11 : decode cX10_orders 11 = .ok (.imul, 1) := by decide +kernel
theorem dX10_orders_12 : decode cX10_orders 12 = .ok (.istore_n 1, 1) := by decide +kernel
theorem dX10_orders_13 : decode cX10_orders 13 = .ok (.iinc 2 1, 3) := by decide +kernel
theorem dX10_orders_16 : decode cX10_orders 16 = .ok (.goto (-12), 3) := by decide +kernel
theorem dX10_orders_19 : decode cX10_orders 19 = .ok (.iload_n 1, 1) := by decide +kernel
theorem dX10_orders_20 : decode cX10_orders 20 = .ok (.ireturn, 1) := by decide +kernel
theorem dX10_bitsIn_0 : decode cX10_bitsIn 0 = .ok (.iconst 0, 1) := by decide +kernel
theorem dX10_bitsIn_1 : decode cX10_bitsIn 1 = .ok (.istore_n 1, 1) := by decide +kernel
theorem dX10_bitsIn_2 : decode cX10_bitsIn 2 = .ok (.iconst 0, 1) := by decide +kernel
theorem dX10_bitsIn_3 : decode cX10_bitsIn 3 = .ok (.istore_n 2, 1) := by decide +kernel
theorem dX10_bitsIn_4 : decode cX10_bitsIn 4 = .ok (.iload_n 2, 1) := by decide +kernel
theorem dX10_bitsIn_5 : decode cX10_bitsIn 5 = .ok (.bipush 8, 2) := by decide +kernel
theorem dX10_bitsIn_7 : decode cX10_bitsIn 7 = .ok (.if_icmp .ge 17, 3) := by decide +kernel
theorem dX10_bitsIn_10 : decode cX10_bitsIn 10 = .ok (.iload_n 1, 1) := by decide +kernel
theorem dX10_bitsIn_11 : decode cX10_bitsIn 11 = .ok (.iload_n 0, 1) := by decide +kernel
theorem dX10_bitsIn_12 : decode cX10_bitsIn 12 = .ok (.iload_n 2, 1) := by decide +kernel
theorem dX10_bitsIn_13 : decode cX10_bitsIn 13 = .ok (.ishr, 1) := by decide +kernel
theorem dX10_bitsIn_14 : decode cX10_bitsIn 14 = .ok (.iconst 1, 1) := by decide +kernel
theorem dX10_bitsIn_15 : decode cX10_bitsIn 15 = .ok (.iand, 1) := by decide +kernel
theorem dX10_bitsIn_16 : decode cX10_bitsIn 16 = .ok (.iadd, 1) := by decide +kernel
theorem dX10_bitsIn_17 : decode cX10_bitsIn 17 = .ok (.istore_n 1, 1) := by decide +kernel
theorem dX10_bitsIn_18 : decode cX10_bitsIn 18 = .ok (.iinc 2 1, 3) := by decide +kernel
theorem dX10_bitsIn_21 : decode cX10_bitsIn 21 = .ok (.goto (-17), 3) := by decide +kernel
theorem dX10_bitsIn_24 : decode cX10_bitsIn 24 = .ok (.iload_n 1, 1) := by decide +kernel
theorem dX10_bitsIn_25 : decode cX10_bitsIn 25 = .ok (.ireturn, 1) := by decide +kernel
theorem dX10_common_0 : decode cX10_common 0 = .ok (.iload_n 0, 1) := by decide +kernel
theorem dX10_common_1 : decode cX10_common 1 = .ok (.istore_n 2, 1) := by decide +kernel
theorem dX10_common_2 : decode cX10_common 2 = .ok (.iload_n 1, 1) := by decide +kernel
theorem dX10_common_3 : decode cX10_common 3 = .ok (.istore_n 3, 1) := by decide +kernel
theorem dX10_common_4 : decode cX10_common 4 = .ok (.iload_n 3, 1) := by decide +kernel
theorem dX10_common_5 : decode cX10_common 5 = .ok (.ifCond .eq 16, 3) := by decide +kernel
theorem dX10_common_8 : decode cX10_common 8 = .ok (.iload_n 2, 1) := by decide +kernel
theorem dX10_common_9 : decode cX10_common 9 = .ok (.iload_n 3, 1) := by decide +kernel
theorem dX10_common_10 : decode cX10_common 10 = .ok (.irem, 1) := by decide +kernel
theorem dX10_common_11 : decode cX10_common 11 = .ok (.istore 4, 2) := by decide +kernel
theorem dX10_common_13 : decode cX10_common 13 = .ok (.iload_n 3, 1) := by decide +kernel
theorem dX10_common_14 : decode cX10_common 14 = .ok (.istore_n 2, 1) := by decide +kernel
theorem dX10_common_15 : decode cX10_common 15 = .ok (.iload 4, 2) := by decide +kernel
theorem dX10_common_17 : decode cX10_common 17 = .ok (.istore_n 3, 1) := by decide +kernel
theorem dX10_common_18 : decode cX10_common 18 = .ok (.goto (-14), 3) := by decide +kernel
theorem dX10_common_21 : decode cX10_common 21 = .ok (.iload_n 2, 1) := by decide +kernel
theorem dX10_common_22 : decode cX10_common 22 = .ok (.ireturn, 1) := by decide +kernel
set_option maxRecDepth 20000 in
theorem ggX10_worth_X10_isOne : GoodIn wsX10_worth wsX10_isOne := goodIn_r _ [7, 1, 8, 9, 6, 10, 32, 33, 34, 35, 36, 37, 38, 39, 40, 41, 42, 43, 44, 45, 46, 47, 48, 49, 50, 51, 52, 53, 54, 55, 56, 57, 58] (by decide +kernel) (by decide +kernel)
set_option maxRecDepth 20000 in
theorem gX10_worth_X10_isOne : GoodIn wsX10_worth (wsV RX10 122 RX10 yX10_isOne wsX10_isOne) := goodIn_app (goodIn_of _ (by decide +kernel)) ggX10_worth_X10_isOne
set_option maxRecDepth 20000 in
theorem ggX10_worth_X10_in : GoodIn wsX10_worth wsX10_in := goodIn_r _ [10] (by decide +kernel) (by decide +kernel)
set_option maxRecDepth 20000 in
theorem gX10_worth_X10_in : GoodIn wsX10_worth (va_wsS RX10 72 yX10_in wsX10_in) := goodIn_app (goodIn_of _ (by decide +kernel)) ggX10_worth_X10_in
set_option maxRecDepth 20000 in
theorem ggX10_worth_X10_findWholes : GoodIn wsX10_worth wsX10_findWholes := goodIn_r _ [14, 2, 1, 15, 16, 17, 18, 6, 19, 20, 21, 22, 32, 33, 34, 35, 36, 37, 38, 39, 40, 41, 42, 43, 44, 45, 46, 47, 48, 49, 50, 51, 52, 53, 54, 55, 56, 57, 58] (by decide +kernel) (by decide +kernel)
set_option maxRecDepth 20000 in
theorem gX10_worth_X10_findWholes : GoodIn wsX10_worth (wsV RX10 166 RX10 yX10_findWholes wsX10_findWholes) := goodIn_app (goodIn_of _ (by decide +kernel)) ggX10_worth_X10_findWholes
set_option maxRecDepth 20000 in
theorem ggX10_worth_X10_bitsIn : GoodIn wsX10_worth wsX10_bitsIn := goodIn_r _ [25] (by decide +kernel) (by decide +kernel)
set_option maxRecDepth 20000 in
theorem gX10_worth_X10_bitsIn : GoodIn wsX10_worth (va_wsS RX10 169 yX10_bitsIn wsX10_bitsIn) := goodIn_app (goodIn_of _ (by decide +kernel)) ggX10_worth_X10_bitsIn
set_option maxRecDepth 20000 in
theorem ggX10_worth_X10_orders : GoodIn wsX10_worth wsX10_orders := goodIn_r _ [28] (by decide +kernel) (by decide +kernel)
set_option maxRecDepth 20000 in
theorem gX10_worth_X10_orders : GoodIn wsX10_worth (va_wsS RX10 172 yX10_orders wsX10_orders) := goodIn_app (goodIn_of _ (by decide +kernel)) ggX10_worth_X10_orders
set_option maxRecDepth 20000 in
theorem ggX10_worth_X10_common : GoodIn wsX10_worth wsX10_common := goodIn_r _ [31] (by decide +kernel) (by decide +kernel)
set_option maxRecDepth 20000 in
theorem gX10_worth_X10_common : GoodIn wsX10_worth (va_wsS RX10 175 yX10_common wsX10_common) := goodIn_app (goodIn_of _ (by decide +kernel)) ggX10_worth_X10_common
theorem dX10_worth_0 : decode cX10_worth 0 = .ok (.aload_n 0, 1) := by decide +kernel
theorem dX10_worth_1 : decode cX10_worth 1 = .ok (.iload_n 1, 1) := by decide +kernel
theorem dX10_worth_2 : decode cX10_worth 2 = .ok (.invokevirtual 122, 3) := by decide +kernel
theorem dX10_worth_5 : decode cX10_worth 5 = .ok (.ifCond .eq 12, 3) := by decide +kernel
theorem dX10_worth_8 : decode cX10_worth 8 = .ok (.iload_n 2, 1) := by decide +kernel
theorem dX10_worth_9 : decode cX10_worth 9 = .ok (.iconst 0, 1) := by decide +kernel
theorem dX10_worth_10 : decode cX10_worth 10 = .ok (.iconst 1, 1) := by decide +kernel
theorem dX10_worth_11 : decode cX10_worth 11 = .ok (.invokestatic 72, 3) := by decide +kernel
theorem dX10_worth_14 : decode cX10_worth 14 = .ok (.ifCond .ne 5, 3) := by decide +kernel
theorem dX10_worth_17 : decode cX10_worth 17 = .ok (.iconst (-1), 1) := by decide +kernel
theorem dX10_worth_18 : decode cX10_worth 18 = .ok (.ireturn, 1) := by decide +kernel
theorem dX10_worth_19 : decode cX10_worth 19 = .ok (.aload_n 0, 1) := by decide +kernel
theorem dX10_worth_20 : decode cX10_worth 20 = .ok (.invokevirtual 166, 3) := by decide +kernel
theorem dX10_worth_23 : decode cX10_worth 23 = .ok (.aload_n 0, 1) := by decide +kernel
theorem dX10_worth_24 : decode cX10_worth 24 = .ok (.getfield 13, 3) := by decide +kernel
theorem dX10_worth_27 : decode cX10_worth 27 = .ok (.iconst 0, 1) := by decide +kernel
theorem dX10_worth_28 : decode cX10_worth 28 = .ok (.iaload, 1) := by decide +kernel
theorem dX10_worth_29 : decode cX10_worth 29 = .ok (.istore_n 3, 1) := by decide +kernel
theorem dX10_worth_30 : decode cX10_worth 30 = .ok (.iconst 0, 1) := by decide +kernel
theorem dX10_worth_31 : decode cX10_worth 31 = .ok (.istore 4, 2) := by decide +kernel
theorem dX10_worth_33 : decode cX10_worth 33 = .ok (.iconst 0, 1) := by decide +kernel
theorem dX10_worth_34 : decode cX10_worth 34 = .ok (.istore 5, 2) := by decide +kernel
theorem dX10_worth_36 : decode cX10_worth 36 = .ok (.iload 5, 2) := by decide +kernel
theorem dX10_worth_38 : decode cX10_worth 38 = .ok (.iconst 1, 1) := by decide +kernel
theorem dX10_worth_39 : decode cX10_worth 39 = .ok (.iload_n 3, 1) := by decide +kernel
theorem dX10_worth_40 : decode cX10_worth 40 = .ok (.ishl, 1) := by decide +kernel
theorem dX10_worth_41 : decode cX10_worth 41 = .ok (.if_icmp .ge 65, 3) := by decide +kernel
theorem dX10_worth_44 : decode cX10_worth 44 = .ok (.iload 5, 2) := by decide +kernel
theorem dX10_worth_46 : decode cX10_worth 46 = .ok (.iload_n 1, 1) := by decide +kernel
theorem dX10_worth_47 : decode cX10_worth 47 = .ok (.ishr, 1) := by decide +kernel
theorem dX10_worth_48 : decode cX10_worth 48 = .ok (.iconst 1, 1) := by decide +kernel
theorem dX10_worth_49 : decode cX10_worth 49 = .ok (.iand, 1) := by decide +kernel
theorem dX10_worth_50 : decode cX10_worth 50 = .ok (.ifCond .ne 50, 3) := by decide +kernel
theorem dX10_worth_53 : decode cX10_worth 53 = .ok (.iload 5, 2) := by decide +kernel
theorem dX10_worth_55 : decode cX10_worth 55 = .ok (.invokestatic 169, 3) := by decide +kernel
theorem dX10_worth_58 : decode cX10_worth 58 = .ok (.istore 6, 2) := by decide +kernel
theorem dX10_worth_60 : decode cX10_worth 60 = .ok (.iload 4, 2) := by decide +kernel
theorem dX10_worth_62 : decode cX10_worth 62 = .ok (.iload 6, 2) := by decide +kernel
theorem dX10_worth_64 : decode cX10_worth 64 = .ok (.invokestatic 172, 3) := by decide +kernel
theorem dX10_worth_67 : decode cX10_worth 67 = .ok (.iload_n 3, 1) := by decide +kernel
theorem dX10_worth_68 : decode cX10_worth 68 = .ok (.iload 6, 2) := by decide +kernel
theorem dX10_worth_70 : decode cX10_worth 70 = .ok (.isub, 1) := by decide +kernel
theorem dX10_worth_71 : decode cX10_worth 71 = .ok (.iconst 1, 1) := by decide +kernel
theorem dX10_worth_72 : decode cX10_worth 72 = .ok (.isub, 1) := by decide +kernel
theorem dX10_worth_73 : decode cX10_worth 73 = .ok (.invokestatic 172, 3) := by decide +kernel
theorem dX10_worth_76 : decode cX10_worth 76 = .ok (.imul, 1) := by decide +kernel
theorem dX10_worth_77 : decode cX10_worth 77 = .ok (.aload_n 0, 1) := by decide +kernel
theorem dX10_worth_78 : decode cX10_worth 78 = .ok (.getfield 57, 3) := by decide +kernel
theorem dX10_worth_81 : decode cX10_worth 81 = .ok (.iload 5, 2) := by decide +kernel
theorem dX10_worth_83 : decode cX10_worth 83 = .ok (.iconst 1, 1) := by decide +kernel
theorem dX10_worth_84 : decode cX10_worth 84 = .ok (.iload_n 1, 1) := by decide +kernel
theorem dX10_worth_85 : decode cX10_worth 85 = .ok (.ishl, 1) := by decide +kernel
theorem dX10_worth_86 : decode cX10_worth 86 = .ok (.ior, 1) := by decide +kernel
theorem dX10_worth_87 : decode cX10_worth 87 = .ok (.iaload, 1) := by decide +kernel
theorem dX10_worth_88 : decode cX10_worth 88 = .ok (.aload_n 0, 1) := by decide +kernel
theorem dX10_worth_89 : decode cX10_worth 89 = .ok (.getfield 57, 3) := by decide +kernel
theorem dX10_worth_92 : decode cX10_worth 92 = .ok (.iload 5, 2) := by decide +kernel
theorem dX10_worth_94 : decode cX10_worth 94 = .ok (.iaload, 1) := by decide +kernel
theorem dX10_worth_95 : decode cX10_worth 95 = .ok (.isub, 1) := by decide +kernel
theorem dX10_worth_96 : decode cX10_worth 96 = .ok (.imul, 1) := by decide +kernel
theorem dX10_worth_97 : decode cX10_worth 97 = .ok (.iadd, 1) := by decide +kernel
theorem dX10_worth_98 : decode cX10_worth 98 = .ok (.istore 4, 2) := by decide +kernel
theorem dX10_worth_100 : decode cX10_worth 100 = .ok (.iinc 5 1, 3) := by decide +kernel
theorem dX10_worth_103 : decode cX10_worth 103 = .ok (.goto (-67), 3) := by decide +kernel
theorem dX10_worth_106 : decode cX10_worth 106 = .ok (.iload_n 3, 1) := by decide +kernel
