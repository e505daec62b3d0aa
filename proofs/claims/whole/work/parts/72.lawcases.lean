def LV (xs : Nat → Int32) (k : Nat) : Int64 := ((xs (nI (4 * k) + (1 : Int32)).toNatClampNeg).toInt64 <<< ((32 : Int32).toInt64 &&& 63)) ||| ((xs (nI (4 * k) + (2 : Int32)).toNatClampNeg).toInt64 &&& (4294967295 : Int64))
theorem lgc_self (x : Int64) : lg_cmp x x = 0 := by
  unfold lg_cmp
  simp
abbrev lvL (b : Nat) (aC aM : Nat → Nat) (k : Nat) : List (Nat × Value) := [(0, .ref b), (1, .ref (aC 0)), (2, .ref (aM 0)), (3, .int (nI (4 * k)))]
section LLL
variable {p : Program} {l : Launch} {e : Env} {s : State} {m : MethodId} {args : Array Value} {below : List Frame} {meth : Method} {c : Code} {Q : State → Prop} {D : va_G} {cy : Nat → ClassId} {aC aM : Nat → Nat} {b L : Nat} {xs : Nat → Int32} {zb : Nat → Nat} {σ μ : St}
set_option maxHeartbeats 4000000 in
set_option maxRecDepth 20000 in
theorem lc_type (X : ZZ p s m args meth c D cy aC aM b L xs zb) {k : Nat} (hin1 : vp_in (nI (4 * k) + (1 : Int32)) L) (hin2 : vp_in (nI (4 * k) + (2 : Int32)) L) (hin3 : vp_in (nI (4 * k) + (3 : Int32)) L) (hR : RR σ μ) (fin : ∀ σ1 μ1, RR σ1 μ1 → LL p l e s m args below meth c Q D cy aC aM zb σ1 μ1 767 (lvL b aC aM k) []) : LL p l e s m args below meth c Q D cy aC aM zb σ μ 144 (lvL b aC aM k) [] := by
  refine ll_aload_n (q := 145) X 1 dL_law_144 rfl rfl rfl ?_
  refine ll_aload_n (q := 146) X 0 dL_law_145 rfl rfl rfl ?_
  refine ll_iload_n (q := 147) X 3 dL_law_146 rfl rfl rfl ?_
  refine ll_iconst (q := 148) X (1 : Int32) dL_law_147 (by decide) rfl ?_
  refine ll_iadd (q := 149) X dL_law_148 rfl ?_
  refine ll_iald (q := 150) X hin1 dL_law_149 rfl ?_
  refine ll_i2l (q := 151) X dL_law_150 rfl ?_
  refine ll_bipush (q := 153) X (32 : Int32) dL_law_151 (by decide) rfl ?_
  refine ll_lshl (q := 154) X dL_law_153 rfl ?_
  refine ll_aload_n (q := 155) X 0 dL_law_154 rfl rfl rfl ?_
  refine ll_iload_n (q := 156) X 3 dL_law_155 rfl rfl rfl ?_
  refine ll_iconst (q := 157) X (2 : Int32) dL_law_156 (by decide) rfl ?_
  refine ll_iadd (q := 158) X dL_law_157 rfl ?_
  refine ll_iald (q := 159) X hin2 dL_law_158 rfl ?_
  refine ll_i2l (q := 160) X dL_law_159 rfl ?_
  refine ll_ldc2 (q := 163) X (4294967295 : Int64) dL_law_160 (List.mem_of_getElem? (i := 6) (by decide +kernel)) rfl ?_
  refine ll_land (q := 164) X dL_law_163 rfl ?_
  refine ll_lor (q := 165) X dL_law_164 rfl ?_
  refine ll_aload_n (q := 166) X 0 dL_law_165 rfl rfl rfl ?_
  refine ll_iload_n (q := 167) X 3 dL_law_166 rfl rfl rfl ?_
  refine ll_iconst (q := 168) X (3 : Int32) dL_law_167 (by decide) rfl ?_
  refine ll_iadd (q := 169) X dL_law_168 rfl ?_
  refine ll_iald (q := 170) X hin3 dL_law_169 rfl ?_
  refine ll_cC (q := 173) X [.long (LV xs k), .int (xs (nI (4 * k) + (3 : Int32)).toNatClampNeg)] (kX9_type l D X.2.2.2.2.2.2.2.1 (st_type hR (LV xs k) (xs (nI (4 * k) + (3 : Int32)).toNatClampNeg))) (cwV 2 X.1.2.2.2.2 gL_law_X9_type rfl rfl rfl (by decide +kernel) ⟨Nat.le_of_ble_eq_true rfl, Nat.le_of_ble_eq_true rfl⟩) rfl rfl (Nat.le_of_ble_eq_true rfl) dL_law_170 rfl (fun r σ1 h1 => ?_)
  refine ll_aload_n (q := 174) X 2 dL_law_173 rfl rfl rfl ?_
  refine ll_aload_n (q := 175) X 0 dL_law_174 rfl rfl rfl ?_
  refine ll_iload_n (q := 176) X 3 dL_law_175 rfl rfl rfl ?_
  refine ll_iconst (q := 177) X (1 : Int32) dL_law_176 (by decide) rfl ?_
  refine ll_iadd (q := 178) X dL_law_177 rfl ?_
  refine ll_iald (q := 179) X hin1 dL_law_178 rfl ?_
  refine ll_i2l (q := 180) X dL_law_179 rfl ?_
  refine ll_bipush (q := 182) X (32 : Int32) dL_law_180 (by decide) rfl ?_
  refine ll_lshl (q := 183) X dL_law_182 rfl ?_
  refine ll_aload_n (q := 184) X 0 dL_law_183 rfl rfl rfl ?_
  refine ll_iload_n (q := 185) X 3 dL_law_184 rfl rfl rfl ?_
  refine ll_iconst (q := 186) X (2 : Int32) dL_law_185 (by decide) rfl ?_
  refine ll_iadd (q := 187) X dL_law_186 rfl ?_
  refine ll_iald (q := 188) X hin2 dL_law_187 rfl ?_
  refine ll_i2l (q := 189) X dL_law_188 rfl ?_
  refine ll_ldc2 (q := 192) X (4294967295 : Int64) dL_law_189 (List.mem_of_getElem? (i := 6) (by decide +kernel)) rfl ?_
  refine ll_land (q := 193) X dL_law_192 rfl ?_
  refine ll_lor (q := 194) X dL_law_193 rfl ?_
  refine ll_aload_n (q := 195) X 0 dL_law_194 rfl rfl rfl ?_
  refine ll_iload_n (q := 196) X 3 dL_law_195 rfl rfl rfl ?_
  refine ll_iconst (q := 197) X (3 : Int32) dL_law_196 (by decide) rfl ?_
  refine ll_iadd (q := 198) X dL_law_197 rfl ?_
  refine ll_iald (q := 199) X hin3 dL_law_198 rfl ?_
  refine ll_cM (q := 202) X [.long (LV xs k), .int (xs (nI (4 * k) + (3 : Int32)).toNatClampNeg)] (kX10_type l D X.2.2.2.2.2.2.2.2.1 h1) (cwV 2 X.1.2.2.2.2 gL_law_X10_type rfl rfl rfl (by decide +kernel) ⟨Nat.le_of_ble_eq_true rfl, Nat.le_of_ble_eq_true rfl⟩) rfl rfl (Nat.le_of_ble_eq_true rfl) dL_law_199 rfl (fun r2 μ1 h2 => ?_)
  obtain ⟨h2, hR⟩ := h2
  subst h2
  exact ll_icmp_eq (q := 205) X 767 dL_law_202 (by decide) rfl (fun _ => fin _ _ hR) (fun c9 => absurd rfl c9)
set_option maxHeartbeats 4000000 in
set_option maxRecDepth 20000 in
theorem lc_clear (X : ZZ p s m args meth c D cy aC aM b L xs zb) {k : Nat} (hin1 : vp_in (nI (4 * k) + (1 : Int32)) L) (hin2 : vp_in (nI (4 * k) + (2 : Int32)) L) (hin3 : vp_in (nI (4 * k) + (3 : Int32)) L) (hR : RR σ μ) (fin : ∀ σ1 μ1, RR σ1 μ1 → LL p l e s m args below meth c Q D cy aC aM zb σ1 μ1 767 (lvL b aC aM k) []) : LL p l e s m args below meth c Q D cy aC aM zb σ μ 207 (lvL b aC aM k) [] := by
  refine ll_aload_n (q := 208) X 1 dL_law_207 rfl rfl rfl ?_
  refine ll_cC (q := 211) X [] (kX9_clear l D X.2.2.2.2.2.2.2.1 (st_clear hR)) (cwV 0 X.1.2.2.2.2 gL_law_X9_clear rfl rfl rfl (by decide +kernel) ⟨Nat.le_of_ble_eq_true rfl, Nat.le_of_ble_eq_true rfl⟩) rfl rfl (Nat.le_of_ble_eq_true rfl) dL_law_208 rfl (fun r σ1 h1 => ?_)
  refine ll_aload_n (q := 212) X 2 dL_law_211 rfl rfl rfl ?_
  refine ll_cM (q := 215) X [] (kX10_clear l D X.2.2.2.2.2.2.2.2.1 h1) (cwV 0 X.1.2.2.2.2 gL_law_X10_clear rfl rfl rfl (by decide +kernel) ⟨Nat.le_of_ble_eq_true rfl, Nat.le_of_ble_eq_true rfl⟩) rfl rfl (Nat.le_of_ble_eq_true rfl) dL_law_212 rfl (fun r2 μ1 h2 => ?_)
  obtain ⟨h2, hR⟩ := h2
  subst h2
  exact ll_icmp_eq (q := 218) X 767 dL_law_215 (by decide) rfl (fun _ => fin _ _ hR) (fun c9 => absurd rfl c9)
set_option maxHeartbeats 4000000 in
set_option maxRecDepth 20000 in
theorem lc_orchard (X : ZZ p s m args meth c D cy aC aM b L xs zb) {k : Nat} (hin1 : vp_in (nI (4 * k) + (1 : Int32)) L) (hin2 : vp_in (nI (4 * k) + (2 : Int32)) L) (hin3 : vp_in (nI (4 * k) + (3 : Int32)) L) (hR : RR σ μ) (fin : ∀ σ1 μ1, RR σ1 μ1 → LL p l e s m args below meth c Q D cy aC aM zb σ1 μ1 767 (lvL b aC aM k) []) : LL p l e s m args below meth c Q D cy aC aM zb σ μ 220 (lvL b aC aM k) [] := by
  refine ll_aload_n (q := 221) X 1 dL_law_220 rfl rfl rfl ?_
  refine ll_cC (q := 224) X [] (kX9_orchard l D X.2.2.2.2.2.2.2.1 (st_orchard hR)) (cwV 0 X.1.2.2.2.2 gL_law_X9_orchard rfl rfl rfl (by decide +kernel) ⟨Nat.le_of_ble_eq_true rfl, Nat.le_of_ble_eq_true rfl⟩) rfl rfl (Nat.le_of_ble_eq_true rfl) dL_law_221 rfl (fun r σ1 h1 => ?_)
  refine ll_aload_n (q := 225) X 2 dL_law_224 rfl rfl rfl ?_
  refine ll_cM (q := 228) X [] (kX10_orchard l D X.2.2.2.2.2.2.2.2.1 h1) (cwV 0 X.1.2.2.2.2 gL_law_X10_orchard rfl rfl rfl (by decide +kernel) ⟨Nat.le_of_ble_eq_true rfl, Nat.le_of_ble_eq_true rfl⟩) rfl rfl (Nat.le_of_ble_eq_true rfl) dL_law_225 rfl (fun r2 μ1 h2 => ?_)
  obtain ⟨h2, hR⟩ := h2
  subst h2
  exact ll_icmp_eq (q := 231) X 767 dL_law_228 (by decide) rfl (fun _ => fin _ _ hR) (fun c9 => absurd rfl c9)
set_option maxHeartbeats 4000000 in
set_option maxRecDepth 20000 in
theorem lc_half (X : ZZ p s m args meth c D cy aC aM b L xs zb) {k : Nat} (hin1 : vp_in (nI (4 * k) + (1 : Int32)) L) (hin2 : vp_in (nI (4 * k) + (2 : Int32)) L) (hin3 : vp_in (nI (4 * k) + (3 : Int32)) L) (hR : RR σ μ) (fin : ∀ σ1 μ1, RR σ1 μ1 → LL p l e s m args below meth c Q D cy aC aM zb σ1 μ1 767 (lvL b aC aM k) []) : LL p l e s m args below meth c Q D cy aC aM zb σ μ 233 (lvL b aC aM k) [] := by
  refine ll_aload_n (q := 234) X 1 dL_law_233 rfl rfl rfl ?_
  refine ll_aload_n (q := 235) X 0 dL_law_234 rfl rfl rfl ?_
  refine ll_iload_n (q := 236) X 3 dL_law_235 rfl rfl rfl ?_
  refine ll_iconst (q := 237) X (1 : Int32) dL_law_236 (by decide) rfl ?_
  refine ll_iadd (q := 238) X dL_law_237 rfl ?_
  refine ll_iald (q := 239) X hin1 dL_law_238 rfl ?_
  refine ll_aload_n (q := 240) X 0 dL_law_239 rfl rfl rfl ?_
  refine ll_iload_n (q := 241) X 3 dL_law_240 rfl rfl rfl ?_
  refine ll_iconst (q := 242) X (2 : Int32) dL_law_241 (by decide) rfl ?_
  refine ll_iadd (q := 243) X dL_law_242 rfl ?_
  refine ll_iald (q := 244) X hin2 dL_law_243 rfl ?_
  refine ll_cC (q := 247) X [.int (xs (nI (4 * k) + (1 : Int32)).toNatClampNeg), .int (xs (nI (4 * k) + (2 : Int32)).toNatClampNeg)] (kX9_half l D X.2.2.2.2.2.2.2.1 (st_half hR (xs (nI (4 * k) + (1 : Int32)).toNatClampNeg) (xs (nI (4 * k) + (2 : Int32)).toNatClampNeg))) (cwV 2 X.1.2.2.2.2 gL_law_X9_half rfl rfl rfl (by decide +kernel) ⟨Nat.le_of_ble_eq_true rfl, Nat.le_of_ble_eq_true rfl⟩) rfl rfl (Nat.le_of_ble_eq_true rfl) dL_law_244 rfl (fun r σ1 h1 => ?_)
  obtain ⟨h1, rfl⟩ := h1
  refine ll_aload_n (q := 248) X 2 dL_law_247 rfl rfl rfl ?_
  refine ll_aload_n (q := 249) X 0 dL_law_248 rfl rfl rfl ?_
  refine ll_iload_n (q := 250) X 3 dL_law_249 rfl rfl rfl ?_
  refine ll_iconst (q := 251) X (1 : Int32) dL_law_250 (by decide) rfl ?_
  refine ll_iadd (q := 252) X dL_law_251 rfl ?_
  refine ll_iald (q := 253) X hin1 dL_law_252 rfl ?_
  refine ll_aload_n (q := 254) X 0 dL_law_253 rfl rfl rfl ?_
  refine ll_iload_n (q := 255) X 3 dL_law_254 rfl rfl rfl ?_
  refine ll_iconst (q := 256) X (2 : Int32) dL_law_255 (by decide) rfl ?_
  refine ll_iadd (q := 257) X dL_law_256 rfl ?_
  refine ll_iald (q := 258) X hin2 dL_law_257 rfl ?_
  refine ll_cM (q := 261) X [.int (xs (nI (4 * k) + (1 : Int32)).toNatClampNeg), .int (xs (nI (4 * k) + (2 : Int32)).toNatClampNeg)] (kX10_half l D X.2.2.2.2.2.2.2.2.1 h1) (cwV 2 X.1.2.2.2.2 gL_law_X10_half rfl rfl rfl (by decide +kernel) ⟨Nat.le_of_ble_eq_true rfl, Nat.le_of_ble_eq_true rfl⟩) rfl rfl (Nat.le_of_ble_eq_true rfl) dL_law_258 rfl (fun r2 μ1 h2 => ?_)
  obtain ⟨h2, rfl⟩ := h2
  subst h2
  exact ll_icmp_eq (q := 264) X 767 dL_law_261 (by decide) rfl (fun _ => fin _ _ hR) (fun c9 => absurd rfl c9)
set_option maxHeartbeats 4000000 in
set_option maxRecDepth 20000 in
theorem lc_tree (X : ZZ p s m args meth c D cy aC aM b L xs zb) {k : Nat} (hin1 : vp_in (nI (4 * k) + (1 : Int32)) L) (hin2 : vp_in (nI (4 * k) + (2 : Int32)) L) (hin3 : vp_in (nI (4 * k) + (3 : Int32)) L) (hR : RR σ μ) (fin : ∀ σ1 μ1, RR σ1 μ1 → LL p l e s m args below meth c Q D cy aC aM zb σ1 μ1 767 (lvL b aC aM k) []) : LL p l e s m args below meth c Q D cy aC aM zb σ μ 266 (lvL b aC aM k) [] := by
  refine ll_aload_n (q := 267) X 1 dL_law_266 rfl rfl rfl ?_
  refine ll_aload_n (q := 268) X 0 dL_law_267 rfl rfl rfl ?_
  refine ll_iload_n (q := 269) X 3 dL_law_268 rfl rfl rfl ?_
  refine ll_iconst (q := 270) X (1 : Int32) dL_law_269 (by decide) rfl ?_
  refine ll_iadd (q := 271) X dL_law_270 rfl ?_
  refine ll_iald (q := 272) X hin1 dL_law_271 rfl ?_
  refine ll_aload_n (q := 273) X 0 dL_law_272 rfl rfl rfl ?_
  refine ll_iload_n (q := 274) X 3 dL_law_273 rfl rfl rfl ?_
  refine ll_iconst (q := 275) X (2 : Int32) dL_law_274 (by decide) rfl ?_
  refine ll_iadd (q := 276) X dL_law_275 rfl ?_
  refine ll_iald (q := 277) X hin2 dL_law_276 rfl ?_
  refine ll_cC (q := 280) X [.int (xs (nI (4 * k) + (1 : Int32)).toNatClampNeg), .int (xs (nI (4 * k) + (2 : Int32)).toNatClampNeg)] (kX9_tree l D X.2.2.2.2.2.2.2.1 (st_tree hR (xs (nI (4 * k) + (1 : Int32)).toNatClampNeg) (xs (nI (4 * k) + (2 : Int32)).toNatClampNeg))) (cwV 2 X.1.2.2.2.2 gL_law_X9_tree rfl rfl rfl (by decide +kernel) ⟨Nat.le_of_ble_eq_true rfl, Nat.le_of_ble_eq_true rfl⟩) rfl rfl (Nat.le_of_ble_eq_true rfl) dL_law_277 rfl (fun r σ1 h1 => ?_)
  obtain ⟨h1, rfl⟩ := h1
  refine ll_aload_n (q := 281) X 2 dL_law_280 rfl rfl rfl ?_
  refine ll_aload_n (q := 282) X 0 dL_law_281 rfl rfl rfl ?_
  refine ll_iload_n (q := 283) X 3 dL_law_282 rfl rfl rfl ?_
  refine ll_iconst (q := 284) X (1 : Int32) dL_law_283 (by decide) rfl ?_
  refine ll_iadd (q := 285) X dL_law_284 rfl ?_
  refine ll_iald (q := 286) X hin1 dL_law_285 rfl ?_
  refine ll_aload_n (q := 287) X 0 dL_law_286 rfl rfl rfl ?_
  refine ll_iload_n (q := 288) X 3 dL_law_287 rfl rfl rfl ?_
  refine ll_iconst (q := 289) X (2 : Int32) dL_law_288 (by decide) rfl ?_
  refine ll_iadd (q := 290) X dL_law_289 rfl ?_
  refine ll_iald (q := 291) X hin2 dL_law_290 rfl ?_
  refine ll_cM (q := 294) X [.int (xs (nI (4 * k) + (1 : Int32)).toNatClampNeg), .int (xs (nI (4 * k) + (2 : Int32)).toNatClampNeg)] (kX10_tree l D X.2.2.2.2.2.2.2.2.1 h1) (cwV 2 X.1.2.2.2.2 gL_law_X10_tree rfl rfl rfl (by decide +kernel) ⟨Nat.le_of_ble_eq_true rfl, Nat.le_of_ble_eq_true rfl⟩) rfl rfl (Nat.le_of_ble_eq_true rfl) dL_law_291 rfl (fun r2 μ1 h2 => ?_)
  obtain ⟨h2, rfl⟩ := h2
  subst h2
  exact ll_icmp_eq (q := 297) X 767 dL_law_294 (by decide) rfl (fun _ => fin _ _ hR) (fun c9 => absurd rfl c9)
set_option maxHeartbeats 4000000 in
set_option maxRecDepth 20000 in
theorem lc_fit (X : ZZ p s m args meth c D cy aC aM b L xs zb) {k : Nat} (hin1 : vp_in (nI (4 * k) + (1 : Int32)) L) (hin2 : vp_in (nI (4 * k) + (2 : Int32)) L) (hin3 : vp_in (nI (4 * k) + (3 : Int32)) L) (hR : RR σ μ) (fin : ∀ σ1 μ1, RR σ1 μ1 → LL p l e s m args below meth c Q D cy aC aM zb σ1 μ1 767 (lvL b aC aM k) []) : LL p l e s m args below meth c Q D cy aC aM zb σ μ 299 (lvL b aC aM k) [] := by
  refine ll_aload_n (q := 300) X 1 dL_law_299 rfl rfl rfl ?_
  refine ll_aload_n (q := 301) X 0 dL_law_300 rfl rfl rfl ?_
  refine ll_iload_n (q := 302) X 3 dL_law_301 rfl rfl rfl ?_
  refine ll_iconst (q := 303) X (1 : Int32) dL_law_302 (by decide) rfl ?_
  refine ll_iadd (q := 304) X dL_law_303 rfl ?_
  refine ll_iald (q := 305) X hin1 dL_law_304 rfl ?_
  refine ll_aload_n (q := 306) X 0 dL_law_305 rfl rfl rfl ?_
  refine ll_iload_n (q := 307) X 3 dL_law_306 rfl rfl rfl ?_
  refine ll_iconst (q := 308) X (2 : Int32) dL_law_307 (by decide) rfl ?_
  refine ll_iadd (q := 309) X dL_law_308 rfl ?_
  refine ll_iald (q := 310) X hin2 dL_law_309 rfl ?_
  refine ll_cC (q := 313) X [.int (xs (nI (4 * k) + (1 : Int32)).toNatClampNeg), .int (xs (nI (4 * k) + (2 : Int32)).toNatClampNeg)] (kX9_fit l D X.2.2.2.2.2.2.2.1 (st_fit hR (xs (nI (4 * k) + (1 : Int32)).toNatClampNeg) (xs (nI (4 * k) + (2 : Int32)).toNatClampNeg))) (cwV 2 X.1.2.2.2.2 gL_law_X9_fit rfl rfl rfl (by decide +kernel) ⟨Nat.le_of_ble_eq_true rfl, Nat.le_of_ble_eq_true rfl⟩) rfl rfl (Nat.le_of_ble_eq_true rfl) dL_law_310 rfl (fun r σ1 h1 => ?_)
  obtain ⟨h1, rfl⟩ := h1
  refine ll_aload_n (q := 314) X 2 dL_law_313 rfl rfl rfl ?_
  refine ll_aload_n (q := 315) X 0 dL_law_314 rfl rfl rfl ?_
  refine ll_iload_n (q := 316) X 3 dL_law_315 rfl rfl rfl ?_
  refine ll_iconst (q := 317) X (1 : Int32) dL_law_316 (by decide) rfl ?_
  refine ll_iadd (q := 318) X dL_law_317 rfl ?_
  refine ll_iald (q := 319) X hin1 dL_law_318 rfl ?_
  refine ll_aload_n (q := 320) X 0 dL_law_319 rfl rfl rfl ?_
  refine ll_iload_n (q := 321) X 3 dL_law_320 rfl rfl rfl ?_
  refine ll_iconst (q := 322) X (2 : Int32) dL_law_321 (by decide) rfl ?_
  refine ll_iadd (q := 323) X dL_law_322 rfl ?_
  refine ll_iald (q := 324) X hin2 dL_law_323 rfl ?_
  refine ll_cM (q := 327) X [.int (xs (nI (4 * k) + (1 : Int32)).toNatClampNeg), .int (xs (nI (4 * k) + (2 : Int32)).toNatClampNeg)] (kX10_fit l D X.2.2.2.2.2.2.2.2.1 h1) (cwV 2 X.1.2.2.2.2 gL_law_X10_fit rfl rfl rfl (by decide +kernel) ⟨Nat.le_of_ble_eq_true rfl, Nat.le_of_ble_eq_true rfl⟩) rfl rfl (Nat.le_of_ble_eq_true rfl) dL_law_324 rfl (fun r2 μ1 h2 => ?_)
  obtain ⟨h2, rfl⟩ := h2
  subst h2
  exact ll_icmp_eq (q := 330) X 767 dL_law_327 (by decide) rfl (fun _ => fin _ _ hR) (fun c9 => absurd rfl c9)
set_option maxHeartbeats 4000000 in
set_option maxRecDepth 20000 in
theorem lc_climb (X : ZZ p s m args meth c D cy aC aM b L xs zb) {k : Nat} (hin1 : vp_in (nI (4 * k) + (1 : Int32)) L) (hin2 : vp_in (nI (4 * k) + (2 : Int32)) L) (hin3 : vp_in (nI (4 * k) + (3 : Int32)) L) (hR : RR σ μ) (fin : ∀ σ1 μ1, RR σ1 μ1 → LL p l e s m args below meth c Q D cy aC aM zb σ1 μ1 767 (lvL b aC aM k) []) : LL p l e s m args below meth c Q D cy aC aM zb σ μ 332 (lvL b aC aM k) [] := by
  refine ll_aload_n (q := 333) X 1 dL_law_332 rfl rfl rfl ?_
  refine ll_aload_n (q := 334) X 0 dL_law_333 rfl rfl rfl ?_
  refine ll_iload_n (q := 335) X 3 dL_law_334 rfl rfl rfl ?_
  refine ll_iconst (q := 336) X (1 : Int32) dL_law_335 (by decide) rfl ?_
  refine ll_iadd (q := 337) X dL_law_336 rfl ?_
  refine ll_iald (q := 338) X hin1 dL_law_337 rfl ?_
  refine ll_aload_n (q := 339) X 0 dL_law_338 rfl rfl rfl ?_
  refine ll_iload_n (q := 340) X 3 dL_law_339 rfl rfl rfl ?_
  refine ll_iconst (q := 341) X (2 : Int32) dL_law_340 (by decide) rfl ?_
  refine ll_iadd (q := 342) X dL_law_341 rfl ?_
  refine ll_iald (q := 343) X hin2 dL_law_342 rfl ?_
  refine ll_aload_n (q := 344) X 0 dL_law_343 rfl rfl rfl ?_
  refine ll_iload_n (q := 345) X 3 dL_law_344 rfl rfl rfl ?_
  refine ll_iconst (q := 346) X (3 : Int32) dL_law_345 (by decide) rfl ?_
  refine ll_iadd (q := 347) X dL_law_346 rfl ?_
  refine ll_iald (q := 348) X hin3 dL_law_347 rfl ?_
  refine ll_cC (q := 351) X [.int (xs (nI (4 * k) + (1 : Int32)).toNatClampNeg), .int (xs (nI (4 * k) + (2 : Int32)).toNatClampNeg), .int (xs (nI (4 * k) + (3 : Int32)).toNatClampNeg)] (kX9_climb l D X.2.2.2.2.2.2.2.1 (st_climb hR (xs (nI (4 * k) + (1 : Int32)).toNatClampNeg) (xs (nI (4 * k) + (2 : Int32)).toNatClampNeg) (xs (nI (4 * k) + (3 : Int32)).toNatClampNeg))) (cwV 3 X.1.2.2.2.2 gL_law_X9_climb rfl rfl rfl (by decide +kernel) ⟨Nat.le_of_ble_eq_true rfl, Nat.le_of_ble_eq_true rfl⟩) rfl rfl (Nat.le_of_ble_eq_true rfl) dL_law_348 rfl (fun r σ1 h1 => ?_)
  refine ll_aload_n (q := 352) X 2 dL_law_351 rfl rfl rfl ?_
  refine ll_aload_n (q := 353) X 0 dL_law_352 rfl rfl rfl ?_
  refine ll_iload_n (q := 354) X 3 dL_law_353 rfl rfl rfl ?_
  refine ll_iconst (q := 355) X (1 : Int32) dL_law_354 (by decide) rfl ?_
  refine ll_iadd (q := 356) X dL_law_355 rfl ?_
  refine ll_iald (q := 357) X hin1 dL_law_356 rfl ?_
  refine ll_aload_n (q := 358) X 0 dL_law_357 rfl rfl rfl ?_
  refine ll_iload_n (q := 359) X 3 dL_law_358 rfl rfl rfl ?_
  refine ll_iconst (q := 360) X (2 : Int32) dL_law_359 (by decide) rfl ?_
  refine ll_iadd (q := 361) X dL_law_360 rfl ?_
  refine ll_iald (q := 362) X hin2 dL_law_361 rfl ?_
  refine ll_aload_n (q := 363) X 0 dL_law_362 rfl rfl rfl ?_
  refine ll_iload_n (q := 364) X 3 dL_law_363 rfl rfl rfl ?_
  refine ll_iconst (q := 365) X (3 : Int32) dL_law_364 (by decide) rfl ?_
  refine ll_iadd (q := 366) X dL_law_365 rfl ?_
  refine ll_iald (q := 367) X hin3 dL_law_366 rfl ?_
  refine ll_cM (q := 370) X [.int (xs (nI (4 * k) + (1 : Int32)).toNatClampNeg), .int (xs (nI (4 * k) + (2 : Int32)).toNatClampNeg), .int (xs (nI (4 * k) + (3 : Int32)).toNatClampNeg)] (kX10_climb l D X.2.2.2.2.2.2.2.2.1 h1) (cwV 3 X.1.2.2.2.2 gL_law_X10_climb rfl rfl rfl (by decide +kernel) ⟨Nat.le_of_ble_eq_true rfl, Nat.le_of_ble_eq_true rfl⟩) rfl rfl (Nat.le_of_ble_eq_true rfl) dL_law_367 rfl (fun r2 μ1 h2 => ?_)
  obtain ⟨h2, hR⟩ := h2
  subst h2
  exact ll_icmp_eq (q := 373) X 767 dL_law_370 (by decide) rfl (fun _ => fin _ _ hR) (fun c9 => absurd rfl c9)
set_option maxHeartbeats 4000000 in
set_option maxRecDepth 20000 in
theorem lc_ends (X : ZZ p s m args meth c D cy aC aM b L xs zb) {k : Nat} (hin1 : vp_in (nI (4 * k) + (1 : Int32)) L) (hin2 : vp_in (nI (4 * k) + (2 : Int32)) L) (hin3 : vp_in (nI (4 * k) + (3 : Int32)) L) (hR : RR σ μ) (fin : ∀ σ1 μ1, RR σ1 μ1 → LL p l e s m args below meth c Q D cy aC aM zb σ1 μ1 767 (lvL b aC aM k) []) : LL p l e s m args below meth c Q D cy aC aM zb σ μ 375 (lvL b aC aM k) [] := by
  refine ll_aload_n (q := 376) X 1 dL_law_375 rfl rfl rfl ?_
  refine ll_cC (q := 379) X [] (kX9_ends l D X.2.2.2.2.2.2.2.1 (st_ends hR)) (cwV 0 X.1.2.2.2.2 gL_law_X9_ends rfl rfl rfl (by decide +kernel) ⟨Nat.le_of_ble_eq_true rfl, Nat.le_of_ble_eq_true rfl⟩) rfl rfl (Nat.le_of_ble_eq_true rfl) dL_law_376 rfl (fun r σ1 h1 => ?_)
  refine ll_aload_n (q := 380) X 2 dL_law_379 rfl rfl rfl ?_
  refine ll_cM (q := 383) X [] (kX10_ends l D X.2.2.2.2.2.2.2.2.1 h1) (cwV 0 X.1.2.2.2.2 gL_law_X10_ends rfl rfl rfl (by decide +kernel) ⟨Nat.le_of_ble_eq_true rfl, Nat.le_of_ble_eq_true rfl⟩) rfl rfl (Nat.le_of_ble_eq_true rfl) dL_law_380 rfl (fun r2 μ1 h2 => ?_)
  obtain ⟨h2, hR⟩ := h2
  subst h2
  exact ll_icmp_eq (q := 386) X 767 dL_law_383 (by decide) rfl (fun _ => fin _ _ hR) (fun c9 => absurd rfl c9)
set_option maxHeartbeats 4000000 in
set_option maxRecDepth 20000 in
theorem lc_now (X : ZZ p s m args meth c D cy aC aM b L xs zb) {k : Nat} (hin1 : vp_in (nI (4 * k) + (1 : Int32)) L) (hin2 : vp_in (nI (4 * k) + (2 : Int32)) L) (hin3 : vp_in (nI (4 * k) + (3 : Int32)) L) (hR : RR σ μ) (fin : ∀ σ1 μ1, RR σ1 μ1 → LL p l e s m args below meth c Q D cy aC aM zb σ1 μ1 767 (lvL b aC aM k) []) : LL p l e s m args below meth c Q D cy aC aM zb σ μ 388 (lvL b aC aM k) [] := by
  refine ll_aload_n (q := 389) X 1 dL_law_388 rfl rfl rfl ?_
  refine ll_aload_n (q := 390) X 0 dL_law_389 rfl rfl rfl ?_
  refine ll_iload_n (q := 391) X 3 dL_law_390 rfl rfl rfl ?_
  refine ll_iconst (q := 392) X (1 : Int32) dL_law_391 (by decide) rfl ?_
  refine ll_iadd (q := 393) X dL_law_392 rfl ?_
  refine ll_iald (q := 394) X hin1 dL_law_393 rfl ?_
  refine ll_cC (q := 397) X [.int (xs (nI (4 * k) + (1 : Int32)).toNatClampNeg)] (kX9_now l D X.2.2.2.2.2.2.2.1 (st_now hR (xs (nI (4 * k) + (1 : Int32)).toNatClampNeg))) (cwV 1 X.1.2.2.2.2 gL_law_X9_now rfl rfl rfl (by decide +kernel) ⟨Nat.le_of_ble_eq_true rfl, Nat.le_of_ble_eq_true rfl⟩) rfl rfl (Nat.le_of_ble_eq_true rfl) dL_law_394 rfl (fun r σ1 h1 => ?_)
  obtain ⟨h1, rfl⟩ := h1
  refine ll_aload_n (q := 398) X 2 dL_law_397 rfl rfl rfl ?_
  refine ll_aload_n (q := 399) X 0 dL_law_398 rfl rfl rfl ?_
  refine ll_iload_n (q := 400) X 3 dL_law_399 rfl rfl rfl ?_
  refine ll_iconst (q := 401) X (1 : Int32) dL_law_400 (by decide) rfl ?_
  refine ll_iadd (q := 402) X dL_law_401 rfl ?_
  refine ll_iald (q := 403) X hin1 dL_law_402 rfl ?_
  refine ll_cM (q := 406) X [.int (xs (nI (4 * k) + (1 : Int32)).toNatClampNeg)] (kX10_now l D X.2.2.2.2.2.2.2.2.1 h1) (cwV 1 X.1.2.2.2.2 gL_law_X10_now rfl rfl rfl (by decide +kernel) ⟨Nat.le_of_ble_eq_true rfl, Nat.le_of_ble_eq_true rfl⟩) rfl rfl (Nat.le_of_ble_eq_true rfl) dL_law_403 rfl (fun r2 μ1 h2 => ?_)
  obtain ⟨h2, rfl⟩ := h2
  subst h2
  exact ll_icmp_eq (q := 409) X 767 dL_law_406 (by decide) rfl (fun _ => fin _ _ hR) (fun c9 => absurd rfl c9)
set_option maxHeartbeats 4000000 in
set_option maxRecDepth 20000 in
theorem lc_year (X : ZZ p s m args meth c D cy aC aM b L xs zb) {k : Nat} (hin1 : vp_in (nI (4 * k) + (1 : Int32)) L) (hin2 : vp_in (nI (4 * k) + (2 : Int32)) L) (hin3 : vp_in (nI (4 * k) + (3 : Int32)) L) (hR : RR σ μ) (fin : ∀ σ1 μ1, RR σ1 μ1 → LL p l e s m args below meth c Q D cy aC aM zb σ1 μ1 767 (lvL b aC aM k) []) : LL p l e s m args below meth c Q D cy aC aM zb σ μ 411 (lvL b aC aM k) [] := by
  refine ll_aload_n (q := 412) X 1 dL_law_411 rfl rfl rfl ?_
  refine ll_cC (q := 415) X [] (kX9_year l D X.2.2.2.2.2.2.2.1 (st_year hR)) (cwV 0 X.1.2.2.2.2 gL_law_X9_year rfl rfl rfl (by decide +kernel) ⟨Nat.le_of_ble_eq_true rfl, Nat.le_of_ble_eq_true rfl⟩) rfl rfl (Nat.le_of_ble_eq_true rfl) dL_law_412 rfl (fun r σ1 h1 => ?_)
  refine ll_aload_n (q := 416) X 2 dL_law_415 rfl rfl rfl ?_
  refine ll_cM (q := 419) X [] (kX10_year l D X.2.2.2.2.2.2.2.2.1 h1) (cwV 0 X.1.2.2.2.2 gL_law_X10_year rfl rfl rfl (by decide +kernel) ⟨Nat.le_of_ble_eq_true rfl, Nat.le_of_ble_eq_true rfl⟩) rfl rfl (Nat.le_of_ble_eq_true rfl) dL_law_416 rfl (fun r2 μ1 h2 => ?_)
  obtain ⟨h2, hR⟩ := h2
  subst h2
  exact ll_icmp_eq (q := 422) X 767 dL_law_419 (by decide) rfl (fun _ => fin _ _ hR) (fun c9 => absurd rfl c9)
set_option maxHeartbeats 4000000 in
set_option maxRecDepth 20000 in
theorem lc_lot (X : ZZ p s m args meth c D cy aC aM b L xs zb) {k : Nat} (hin1 : vp_in (nI (4 * k) + (1 : Int32)) L) (hin2 : vp_in (nI (4 * k) + (2 : Int32)) L) (hin3 : vp_in (nI (4 * k) + (3 : Int32)) L) (hR : RR σ μ) (fin : ∀ σ1 μ1, RR σ1 μ1 → LL p l e s m args below meth c Q D cy aC aM zb σ1 μ1 767 (lvL b aC aM k) []) : LL p l e s m args below meth c Q D cy aC aM zb σ μ 424 (lvL b aC aM k) [] := by
  refine ll_aload_n (q := 425) X 1 dL_law_424 rfl rfl rfl ?_
  refine ll_aload_n (q := 426) X 0 dL_law_425 rfl rfl rfl ?_
  refine ll_iload_n (q := 427) X 3 dL_law_426 rfl rfl rfl ?_
  refine ll_iconst (q := 428) X (1 : Int32) dL_law_427 (by decide) rfl ?_
  refine ll_iadd (q := 429) X dL_law_428 rfl ?_
  refine ll_iald (q := 430) X hin1 dL_law_429 rfl ?_
  refine ll_cC (q := 433) X [.int (xs (nI (4 * k) + (1 : Int32)).toNatClampNeg)] (kX9_lot l D X.2.2.2.2.2.2.2.1 (st_lot hR (xs (nI (4 * k) + (1 : Int32)).toNatClampNeg))) (cwV 1 X.1.2.2.2.2 gL_law_X9_lot rfl rfl rfl (by decide +kernel) ⟨Nat.le_of_ble_eq_true rfl, Nat.le_of_ble_eq_true rfl⟩) rfl rfl (Nat.le_of_ble_eq_true rfl) dL_law_430 rfl (fun r σ1 h1 => ?_)
  refine ll_aload_n (q := 434) X 2 dL_law_433 rfl rfl rfl ?_
  refine ll_aload_n (q := 435) X 0 dL_law_434 rfl rfl rfl ?_
  refine ll_iload_n (q := 436) X 3 dL_law_435 rfl rfl rfl ?_
  refine ll_iconst (q := 437) X (1 : Int32) dL_law_436 (by decide) rfl ?_
  refine ll_iadd (q := 438) X dL_law_437 rfl ?_
  refine ll_iald (q := 439) X hin1 dL_law_438 rfl ?_
  refine ll_cM (q := 442) X [.int (xs (nI (4 * k) + (1 : Int32)).toNatClampNeg)] (kX10_lot l D X.2.2.2.2.2.2.2.2.1 h1) (cwV 1 X.1.2.2.2.2 gL_law_X10_lot rfl rfl rfl (by decide +kernel) ⟨Nat.le_of_ble_eq_true rfl, Nat.le_of_ble_eq_true rfl⟩) rfl rfl (Nat.le_of_ble_eq_true rfl) dL_law_439 rfl (fun r2 μ1 h2 => ?_)
  obtain ⟨h2, hR⟩ := h2
  subst h2
  exact ll_icmp_eq (q := 445) X 767 dL_law_442 (by decide) rfl (fun _ => fin _ _ hR) (fun c9 => absurd rfl c9)
set_option maxHeartbeats 4000000 in
set_option maxRecDepth 20000 in
theorem lc_best (X : ZZ p s m args meth c D cy aC aM b L xs zb) {k : Nat} (hin1 : vp_in (nI (4 * k) + (1 : Int32)) L) (hin2 : vp_in (nI (4 * k) + (2 : Int32)) L) (hin3 : vp_in (nI (4 * k) + (3 : Int32)) L) (hR : RR σ μ) (fin : ∀ σ1 μ1, RR σ1 μ1 → LL p l e s m args below meth c Q D cy aC aM zb σ1 μ1 767 (lvL b aC aM k) []) : LL p l e s m args below meth c Q D cy aC aM zb σ μ 447 (lvL b aC aM k) [] := by
  refine ll_aload_n (q := 448) X 1 dL_law_447 rfl rfl rfl ?_
  refine ll_aload_n (q := 449) X 0 dL_law_448 rfl rfl rfl ?_
  refine ll_iload_n (q := 450) X 3 dL_law_449 rfl rfl rfl ?_
  refine ll_iconst (q := 451) X (1 : Int32) dL_law_450 (by decide) rfl ?_
  refine ll_iadd (q := 452) X dL_law_451 rfl ?_
  refine ll_iald (q := 453) X hin1 dL_law_452 rfl ?_
  refine ll_cC (q := 456) X [.int (xs (nI (4 * k) + (1 : Int32)).toNatClampNeg)] (kX9_best l D X.2.2.2.2.2.2.2.1 (st_best hR (xs (nI (4 * k) + (1 : Int32)).toNatClampNeg))) (cwV 1 X.1.2.2.2.2 gL_law_X9_best rfl rfl rfl (by decide +kernel) ⟨Nat.le_of_ble_eq_true rfl, Nat.le_of_ble_eq_true rfl⟩) rfl rfl (Nat.le_of_ble_eq_true rfl) dL_law_453 rfl (fun r σ1 h1 => ?_)
  refine ll_aload_n (q := 457) X 2 dL_law_456 rfl rfl rfl ?_
  refine ll_aload_n (q := 458) X 0 dL_law_457 rfl rfl rfl ?_
  refine ll_iload_n (q := 459) X 3 dL_law_458 rfl rfl rfl ?_
  refine ll_iconst (q := 460) X (1 : Int32) dL_law_459 (by decide) rfl ?_
  refine ll_iadd (q := 461) X dL_law_460 rfl ?_
  refine ll_iald (q := 462) X hin1 dL_law_461 rfl ?_
  refine ll_cM (q := 465) X [.int (xs (nI (4 * k) + (1 : Int32)).toNatClampNeg)] (kX10_best l D X.2.2.2.2.2.2.2.2.1 h1) (cwV 1 X.1.2.2.2.2 gL_law_X10_best rfl rfl rfl (by decide +kernel) ⟨Nat.le_of_ble_eq_true rfl, Nat.le_of_ble_eq_true rfl⟩) rfl rfl (Nat.le_of_ble_eq_true rfl) dL_law_462 rfl (fun r2 μ1 h2 => ?_)
  obtain ⟨h2, hR⟩ := h2
  subst h2
  exact ll_icmp_eq (q := 468) X 767 dL_law_465 (by decide) rfl (fun _ => fin _ _ hR) (fun c9 => absurd rfl c9)
set_option maxHeartbeats 4000000 in
set_option maxRecDepth 20000 in
theorem lc_season (X : ZZ p s m args meth c D cy aC aM b L xs zb) {k : Nat} (hin1 : vp_in (nI (4 * k) + (1 : Int32)) L) (hin2 : vp_in (nI (4 * k) + (2 : Int32)) L) (hin3 : vp_in (nI (4 * k) + (3 : Int32)) L) (hR : RR σ μ) (fin : ∀ σ1 μ1, RR σ1 μ1 → LL p l e s m args below meth c Q D cy aC aM zb σ1 μ1 767 (lvL b aC aM k) []) : LL p l e s m args below meth c Q D cy aC aM zb σ μ 470 (lvL b aC aM k) [] := by
  refine ll_aload_n (q := 471) X 1 dL_law_470 rfl rfl rfl ?_
  refine ll_aload_n (q := 472) X 0 dL_law_471 rfl rfl rfl ?_
  refine ll_iload_n (q := 473) X 3 dL_law_472 rfl rfl rfl ?_
  refine ll_iconst (q := 474) X (1 : Int32) dL_law_473 (by decide) rfl ?_
  refine ll_iadd (q := 475) X dL_law_474 rfl ?_
  refine ll_iald (q := 476) X hin1 dL_law_475 rfl ?_
  refine ll_cC (q := 479) X [.int (xs (nI (4 * k) + (1 : Int32)).toNatClampNeg)] (kX9_season l D X.2.2.2.2.2.2.2.1 (st_season hR (xs (nI (4 * k) + (1 : Int32)).toNatClampNeg))) (cwV 1 X.1.2.2.2.2 gL_law_X9_season rfl rfl rfl (by decide +kernel) ⟨Nat.le_of_ble_eq_true rfl, Nat.le_of_ble_eq_true rfl⟩) rfl rfl (Nat.le_of_ble_eq_true rfl) dL_law_476 rfl (fun r σ1 h1 => ?_)
  refine ll_aload_n (q := 480) X 2 dL_law_479 rfl rfl rfl ?_
  refine ll_aload_n (q := 481) X 0 dL_law_480 rfl rfl rfl ?_
  refine ll_iload_n (q := 482) X 3 dL_law_481 rfl rfl rfl ?_
  refine ll_iconst (q := 483) X (1 : Int32) dL_law_482 (by decide) rfl ?_
  refine ll_iadd (q := 484) X dL_law_483 rfl ?_
  refine ll_iald (q := 485) X hin1 dL_law_484 rfl ?_
  refine ll_cM (q := 488) X [.int (xs (nI (4 * k) + (1 : Int32)).toNatClampNeg)] (kX10_season l D X.2.2.2.2.2.2.2.2.1 h1) (cwV 1 X.1.2.2.2.2 gL_law_X10_season rfl rfl rfl (by decide +kernel) ⟨Nat.le_of_ble_eq_true rfl, Nat.le_of_ble_eq_true rfl⟩) rfl rfl (Nat.le_of_ble_eq_true rfl) dL_law_485 rfl (fun r2 μ1 h2 => ?_)
  obtain ⟨h2, hR⟩ := h2
  subst h2
  exact ll_icmp_eq (q := 491) X 767 dL_law_488 (by decide) rfl (fun _ => fin _ _ hR) (fun c9 => absurd rfl c9)
set_option maxHeartbeats 4000000 in
set_option maxRecDepth 20000 in
theorem lc_whole (X : ZZ p s m args meth c D cy aC aM b L xs zb) {k : Nat} (hin1 : vp_in (nI (4 * k) + (1 : Int32)) L) (hin2 : vp_in (nI (4 * k) + (2 : Int32)) L) (hin3 : vp_in (nI (4 * k) + (3 : Int32)) L) (hR : RR σ μ) (fin : ∀ σ1 μ1, RR σ1 μ1 → LL p l e s m args below meth c Q D cy aC aM zb σ1 μ1 767 (lvL b aC aM k) []) : LL p l e s m args below meth c Q D cy aC aM zb σ μ 493 (lvL b aC aM k) [] := by
  refine ll_aload_n (q := 494) X 1 dL_law_493 rfl rfl rfl ?_
  refine ll_aload_n (q := 495) X 0 dL_law_494 rfl rfl rfl ?_
  refine ll_iload_n (q := 496) X 3 dL_law_495 rfl rfl rfl ?_
  refine ll_iconst (q := 497) X (1 : Int32) dL_law_496 (by decide) rfl ?_
  refine ll_iadd (q := 498) X dL_law_497 rfl ?_
  refine ll_iald (q := 499) X hin1 dL_law_498 rfl ?_
  refine ll_cC (q := 502) X [.int (xs (nI (4 * k) + (1 : Int32)).toNatClampNeg)] (kX9_whole l D X.2.2.2.2.2.2.2.1 (st_whole hR (xs (nI (4 * k) + (1 : Int32)).toNatClampNeg))) (cwV 1 X.1.2.2.2.2 gL_law_X9_whole rfl rfl rfl (by decide +kernel) ⟨Nat.le_of_ble_eq_true rfl, Nat.le_of_ble_eq_true rfl⟩) rfl rfl (Nat.le_of_ble_eq_true rfl) dL_law_499 rfl (fun r σ1 h1 => ?_)
  obtain ⟨h1, rfl⟩ := h1
  refine ll_aload_n (q := 503) X 2 dL_law_502 rfl rfl rfl ?_
  refine ll_aload_n (q := 504) X 0 dL_law_503 rfl rfl rfl ?_
  refine ll_iload_n (q := 505) X 3 dL_law_504 rfl rfl rfl ?_
  refine ll_iconst (q := 506) X (1 : Int32) dL_law_505 (by decide) rfl ?_
  refine ll_iadd (q := 507) X dL_law_506 rfl ?_
  refine ll_iald (q := 508) X hin1 dL_law_507 rfl ?_
  refine ll_cM (q := 511) X [.int (xs (nI (4 * k) + (1 : Int32)).toNatClampNeg)] (kX10_whole l D X.2.2.2.2.2.2.2.2.1 h1) (cwV 1 X.1.2.2.2.2 gL_law_X10_whole rfl rfl rfl (by decide +kernel) ⟨Nat.le_of_ble_eq_true rfl, Nat.le_of_ble_eq_true rfl⟩) rfl rfl (Nat.le_of_ble_eq_true rfl) dL_law_508 rfl (fun r2 μ1 h2 => ?_)
  obtain ⟨h2, hR⟩ := h2
  subst h2
  exact ll_icmp_eq (q := 514) X 767 dL_law_511 (by decide) rfl (fun _ => fin _ _ hR) (fun c9 => absurd rfl c9)
set_option maxHeartbeats 4000000 in
set_option maxRecDepth 20000 in
theorem lc_worth (X : ZZ p s m args meth c D cy aC aM b L xs zb) {k : Nat} (hin1 : vp_in (nI (4 * k) + (1 : Int32)) L) (hin2 : vp_in (nI (4 * k) + (2 : Int32)) L) (hin3 : vp_in (nI (4 * k) + (3 : Int32)) L) (hR : RR σ μ) (fin : ∀ σ1 μ1, RR σ1 μ1 → LL p l e s m args below meth c Q D cy aC aM zb σ1 μ1 767 (lvL b aC aM k) []) : LL p l e s m args below meth c Q D cy aC aM zb σ μ 516 (lvL b aC aM k) [] := by
  refine ll_aload_n (q := 517) X 1 dL_law_516 rfl rfl rfl ?_
  refine ll_aload_n (q := 518) X 0 dL_law_517 rfl rfl rfl ?_
  refine ll_iload_n (q := 519) X 3 dL_law_518 rfl rfl rfl ?_
  refine ll_iconst (q := 520) X (1 : Int32) dL_law_519 (by decide) rfl ?_
  refine ll_iadd (q := 521) X dL_law_520 rfl ?_
  refine ll_iald (q := 522) X hin1 dL_law_521 rfl ?_
  refine ll_aload_n (q := 523) X 0 dL_law_522 rfl rfl rfl ?_
  refine ll_iload_n (q := 524) X 3 dL_law_523 rfl rfl rfl ?_
  refine ll_iconst (q := 525) X (2 : Int32) dL_law_524 (by decide) rfl ?_
  refine ll_iadd (q := 526) X dL_law_525 rfl ?_
  refine ll_iald (q := 527) X hin2 dL_law_526 rfl ?_
  refine ll_cC (q := 530) X [.int (xs (nI (4 * k) + (1 : Int32)).toNatClampNeg), .int (xs (nI (4 * k) + (2 : Int32)).toNatClampNeg)] (kX9_worth l D X.2.2.2.2.2.2.2.1 (st_worth hR (xs (nI (4 * k) + (1 : Int32)).toNatClampNeg) (xs (nI (4 * k) + (2 : Int32)).toNatClampNeg))) (cwV 2 X.1.2.2.2.2 gL_law_X9_worth rfl rfl rfl (by decide +kernel) ⟨Nat.le_of_ble_eq_true rfl, Nat.le_of_ble_eq_true rfl⟩) rfl rfl (Nat.le_of_ble_eq_true rfl) dL_law_527 rfl (fun r σ1 h1 => ?_)
  obtain ⟨h1, rfl⟩ := h1
  refine ll_aload_n (q := 531) X 2 dL_law_530 rfl rfl rfl ?_
  refine ll_aload_n (q := 532) X 0 dL_law_531 rfl rfl rfl ?_
  refine ll_iload_n (q := 533) X 3 dL_law_532 rfl rfl rfl ?_
  refine ll_iconst (q := 534) X (1 : Int32) dL_law_533 (by decide) rfl ?_
  refine ll_iadd (q := 535) X dL_law_534 rfl ?_
  refine ll_iald (q := 536) X hin1 dL_law_535 rfl ?_
  refine ll_aload_n (q := 537) X 0 dL_law_536 rfl rfl rfl ?_
  refine ll_iload_n (q := 538) X 3 dL_law_537 rfl rfl rfl ?_
  refine ll_iconst (q := 539) X (2 : Int32) dL_law_538 (by decide) rfl ?_
  refine ll_iadd (q := 540) X dL_law_539 rfl ?_
  refine ll_iald (q := 541) X hin2 dL_law_540 rfl ?_
  refine ll_cM (q := 544) X [.int (xs (nI (4 * k) + (1 : Int32)).toNatClampNeg), .int (xs (nI (4 * k) + (2 : Int32)).toNatClampNeg)] (kX10_worth l D X.2.2.2.2.2.2.2.2.1 h1) (cwV 2 X.1.2.2.2.2 gL_law_X10_worth rfl rfl rfl (by decide +kernel) ⟨Nat.le_of_ble_eq_true rfl, Nat.le_of_ble_eq_true rfl⟩) rfl rfl (Nat.le_of_ble_eq_true rfl) dL_law_541 rfl (fun r2 μ1 h2 => ?_)
  obtain ⟨h2, hR⟩ := h2
  subst h2
  exact ll_icmp_eq (q := 547) X 767 dL_law_544 (by decide) rfl (fun _ => fin _ _ hR) (fun c9 => absurd rfl c9)
set_option maxHeartbeats 4000000 in
set_option maxRecDepth 20000 in
theorem lc_asked (X : ZZ p s m args meth c D cy aC aM b L xs zb) {k : Nat} (hin1 : vp_in (nI (4 * k) + (1 : Int32)) L) (hin2 : vp_in (nI (4 * k) + (2 : Int32)) L) (hin3 : vp_in (nI (4 * k) + (3 : Int32)) L) (hR : RR σ μ) (fin : ∀ σ1 μ1, RR σ1 μ1 → LL p l e s m args below meth c Q D cy aC aM zb σ1 μ1 767 (lvL b aC aM k) []) : LL p l e s m args below meth c Q D cy aC aM zb σ μ 549 (lvL b aC aM k) [] := by
  refine ll_aload_n (q := 550) X 1 dL_law_549 rfl rfl rfl ?_
  refine ll_aload_n (q := 551) X 0 dL_law_550 rfl rfl rfl ?_
  refine ll_iload_n (q := 552) X 3 dL_law_551 rfl rfl rfl ?_
  refine ll_iconst (q := 553) X (1 : Int32) dL_law_552 (by decide) rfl ?_
  refine ll_iadd (q := 554) X dL_law_553 rfl ?_
  refine ll_iald (q := 555) X hin1 dL_law_554 rfl ?_
  refine ll_cC (q := 558) X [.int (xs (nI (4 * k) + (1 : Int32)).toNatClampNeg)] (kX9_asked l D X.2.2.2.2.2.2.2.1 (st_asked hR (xs (nI (4 * k) + (1 : Int32)).toNatClampNeg))) (cwV 1 X.1.2.2.2.2 gL_law_X9_asked rfl rfl rfl (by decide +kernel) ⟨Nat.le_of_ble_eq_true rfl, Nat.le_of_ble_eq_true rfl⟩) rfl rfl (Nat.le_of_ble_eq_true rfl) dL_law_555 rfl (fun r σ1 h1 => ?_)
  obtain ⟨h1, rfl⟩ := h1
  refine ll_aload_n (q := 559) X 2 dL_law_558 rfl rfl rfl ?_
  refine ll_aload_n (q := 560) X 0 dL_law_559 rfl rfl rfl ?_
  refine ll_iload_n (q := 561) X 3 dL_law_560 rfl rfl rfl ?_
  refine ll_iconst (q := 562) X (1 : Int32) dL_law_561 (by decide) rfl ?_
  refine ll_iadd (q := 563) X dL_law_562 rfl ?_
  refine ll_iald (q := 564) X hin1 dL_law_563 rfl ?_
  refine ll_cM (q := 567) X [.int (xs (nI (4 * k) + (1 : Int32)).toNatClampNeg)] (kX10_asked l D X.2.2.2.2.2.2.2.2.1 h1) (cwV 1 X.1.2.2.2.2 gL_law_X10_asked rfl rfl rfl (by decide +kernel) ⟨Nat.le_of_ble_eq_true rfl, Nat.le_of_ble_eq_true rfl⟩) rfl rfl (Nat.le_of_ble_eq_true rfl) dL_law_564 rfl (fun r2 μ1 h2 => ?_)
  obtain ⟨h2, hR⟩ := h2
  subst h2
  exact ll_icmp_eq (q := 570) X 767 dL_law_567 (by decide) rfl (fun _ => fin _ _ hR) (fun c9 => absurd rfl c9)
set_option maxHeartbeats 4000000 in
set_option maxRecDepth 20000 in
theorem lc_rests (X : ZZ p s m args meth c D cy aC aM b L xs zb) {k : Nat} (hin1 : vp_in (nI (4 * k) + (1 : Int32)) L) (hin2 : vp_in (nI (4 * k) + (2 : Int32)) L) (hin3 : vp_in (nI (4 * k) + (3 : Int32)) L) (hR : RR σ μ) (fin : ∀ σ1 μ1, RR σ1 μ1 → LL p l e s m args below meth c Q D cy aC aM zb σ1 μ1 767 (lvL b aC aM k) []) : LL p l e s m args below meth c Q D cy aC aM zb σ μ 572 (lvL b aC aM k) [] := by
  refine ll_aload_n (q := 573) X 1 dL_law_572 rfl rfl rfl ?_
  refine ll_cC (q := 576) X [] (kX9_rests l D X.2.2.2.2.2.2.2.1 (st_rests hR)) (cwV 0 X.1.2.2.2.2 gL_law_X9_rests rfl rfl rfl (by decide +kernel) ⟨Nat.le_of_ble_eq_true rfl, Nat.le_of_ble_eq_true rfl⟩) rfl rfl (Nat.le_of_ble_eq_true rfl) dL_law_573 rfl (fun r σ1 h1 => ?_)
  obtain ⟨h1, rfl⟩ := h1
  refine ll_aload_n (q := 577) X 2 dL_law_576 rfl rfl rfl ?_
  refine ll_cM (q := 580) X [] (kX10_rests l D X.2.2.2.2.2.2.2.2.1 h1) (cwV 0 X.1.2.2.2.2 gL_law_X10_rests rfl rfl rfl (by decide +kernel) ⟨Nat.le_of_ble_eq_true rfl, Nat.le_of_ble_eq_true rfl⟩) rfl rfl (Nat.le_of_ble_eq_true rfl) dL_law_577 rfl (fun r2 μ1 h2 => ?_)
  obtain ⟨h2, hR⟩ := h2
  subst h2
  exact ll_icmp_eq (q := 583) X 767 dL_law_580 (by decide) rfl (fun _ => fin _ _ hR) (fun c9 => absurd rfl c9)
set_option maxHeartbeats 4000000 in
set_option maxRecDepth 20000 in
theorem lc_cuts (X : ZZ p s m args meth c D cy aC aM b L xs zb) {k : Nat} (hin1 : vp_in (nI (4 * k) + (1 : Int32)) L) (hin2 : vp_in (nI (4 * k) + (2 : Int32)) L) (hin3 : vp_in (nI (4 * k) + (3 : Int32)) L) (hR : RR σ μ) (fin : ∀ σ1 μ1, RR σ1 μ1 → LL p l e s m args below meth c Q D cy aC aM zb σ1 μ1 767 (lvL b aC aM k) []) : LL p l e s m args below meth c Q D cy aC aM zb σ μ 585 (lvL b aC aM k) [] := by
  refine ll_aload_n (q := 586) X 1 dL_law_585 rfl rfl rfl ?_
  refine ll_aload_n (q := 587) X 0 dL_law_586 rfl rfl rfl ?_
  refine ll_iload_n (q := 588) X 3 dL_law_587 rfl rfl rfl ?_
  refine ll_iconst (q := 589) X (1 : Int32) dL_law_588 (by decide) rfl ?_
  refine ll_iadd (q := 590) X dL_law_589 rfl ?_
  refine ll_iald (q := 591) X hin1 dL_law_590 rfl ?_
  refine ll_cC (q := 594) X [.int (xs (nI (4 * k) + (1 : Int32)).toNatClampNeg)] (kX9_cuts l D X.2.2.2.2.2.2.2.1 (st_cuts hR (xs (nI (4 * k) + (1 : Int32)).toNatClampNeg))) (cwV 1 X.1.2.2.2.2 gL_law_X9_cuts rfl rfl rfl (by decide +kernel) ⟨Nat.le_of_ble_eq_true rfl, Nat.le_of_ble_eq_true rfl⟩) rfl rfl (Nat.le_of_ble_eq_true rfl) dL_law_591 rfl (fun r σ1 h1 => ?_)
  obtain ⟨h1, rfl⟩ := h1
  refine ll_aload_n (q := 595) X 2 dL_law_594 rfl rfl rfl ?_
  refine ll_aload_n (q := 596) X 0 dL_law_595 rfl rfl rfl ?_
  refine ll_iload_n (q := 597) X 3 dL_law_596 rfl rfl rfl ?_
  refine ll_iconst (q := 598) X (1 : Int32) dL_law_597 (by decide) rfl ?_
  refine ll_iadd (q := 599) X dL_law_598 rfl ?_
  refine ll_iald (q := 600) X hin1 dL_law_599 rfl ?_
  refine ll_cM (q := 603) X [.int (xs (nI (4 * k) + (1 : Int32)).toNatClampNeg)] (kX10_cuts l D X.2.2.2.2.2.2.2.2.1 h1) (cwV 1 X.1.2.2.2.2 gL_law_X10_cuts rfl rfl rfl (by decide +kernel) ⟨Nat.le_of_ble_eq_true rfl, Nat.le_of_ble_eq_true rfl⟩) rfl rfl (Nat.le_of_ble_eq_true rfl) dL_law_600 rfl (fun r2 μ1 h2 => ?_)
  obtain ⟨h2, hR⟩ := h2
  subst h2
  exact ll_icmp_eq (q := 606) X 767 dL_law_603 (by decide) rfl (fun _ => fin _ _ hR) (fun c9 => absurd rfl c9)
set_option maxHeartbeats 4000000 in
set_option maxRecDepth 20000 in
theorem lc_whose (X : ZZ p s m args meth c D cy aC aM b L xs zb) {k : Nat} (hin1 : vp_in (nI (4 * k) + (1 : Int32)) L) (hin2 : vp_in (nI (4 * k) + (2 : Int32)) L) (hin3 : vp_in (nI (4 * k) + (3 : Int32)) L) (hR : RR σ μ) (fin : ∀ σ1 μ1, RR σ1 μ1 → LL p l e s m args below meth c Q D cy aC aM zb σ1 μ1 767 (lvL b aC aM k) []) : LL p l e s m args below meth c Q D cy aC aM zb σ μ 608 (lvL b aC aM k) [] := by
  refine ll_aload_n (q := 609) X 1 dL_law_608 rfl rfl rfl ?_
  refine ll_aload_n (q := 610) X 0 dL_law_609 rfl rfl rfl ?_
  refine ll_iload_n (q := 611) X 3 dL_law_610 rfl rfl rfl ?_
  refine ll_iconst (q := 612) X (1 : Int32) dL_law_611 (by decide) rfl ?_
  refine ll_iadd (q := 613) X dL_law_612 rfl ?_
  refine ll_iald (q := 614) X hin1 dL_law_613 rfl ?_
  refine ll_aload_n (q := 615) X 0 dL_law_614 rfl rfl rfl ?_
  refine ll_iload_n (q := 616) X 3 dL_law_615 rfl rfl rfl ?_
  refine ll_iconst (q := 617) X (2 : Int32) dL_law_616 (by decide) rfl ?_
  refine ll_iadd (q := 618) X dL_law_617 rfl ?_
  refine ll_iald (q := 619) X hin2 dL_law_618 rfl ?_
  refine ll_aload_n (q := 620) X 0 dL_law_619 rfl rfl rfl ?_
  refine ll_iload_n (q := 621) X 3 dL_law_620 rfl rfl rfl ?_
  refine ll_iconst (q := 622) X (3 : Int32) dL_law_621 (by decide) rfl ?_
  refine ll_iadd (q := 623) X dL_law_622 rfl ?_
  refine ll_iald (q := 624) X hin3 dL_law_623 rfl ?_
  refine ll_cC (q := 627) X [.int (xs (nI (4 * k) + (1 : Int32)).toNatClampNeg), .int (xs (nI (4 * k) + (2 : Int32)).toNatClampNeg), .int (xs (nI (4 * k) + (3 : Int32)).toNatClampNeg)] (kX9_whose l D X.2.2.2.2.2.2.2.1 (st_whose hR (xs (nI (4 * k) + (1 : Int32)).toNatClampNeg) (xs (nI (4 * k) + (2 : Int32)).toNatClampNeg) (xs (nI (4 * k) + (3 : Int32)).toNatClampNeg))) (cwV 3 X.1.2.2.2.2 gL_law_X9_whose rfl rfl rfl (by decide +kernel) ⟨Nat.le_of_ble_eq_true rfl, Nat.le_of_ble_eq_true rfl⟩) rfl rfl (Nat.le_of_ble_eq_true rfl) dL_law_624 rfl (fun r σ1 h1 => ?_)
  obtain ⟨h1, rfl⟩ := h1
  refine ll_aload_n (q := 628) X 2 dL_law_627 rfl rfl rfl ?_
  refine ll_aload_n (q := 629) X 0 dL_law_628 rfl rfl rfl ?_
  refine ll_iload_n (q := 630) X 3 dL_law_629 rfl rfl rfl ?_
  refine ll_iconst (q := 631) X (1 : Int32) dL_law_630 (by decide) rfl ?_
  refine ll_iadd (q := 632) X dL_law_631 rfl ?_
  refine ll_iald (q := 633) X hin1 dL_law_632 rfl ?_
  refine ll_aload_n (q := 634) X 0 dL_law_633 rfl rfl rfl ?_
  refine ll_iload_n (q := 635) X 3 dL_law_634 rfl rfl rfl ?_
  refine ll_iconst (q := 636) X (2 : Int32) dL_law_635 (by decide) rfl ?_
  refine ll_iadd (q := 637) X dL_law_636 rfl ?_
  refine ll_iald (q := 638) X hin2 dL_law_637 rfl ?_
  refine ll_aload_n (q := 639) X 0 dL_law_638 rfl rfl rfl ?_
  refine ll_iload_n (q := 640) X 3 dL_law_639 rfl rfl rfl ?_
  refine ll_iconst (q := 641) X (3 : Int32) dL_law_640 (by decide) rfl ?_
  refine ll_iadd (q := 642) X dL_law_641 rfl ?_
  refine ll_iald (q := 643) X hin3 dL_law_642 rfl ?_
  refine ll_cM (q := 646) X [.int (xs (nI (4 * k) + (1 : Int32)).toNatClampNeg), .int (xs (nI (4 * k) + (2 : Int32)).toNatClampNeg), .int (xs (nI (4 * k) + (3 : Int32)).toNatClampNeg)] (kX10_whose l D X.2.2.2.2.2.2.2.2.1 h1) (cwV 3 X.1.2.2.2.2 gL_law_X10_whose rfl rfl rfl (by decide +kernel) ⟨Nat.le_of_ble_eq_true rfl, Nat.le_of_ble_eq_true rfl⟩) rfl rfl (Nat.le_of_ble_eq_true rfl) dL_law_643 rfl (fun r2 μ1 h2 => ?_)
  obtain ⟨h2, rfl⟩ := h2
  subst h2
  exact ll_icmp_eq (q := 649) X 767 dL_law_646 (by decide) rfl (fun _ => fin _ _ hR) (fun c9 => absurd rfl c9)
set_option maxHeartbeats 4000000 in
set_option maxRecDepth 20000 in
theorem lc_mark (X : ZZ p s m args meth c D cy aC aM b L xs zb) {k : Nat} (hin1 : vp_in (nI (4 * k) + (1 : Int32)) L) (hin2 : vp_in (nI (4 * k) + (2 : Int32)) L) (hin3 : vp_in (nI (4 * k) + (3 : Int32)) L) (hR : RR σ μ) (fin : ∀ σ1 μ1, RR σ1 μ1 → LL p l e s m args below meth c Q D cy aC aM zb σ1 μ1 767 (lvL b aC aM k) []) : LL p l e s m args below meth c Q D cy aC aM zb σ μ 651 (lvL b aC aM k) [] := by
  refine ll_aload_n (q := 652) X 1 dL_law_651 rfl rfl rfl ?_
  refine ll_aload_n (q := 653) X 0 dL_law_652 rfl rfl rfl ?_
  refine ll_iload_n (q := 654) X 3 dL_law_653 rfl rfl rfl ?_
  refine ll_iconst (q := 655) X (1 : Int32) dL_law_654 (by decide) rfl ?_
  refine ll_iadd (q := 656) X dL_law_655 rfl ?_
  refine ll_iald (q := 657) X hin1 dL_law_656 rfl ?_
  refine ll_aload_n (q := 658) X 0 dL_law_657 rfl rfl rfl ?_
  refine ll_iload_n (q := 659) X 3 dL_law_658 rfl rfl rfl ?_
  refine ll_iconst (q := 660) X (2 : Int32) dL_law_659 (by decide) rfl ?_
  refine ll_iadd (q := 661) X dL_law_660 rfl ?_
  refine ll_iald (q := 662) X hin2 dL_law_661 rfl ?_
  refine ll_cC (q := 665) X [.int (xs (nI (4 * k) + (1 : Int32)).toNatClampNeg), .int (xs (nI (4 * k) + (2 : Int32)).toNatClampNeg)] (kX9_mark l D X.2.2.2.2.2.2.2.1 (st_mark hR (xs (nI (4 * k) + (1 : Int32)).toNatClampNeg) (xs (nI (4 * k) + (2 : Int32)).toNatClampNeg))) (cwV 2 X.1.2.2.2.2 gL_law_X9_mark rfl rfl rfl (by decide +kernel) ⟨Nat.le_of_ble_eq_true rfl, Nat.le_of_ble_eq_true rfl⟩) rfl rfl (Nat.le_of_ble_eq_true rfl) dL_law_662 rfl (fun r σ1 h1 => ?_)
  refine ll_aload_n (q := 666) X 2 dL_law_665 rfl rfl rfl ?_
  refine ll_aload_n (q := 667) X 0 dL_law_666 rfl rfl rfl ?_
  refine ll_iload_n (q := 668) X 3 dL_law_667 rfl rfl rfl ?_
  refine ll_iconst (q := 669) X (1 : Int32) dL_law_668 (by decide) rfl ?_
  refine ll_iadd (q := 670) X dL_law_669 rfl ?_
  refine ll_iald (q := 671) X hin1 dL_law_670 rfl ?_
  refine ll_aload_n (q := 672) X 0 dL_law_671 rfl rfl rfl ?_
  refine ll_iload_n (q := 673) X 3 dL_law_672 rfl rfl rfl ?_
  refine ll_iconst (q := 674) X (2 : Int32) dL_law_673 (by decide) rfl ?_
  refine ll_iadd (q := 675) X dL_law_674 rfl ?_
  refine ll_iald (q := 676) X hin2 dL_law_675 rfl ?_
  refine ll_cM (q := 679) X [.int (xs (nI (4 * k) + (1 : Int32)).toNatClampNeg), .int (xs (nI (4 * k) + (2 : Int32)).toNatClampNeg)] (kX10_mark l D X.2.2.2.2.2.2.2.2.1 h1) (cwV 2 X.1.2.2.2.2 gL_law_X10_mark rfl rfl rfl (by decide +kernel) ⟨Nat.le_of_ble_eq_true rfl, Nat.le_of_ble_eq_true rfl⟩) rfl rfl (Nat.le_of_ble_eq_true rfl) dL_law_676 rfl (fun r2 μ1 h2 => ?_)
  obtain ⟨h2, hR⟩ := h2
  subst h2
  exact ll_icmp_eq (q := 682) X 767 dL_law_679 (by decide) rfl (fun _ => fin _ _ hR) (fun c9 => absurd rfl c9)
set_option maxHeartbeats 4000000 in
set_option maxRecDepth 20000 in
theorem lc_keep (X : ZZ p s m args meth c D cy aC aM b L xs zb) {k : Nat} (hin1 : vp_in (nI (4 * k) + (1 : Int32)) L) (hin2 : vp_in (nI (4 * k) + (2 : Int32)) L) (hin3 : vp_in (nI (4 * k) + (3 : Int32)) L) (hR : RR σ μ) (fin : ∀ σ1 μ1, RR σ1 μ1 → LL p l e s m args below meth c Q D cy aC aM zb σ1 μ1 767 (lvL b aC aM k) []) : LL p l e s m args below meth c Q D cy aC aM zb σ μ 684 (lvL b aC aM k) [] := by
  refine ll_aload_n (q := 685) X 1 dL_law_684 rfl rfl rfl ?_
  refine ll_aload_n (q := 686) X 0 dL_law_685 rfl rfl rfl ?_
  refine ll_iload_n (q := 687) X 3 dL_law_686 rfl rfl rfl ?_
  refine ll_iconst (q := 688) X (1 : Int32) dL_law_687 (by decide) rfl ?_
  refine ll_iadd (q := 689) X dL_law_688 rfl ?_
  refine ll_iald (q := 690) X hin1 dL_law_689 rfl ?_
  refine ll_cC (q := 693) X [.int (xs (nI (4 * k) + (1 : Int32)).toNatClampNeg)] (kX9_keep l D X.2.2.2.2.2.2.2.1 (st_keep hR (xs (nI (4 * k) + (1 : Int32)).toNatClampNeg))) (cwV 1 X.1.2.2.2.2 gL_law_X9_keep rfl rfl rfl (by decide +kernel) ⟨Nat.le_of_ble_eq_true rfl, Nat.le_of_ble_eq_true rfl⟩) rfl rfl (Nat.le_of_ble_eq_true rfl) dL_law_690 rfl (fun r σ1 h1 => ?_)
  refine ll_aload_n (q := 694) X 2 dL_law_693 rfl rfl rfl ?_
  refine ll_aload_n (q := 695) X 0 dL_law_694 rfl rfl rfl ?_
  refine ll_iload_n (q := 696) X 3 dL_law_695 rfl rfl rfl ?_
  refine ll_iconst (q := 697) X (1 : Int32) dL_law_696 (by decide) rfl ?_
  refine ll_iadd (q := 698) X dL_law_697 rfl ?_
  refine ll_iald (q := 699) X hin1 dL_law_698 rfl ?_
  refine ll_cM (q := 702) X [.int (xs (nI (4 * k) + (1 : Int32)).toNatClampNeg)] (kX10_keep l D X.2.2.2.2.2.2.2.2.1 h1) (cwV 1 X.1.2.2.2.2 gL_law_X10_keep rfl rfl rfl (by decide +kernel) ⟨Nat.le_of_ble_eq_true rfl, Nat.le_of_ble_eq_true rfl⟩) rfl rfl (Nat.le_of_ble_eq_true rfl) dL_law_699 rfl (fun r2 μ1 h2 => ?_)
  obtain ⟨h2, hR⟩ := h2
  subst h2
  exact ll_icmp_eq (q := 705) X 767 dL_law_702 (by decide) rfl (fun _ => fin _ _ hR) (fun c9 => absurd rfl c9)
set_option maxHeartbeats 4000000 in
set_option maxRecDepth 20000 in
theorem lc_back (X : ZZ p s m args meth c D cy aC aM b L xs zb) {k : Nat} (hin1 : vp_in (nI (4 * k) + (1 : Int32)) L) (hin2 : vp_in (nI (4 * k) + (2 : Int32)) L) (hin3 : vp_in (nI (4 * k) + (3 : Int32)) L) (hR : RR σ μ) (fin : ∀ σ1 μ1, RR σ1 μ1 → LL p l e s m args below meth c Q D cy aC aM zb σ1 μ1 767 (lvL b aC aM k) []) : LL p l e s m args below meth c Q D cy aC aM zb σ μ 707 (lvL b aC aM k) [] := by
  refine ll_aload_n (q := 708) X 1 dL_law_707 rfl rfl rfl ?_
  refine ll_aload_n (q := 709) X 0 dL_law_708 rfl rfl rfl ?_
  refine ll_iload_n (q := 710) X 3 dL_law_709 rfl rfl rfl ?_
  refine ll_iconst (q := 711) X (1 : Int32) dL_law_710 (by decide) rfl ?_
  refine ll_iadd (q := 712) X dL_law_711 rfl ?_
  refine ll_iald (q := 713) X hin1 dL_law_712 rfl ?_
  refine ll_cC (q := 716) X [.int (xs (nI (4 * k) + (1 : Int32)).toNatClampNeg)] (kX9_back l D X.2.2.2.2.2.2.2.1 (st_back hR (xs (nI (4 * k) + (1 : Int32)).toNatClampNeg))) (cwV 1 X.1.2.2.2.2 gL_law_X9_back rfl rfl rfl (by decide +kernel) ⟨Nat.le_of_ble_eq_true rfl, Nat.le_of_ble_eq_true rfl⟩) rfl rfl (Nat.le_of_ble_eq_true rfl) dL_law_713 rfl (fun r σ1 h1 => ?_)
  refine ll_aload_n (q := 717) X 2 dL_law_716 rfl rfl rfl ?_
  refine ll_aload_n (q := 718) X 0 dL_law_717 rfl rfl rfl ?_
  refine ll_iload_n (q := 719) X 3 dL_law_718 rfl rfl rfl ?_
  refine ll_iconst (q := 720) X (1 : Int32) dL_law_719 (by decide) rfl ?_
  refine ll_iadd (q := 721) X dL_law_720 rfl ?_
  refine ll_iald (q := 722) X hin1 dL_law_721 rfl ?_
  refine ll_cM (q := 725) X [.int (xs (nI (4 * k) + (1 : Int32)).toNatClampNeg)] (kX10_back l D X.2.2.2.2.2.2.2.2.1 h1) (cwV 1 X.1.2.2.2.2 gL_law_X10_back rfl rfl rfl (by decide +kernel) ⟨Nat.le_of_ble_eq_true rfl, Nat.le_of_ble_eq_true rfl⟩) rfl rfl (Nat.le_of_ble_eq_true rfl) dL_law_722 rfl (fun r2 μ1 h2 => ?_)
  obtain ⟨h2, hR⟩ := h2
  subst h2
  exact ll_icmp_eq (q := 728) X 767 dL_law_725 (by decide) rfl (fun _ => fin _ _ hR) (fun c9 => absurd rfl c9)
set_option maxHeartbeats 4000000 in
set_option maxRecDepth 20000 in
theorem lc_count (X : ZZ p s m args meth c D cy aC aM b L xs zb) {k : Nat} (hin1 : vp_in (nI (4 * k) + (1 : Int32)) L) (hin2 : vp_in (nI (4 * k) + (2 : Int32)) L) (hin3 : vp_in (nI (4 * k) + (3 : Int32)) L) (hR : RR σ μ) (fin : ∀ σ1 μ1, RR σ1 μ1 → LL p l e s m args below meth c Q D cy aC aM zb σ1 μ1 767 (lvL b aC aM k) []) : LL p l e s m args below meth c Q D cy aC aM zb σ μ 730 (lvL b aC aM k) [] := by
  refine ll_aload_n (q := 731) X 1 dL_law_730 rfl rfl rfl ?_
  refine ll_aload_n (q := 732) X 0 dL_law_731 rfl rfl rfl ?_
  refine ll_iload_n (q := 733) X 3 dL_law_732 rfl rfl rfl ?_
  refine ll_iconst (q := 734) X (1 : Int32) dL_law_733 (by decide) rfl ?_
  refine ll_iadd (q := 735) X dL_law_734 rfl ?_
  refine ll_iald (q := 736) X hin1 dL_law_735 rfl ?_
  refine ll_cC (q := 739) X [.int (xs (nI (4 * k) + (1 : Int32)).toNatClampNeg)] (kX9_count l D X.2.2.2.2.2.2.2.1 (st_count hR (xs (nI (4 * k) + (1 : Int32)).toNatClampNeg))) (cwV 1 X.1.2.2.2.2 gL_law_X9_count rfl rfl rfl (by decide +kernel) ⟨Nat.le_of_ble_eq_true rfl, Nat.le_of_ble_eq_true rfl⟩) rfl rfl (Nat.le_of_ble_eq_true rfl) dL_law_736 rfl (fun r σ1 h1 => ?_)
  obtain ⟨h1, rfl⟩ := h1
  refine ll_aload_n (q := 740) X 2 dL_law_739 rfl rfl rfl ?_
  refine ll_aload_n (q := 741) X 0 dL_law_740 rfl rfl rfl ?_
  refine ll_iload_n (q := 742) X 3 dL_law_741 rfl rfl rfl ?_
  refine ll_iconst (q := 743) X (1 : Int32) dL_law_742 (by decide) rfl ?_
  refine ll_iadd (q := 744) X dL_law_743 rfl ?_
  refine ll_iald (q := 745) X hin1 dL_law_744 rfl ?_
  refine ll_cM (q := 748) X [.int (xs (nI (4 * k) + (1 : Int32)).toNatClampNeg)] (kX10_count l D X.2.2.2.2.2.2.2.2.1 h1) (cwV 1 X.1.2.2.2.2 gL_law_X10_count rfl rfl rfl (by decide +kernel) ⟨Nat.le_of_ble_eq_true rfl, Nat.le_of_ble_eq_true rfl⟩) rfl rfl (Nat.le_of_ble_eq_true rfl) dL_law_745 rfl (fun r2 μ1 h2 => ?_)
  obtain ⟨h2, rfl⟩ := h2
  subst h2
  exact ll_icmp_eq (q := 751) X 767 dL_law_748 (by decide) rfl (fun _ => fin _ _ hR) (fun c9 => absurd rfl c9)
set_option maxHeartbeats 4000000 in
set_option maxRecDepth 20000 in
theorem lc_trace (X : ZZ p s m args meth c D cy aC aM b L xs zb) {k : Nat} (hin1 : vp_in (nI (4 * k) + (1 : Int32)) L) (hin2 : vp_in (nI (4 * k) + (2 : Int32)) L) (hin3 : vp_in (nI (4 * k) + (3 : Int32)) L) (hR : RR σ μ) (fin : ∀ σ1 μ1, RR σ1 μ1 → LL p l e s m args below meth c Q D cy aC aM zb σ1 μ1 767 (lvL b aC aM k) []) : LL p l e s m args below meth c Q D cy aC aM zb σ μ 753 (lvL b aC aM k) [] := by
  refine ll_aload_n (q := 754) X 1 dL_law_753 rfl rfl rfl ?_
  refine ll_cCl (q := 757) X [] (kX9_trace l D X.2.2.2.2.2.2.2.1 (st_trace hR)) (cwV 0 X.1.2.2.2.2 gL_law_X9_trace rfl rfl rfl (by decide +kernel) ⟨Nat.le_of_ble_eq_true rfl, Nat.le_of_ble_eq_true rfl⟩) rfl rfl (Nat.le_of_ble_eq_true rfl) dL_law_754 rfl (fun r σ1 h1 => ?_)
  obtain ⟨h1, rfl⟩ := h1
  refine ll_aload_n (q := 758) X 2 dL_law_757 rfl rfl rfl ?_
  refine ll_cMl (q := 761) X [] (kX10_trace l D X.2.2.2.2.2.2.2.2.1 h1) (cwV 0 X.1.2.2.2.2 gL_law_X10_trace rfl rfl rfl (by decide +kernel) ⟨Nat.le_of_ble_eq_true rfl, Nat.le_of_ble_eq_true rfl⟩) rfl rfl (Nat.le_of_ble_eq_true rfl) dL_law_758 rfl (fun r2 μ1 h2 => ?_)
  obtain ⟨h2, rfl⟩ := h2
  subst h2
  refine ll_lcmp (q := 762) X dL_law_761 rfl ?_
  exact ll_if_eq (q := 765) X 767 dL_law_762 (by decide) rfl (fun _ => fin _ _ hR) (fun c9 => absurd (lgc_self _) c9)
end LLL
