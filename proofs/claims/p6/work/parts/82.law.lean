/-! the law's loop -/
def lEnv (p : Program) (l : Launch) (s : State) (m : MethodId) (meth : Method) (c : Code) (b0 L : Nat) (xs : Nat → Int32) (D : va_G) (k : zK) (a b : Nat → Nat) (o : Nat) : Prop :=
  p.tables.exec = Jvm.exec ∧ c.code = code ∧ meth.sig.returnType = ret ∧ c.maxLocals = 7 ∧ s.vm.findClass RL = some m.cls ∧ (∀ w ∈ Cond.initialized RX :: zWords, w.before #[Value.ref b0] s = true) ∧ va_X b0 L xs s s.heap ∧ b0 < s.heap.size ∧ meth.locks = false ∧ l.flags = pinnedFlags ++ [noTraceFlag] ∧ zE D k (zA 29 a) s ∧ zE D k (zA 22 b) s ∧ zX (zA 29 a) s ∧ zNo s ∧ lC s.heap.size a b o ∧ L ≤ 3073
def lK (p : Program) (l : Launch) (e : Env) (s : State) (m : MethodId) (below : List Frame) (meth : Method) (c : Code) (D : va_G) (k : zK) (a b : Nat → Nat) (o b0 : Nat) (i : Int32) (cells slots : Nat) (Q : State → Prop) : Prop :=
  ∀ (u : XS) (v : MS) (f : Nat → Int64) (H : Heap) (locs : List Loc) (cs ss : Nat) (ls : Array Slot), pRel u v → lP D k a b o u v f H → va_S (lA s.heap.size) s.heap H locs → lv_has ls 7 [(4, .int i), (0, .ref b0), (1, .ref (a 0)), (2, .ref (b 0)), (3, .ref o)] → cs ≤ cells + 1 → ss ≤ slots + 6 → W p l e room_1 s m #[Value.ref b0] below meth c H locs cs ss Q (F0 m 869 ls [])

theorem dL_law_0 : decode code 0 = .ok (.new 8, 3) := by decide +kernel
theorem dL_law_3 : decode code 3 = .ok (.dup, 1) := by decide +kernel
theorem dL_law_4 : decode code 4 = .ok (.aload_n 0, 1) := by decide +kernel
theorem dL_law_5 : decode code 5 = .ok (.iconst 0, 1) := by decide +kernel
theorem dL_law_6 : decode code 6 = .ok (.invokestatic 21, 3) := by decide +kernel
theorem dL_law_9 : decode code 9 = .ok (.invokespecial 27, 3) := by decide +kernel
theorem dL_law_12 : decode code 12 = .ok (.astore_n 1, 1) := by decide +kernel
theorem dL_law_13 : decode code 13 = .ok (.new 30, 3) := by decide +kernel
theorem dL_law_16 : decode code 16 = .ok (.dup, 1) := by decide +kernel
theorem dL_law_17 : decode code 17 = .ok (.aload_n 0, 1) := by decide +kernel
theorem dL_law_18 : decode code 18 = .ok (.iconst 0, 1) := by decide +kernel
theorem dL_law_19 : decode code 19 = .ok (.invokestatic 21, 3) := by decide +kernel
theorem dL_law_22 : decode code 22 = .ok (.invokespecial 32, 3) := by decide +kernel
theorem dL_law_25 : decode code 25 = .ok (.astore_n 2, 1) := by decide +kernel
theorem dL_law_26 : decode code 26 = .ok (.iconst 1, 1) := by decide +kernel
theorem dL_law_27 : decode code 27 = .ok (.newarray .long, 2) := by decide +kernel
theorem dL_law_29 : decode code 29 = .ok (.astore_n 3, 1) := by decide +kernel
theorem dL_law_30 : decode code 30 = .ok (.iconst 1, 1) := by decide +kernel
theorem dL_law_31 : decode code 31 = .ok (.istore 4, 2) := by decide +kernel
theorem dL_law_33 : decode code 33 = .ok (.iload 4, 2) := by decide +kernel
theorem dL_law_35 : decode code 35 = .ok (.aload_n 0, 1) := by decide +kernel
theorem dL_law_36 : decode code 36 = .ok (.arraylength, 1) := by decide +kernel
theorem dL_law_37 : decode code 37 = .ok (.bipush 6, 2) := by decide +kernel
theorem dL_law_39 : decode code 39 = .ok (.isub, 1) := by decide +kernel
theorem dL_law_40 : decode code 40 = .ok (.if_icmp .gt 835, 3) := by decide +kernel
theorem dL_law_43 : decode code 43 = .ok (.aload_n 0, 1) := by decide +kernel
theorem dL_law_44 : decode code 44 = .ok (.iload 4, 2) := by decide +kernel
theorem dL_law_46 : decode code 46 = .ok (.iaload, 1) := by decide +kernel
theorem dL_law_47 : decode code 47 = .ok (.bipush 15, 2) := by decide +kernel
theorem dL_law_49 : decode code 49 = .ok (.iand, 1) := by decide +kernel
theorem dL_law_50 : decode code 50 = .ok (.tableswitch 819 0 14 #[74, 111, 160, 197, 234, 283, 396, 509, 558, 635, 648, 676, 701, 754, 794], 74) := by decide +kernel
theorem dL_law_124 : decode code 124 = .ok (.aload_n 1, 1) := by decide +kernel
theorem dL_law_125 : decode code 125 = .ok (.aload_n 0, 1) := by decide +kernel
theorem dL_law_126 : decode code 126 = .ok (.iload 4, 2) := by decide +kernel
theorem dL_law_128 : decode code 128 = .ok (.iconst 1, 1) := by decide +kernel
theorem dL_law_129 : decode code 129 = .ok (.iadd, 1) := by decide +kernel
theorem dL_law_130 : decode code 130 = .ok (.iaload, 1) := by decide +kernel
theorem dL_law_131 : decode code 131 = .ok (.aload_n 0, 1) := by decide +kernel
theorem dL_law_132 : decode code 132 = .ok (.iload 4, 2) := by decide +kernel
theorem dL_law_134 : decode code 134 = .ok (.iconst 2, 1) := by decide +kernel
theorem dL_law_135 : decode code 135 = .ok (.iadd, 1) := by decide +kernel
theorem dL_law_136 : decode code 136 = .ok (.iaload, 1) := by decide +kernel
theorem dL_law_137 : decode code 137 = .ok (.invokevirtual 33, 3) := by decide +kernel
theorem dL_law_140 : decode code 140 = .ok (.pop, 1) := by decide +kernel
theorem dL_law_141 : decode code 141 = .ok (.aload_n 2, 1) := by decide +kernel
theorem dL_law_142 : decode code 142 = .ok (.aload_n 0, 1) := by decide +kernel
theorem dL_law_143 : decode code 143 = .ok (.iload 4, 2) := by decide +kernel
theorem dL_law_145 : decode code 145 = .ok (.iconst 1, 1) := by decide +kernel
theorem dL_law_146 : decode code 146 = .ok (.iadd, 1) := by decide +kernel
theorem dL_law_147 : decode code 147 = .ok (.iaload, 1) := by decide +kernel
theorem dL_law_148 : decode code 148 = .ok (.aload_n 0, 1) := by decide +kernel
theorem dL_law_149 : decode code 149 = .ok (.iload 4, 2) := by decide +kernel
theorem dL_law_151 : decode code 151 = .ok (.iconst 2, 1) := by decide +kernel
theorem dL_law_152 : decode code 152 = .ok (.iadd, 1) := by decide +kernel
theorem dL_law_153 : decode code 153 = .ok (.iaload, 1) := by decide +kernel
theorem dL_law_154 : decode code 154 = .ok (.invokevirtual 36, 3) := by decide +kernel
theorem dL_law_157 : decode code 157 = .ok (.pop, 1) := by decide +kernel
theorem dL_law_158 : decode code 158 = .ok (.goto 711, 3) := by decide +kernel
theorem dL_law_161 : decode code 161 = .ok (.aload_n 1, 1) := by decide +kernel
theorem dL_law_162 : decode code 162 = .ok (.aload_n 0, 1) := by decide +kernel
theorem dL_law_163 : decode code 163 = .ok (.iload 4, 2) := by decide +kernel
theorem dL_law_165 : decode code 165 = .ok (.iconst 1, 1) := by decide +kernel
theorem dL_law_166 : decode code 166 = .ok (.iadd, 1) := by decide +kernel
theorem dL_law_167 : decode code 167 = .ok (.iaload, 1) := by decide +kernel
theorem dL_law_168 : decode code 168 = .ok (.aload_n 0, 1) := by decide +kernel
theorem dL_law_169 : decode code 169 = .ok (.iload 4, 2) := by decide +kernel
theorem dL_law_171 : decode code 171 = .ok (.iconst 2, 1) := by decide +kernel
theorem dL_law_172 : decode code 172 = .ok (.iadd, 1) := by decide +kernel
theorem dL_law_173 : decode code 173 = .ok (.iaload, 1) := by decide +kernel
theorem dL_law_174 : decode code 174 = .ok (.aload_n 0, 1) := by decide +kernel
theorem dL_law_175 : decode code 175 = .ok (.iload 4, 2) := by decide +kernel
theorem dL_law_177 : decode code 177 = .ok (.iconst 3, 1) := by decide +kernel
theorem dL_law_178 : decode code 178 = .ok (.iadd, 1) := by decide +kernel
theorem dL_law_179 : decode code 179 = .ok (.iaload, 1) := by decide +kernel
theorem dL_law_180 : decode code 180 = .ok (.invokevirtual 37, 3) := by decide +kernel
theorem dL_law_183 : decode code 183 = .ok (.pop, 1) := by decide +kernel
theorem dL_law_184 : decode code 184 = .ok (.aload_n 2, 1) := by decide +kernel
theorem dL_law_185 : decode code 185 = .ok (.aload_n 0, 1) := by decide +kernel
theorem dL_law_186 : decode code 186 = .ok (.iload 4, 2) := by decide +kernel
theorem dL_law_188 : decode code 188 = .ok (.iconst 1, 1) := by decide +kernel
theorem dL_law_189 : decode code 189 = .ok (.iadd, 1) := by decide +kernel
theorem dL_law_190 : decode code 190 = .ok (.iaload, 1) := by decide +kernel
theorem dL_law_191 : decode code 191 = .ok (.aload_n 0, 1) := by decide +kernel
theorem dL_law_192 : decode code 192 = .ok (.iload 4, 2) := by decide +kernel
theorem dL_law_194 : decode code 194 = .ok (.iconst 2, 1) := by decide +kernel
theorem dL_law_195 : decode code 195 = .ok (.iadd, 1) := by decide +kernel
theorem dL_law_196 : decode code 196 = .ok (.iaload, 1) := by decide +kernel
theorem dL_law_197 : decode code 197 = .ok (.aload_n 0, 1) := by decide +kernel
theorem dL_law_198 : decode code 198 = .ok (.iload 4, 2) := by decide +kernel
theorem dL_law_200 : decode code 200 = .ok (.iconst 3, 1) := by decide +kernel
theorem dL_law_201 : decode code 201 = .ok (.iadd, 1) := by decide +kernel
theorem dL_law_202 : decode code 202 = .ok (.iaload, 1) := by decide +kernel
theorem dL_law_203 : decode code 203 = .ok (.invokevirtual 41, 3) := by decide +kernel
theorem dL_law_206 : decode code 206 = .ok (.pop, 1) := by decide +kernel
theorem dL_law_207 : decode code 207 = .ok (.goto 662, 3) := by decide +kernel
theorem dL_law_210 : decode code 210 = .ok (.aload_n 1, 1) := by decide +kernel
theorem dL_law_211 : decode code 211 = .ok (.aload_n 0, 1) := by decide +kernel
theorem dL_law_212 : decode code 212 = .ok (.iload 4, 2) := by decide +kernel
theorem dL_law_214 : decode code 214 = .ok (.iconst 1, 1) := by decide +kernel
theorem dL_law_215 : decode code 215 = .ok (.iadd, 1) := by decide +kernel
theorem dL_law_216 : decode code 216 = .ok (.iaload, 1) := by decide +kernel
theorem dL_law_217 : decode code 217 = .ok (.aload_n 0, 1) := by decide +kernel
theorem dL_law_218 : decode code 218 = .ok (.iload 4, 2) := by decide +kernel
theorem dL_law_220 : decode code 220 = .ok (.iconst 2, 1) := by decide +kernel
theorem dL_law_221 : decode code 221 = .ok (.iadd, 1) := by decide +kernel
theorem dL_law_222 : decode code 222 = .ok (.iaload, 1) := by decide +kernel
theorem dL_law_223 : decode code 223 = .ok (.invokevirtual 42, 3) := by decide +kernel
theorem dL_law_226 : decode code 226 = .ok (.pop, 1) := by decide +kernel
theorem dL_law_227 : decode code 227 = .ok (.aload_n 2, 1) := by decide +kernel
theorem dL_law_228 : decode code 228 = .ok (.aload_n 0, 1) := by decide +kernel
theorem dL_law_229 : decode code 229 = .ok (.iload 4, 2) := by decide +kernel
theorem dL_law_231 : decode code 231 = .ok (.iconst 1, 1) := by decide +kernel
theorem dL_law_232 : decode code 232 = .ok (.iadd, 1) := by decide +kernel
theorem dL_law_233 : decode code 233 = .ok (.iaload, 1) := by decide +kernel
theorem dL_law_234 : decode code 234 = .ok (.aload_n 0, 1) := by decide +kernel
theorem dL_law_235 : decode code 235 = .ok (.iload 4, 2) := by decide +kernel
theorem dL_law_237 : decode code 237 = .ok (.iconst 2, 1) := by decide +kernel
theorem dL_law_238 : decode code 238 = .ok (.iadd, 1) := by decide +kernel
theorem dL_law_239 : decode code 239 = .ok (.iaload, 1) := by decide +kernel
theorem dL_law_240 : decode code 240 = .ok (.invokevirtual 45, 3) := by decide +kernel
theorem dL_law_243 : decode code 243 = .ok (.pop, 1) := by decide +kernel
theorem dL_law_244 : decode code 244 = .ok (.goto 625, 3) := by decide +kernel
theorem dL_law_247 : decode code 247 = .ok (.aload_n 1, 1) := by decide +kernel
theorem dL_law_248 : decode code 248 = .ok (.aload_n 0, 1) := by decide +kernel
theorem dL_law_249 : decode code 249 = .ok (.iload 4, 2) := by decide +kernel
theorem dL_law_251 : decode code 251 = .ok (.iconst 1, 1) := by decide +kernel
theorem dL_law_252 : decode code 252 = .ok (.iadd, 1) := by decide +kernel
theorem dL_law_253 : decode code 253 = .ok (.iaload, 1) := by decide +kernel
theorem dL_law_254 : decode code 254 = .ok (.aload_n 0, 1) := by decide +kernel
theorem dL_law_255 : decode code 255 = .ok (.iload 4, 2) := by decide +kernel
theorem dL_law_257 : decode code 257 = .ok (.iconst 2, 1) := by decide +kernel
theorem dL_law_258 : decode code 258 = .ok (.iadd, 1) := by decide +kernel
theorem dL_law_259 : decode code 259 = .ok (.iaload, 1) := by decide +kernel
theorem dL_law_260 : decode code 260 = .ok (.invokevirtual 46, 3) := by decide +kernel
theorem dL_law_263 : decode code 263 = .ok (.pop, 1) := by decide +kernel
theorem dL_law_264 : decode code 264 = .ok (.aload_n 2, 1) := by decide +kernel
theorem dL_law_265 : decode code 265 = .ok (.aload_n 0, 1) := by decide +kernel
theorem dL_law_266 : decode code 266 = .ok (.iload 4, 2) := by decide +kernel
theorem dL_law_268 : decode code 268 = .ok (.iconst 1, 1) := by decide +kernel
theorem dL_law_269 : decode code 269 = .ok (.iadd, 1) := by decide +kernel
theorem dL_law_270 : decode code 270 = .ok (.iaload, 1) := by decide +kernel
theorem dL_law_271 : decode code 271 = .ok (.aload_n 0, 1) := by decide +kernel
theorem dL_law_272 : decode code 272 = .ok (.iload 4, 2) := by decide +kernel
theorem dL_law_274 : decode code 274 = .ok (.iconst 2, 1) := by decide +kernel
theorem dL_law_275 : decode code 275 = .ok (.iadd, 1) := by decide +kernel
theorem dL_law_276 : decode code 276 = .ok (.iaload, 1) := by decide +kernel
theorem dL_law_277 : decode code 277 = .ok (.invokevirtual 49, 3) := by decide +kernel
theorem dL_law_280 : decode code 280 = .ok (.pop, 1) := by decide +kernel
theorem dL_law_281 : decode code 281 = .ok (.goto 588, 3) := by decide +kernel
theorem dL_law_284 : decode code 284 = .ok (.aload_n 1, 1) := by decide +kernel
theorem dL_law_285 : decode code 285 = .ok (.aload_n 0, 1) := by decide +kernel
theorem dL_law_286 : decode code 286 = .ok (.iload 4, 2) := by decide +kernel
theorem dL_law_288 : decode code 288 = .ok (.iconst 1, 1) := by decide +kernel
theorem dL_law_289 : decode code 289 = .ok (.iadd, 1) := by decide +kernel
theorem dL_law_290 : decode code 290 = .ok (.iaload, 1) := by decide +kernel
theorem dL_law_291 : decode code 291 = .ok (.aload_n 0, 1) := by decide +kernel
theorem dL_law_292 : decode code 292 = .ok (.iload 4, 2) := by decide +kernel
theorem dL_law_294 : decode code 294 = .ok (.iconst 2, 1) := by decide +kernel
theorem dL_law_295 : decode code 295 = .ok (.iadd, 1) := by decide +kernel
theorem dL_law_296 : decode code 296 = .ok (.iaload, 1) := by decide +kernel
theorem dL_law_297 : decode code 297 = .ok (.aload_n 0, 1) := by decide +kernel
theorem dL_law_298 : decode code 298 = .ok (.iload 4, 2) := by decide +kernel
theorem dL_law_300 : decode code 300 = .ok (.iconst 3, 1) := by decide +kernel
theorem dL_law_301 : decode code 301 = .ok (.iadd, 1) := by decide +kernel
theorem dL_law_302 : decode code 302 = .ok (.iaload, 1) := by decide +kernel
theorem dL_law_303 : decode code 303 = .ok (.invokevirtual 50, 3) := by decide +kernel
theorem dL_law_306 : decode code 306 = .ok (.aload_n 2, 1) := by decide +kernel
theorem dL_law_307 : decode code 307 = .ok (.aload_n 0, 1) := by decide +kernel
theorem dL_law_308 : decode code 308 = .ok (.iload 4, 2) := by decide +kernel
theorem dL_law_310 : decode code 310 = .ok (.iconst 1, 1) := by decide +kernel
theorem dL_law_311 : decode code 311 = .ok (.iadd, 1) := by decide +kernel
theorem dL_law_312 : decode code 312 = .ok (.iaload, 1) := by decide +kernel
theorem dL_law_313 : decode code 313 = .ok (.aload_n 0, 1) := by decide +kernel
theorem dL_law_314 : decode code 314 = .ok (.iload 4, 2) := by decide +kernel
theorem dL_law_316 : decode code 316 = .ok (.iconst 2, 1) := by decide +kernel
theorem dL_law_317 : decode code 317 = .ok (.iadd, 1) := by decide +kernel
theorem dL_law_318 : decode code 318 = .ok (.iaload, 1) := by decide +kernel
theorem dL_law_319 : decode code 319 = .ok (.aload_n 0, 1) := by decide +kernel
theorem dL_law_320 : decode code 320 = .ok (.iload 4, 2) := by decide +kernel
theorem dL_law_322 : decode code 322 = .ok (.iconst 3, 1) := by decide +kernel
theorem dL_law_323 : decode code 323 = .ok (.iadd, 1) := by decide +kernel
theorem dL_law_324 : decode code 324 = .ok (.iaload, 1) := by decide +kernel
theorem dL_law_325 : decode code 325 = .ok (.invokevirtual 53, 3) := by decide +kernel
theorem dL_law_328 : decode code 328 = .ok (.if_icmp .eq 541, 3) := by decide +kernel
theorem dL_law_331 : decode code 331 = .ok (.iconst 0, 1) := by decide +kernel
theorem dL_law_332 : decode code 332 = .ok (.ireturn, 1) := by decide +kernel
theorem dL_law_333 : decode code 333 = .ok (.aload_n 1, 1) := by decide +kernel
theorem dL_law_334 : decode code 334 = .ok (.aload_n 0, 1) := by decide +kernel
theorem dL_law_335 : decode code 335 = .ok (.iload 4, 2) := by decide +kernel
theorem dL_law_337 : decode code 337 = .ok (.iconst 1, 1) := by decide +kernel
theorem dL_law_338 : decode code 338 = .ok (.iadd, 1) := by decide +kernel
theorem dL_law_339 : decode code 339 = .ok (.iaload, 1) := by decide +kernel
theorem dL_law_340 : decode code 340 = .ok (.aload_n 0, 1) := by decide +kernel
theorem dL_law_341 : decode code 341 = .ok (.iload 4, 2) := by decide +kernel
theorem dL_law_343 : decode code 343 = .ok (.iconst 2, 1) := by decide +kernel
theorem dL_law_344 : decode code 344 = .ok (.iadd, 1) := by decide +kernel
theorem dL_law_345 : decode code 345 = .ok (.iaload, 1) := by decide +kernel
theorem dL_law_346 : decode code 346 = .ok (.i2l, 1) := by decide +kernel
theorem dL_law_347 : decode code 347 = .ok (.bipush 32, 2) := by decide +kernel
theorem dL_law_349 : decode code 349 = .ok (.lshl, 1) := by decide +kernel
theorem dL_law_350 : decode code 350 = .ok (.aload_n 0, 1) := by decide +kernel
theorem dL_law_351 : decode code 351 = .ok (.iload 4, 2) := by decide +kernel
theorem dL_law_353 : decode code 353 = .ok (.iconst 3, 1) := by decide +kernel
theorem dL_law_354 : decode code 354 = .ok (.iadd, 1) := by decide +kernel
theorem dL_law_355 : decode code 355 = .ok (.iaload, 1) := by decide +kernel
theorem dL_law_356 : decode code 356 = .ok (.i2l, 1) := by decide +kernel
theorem dL_law_357 : decode code 357 = .ok (.ldc2_w 54, 3) := by decide +kernel
theorem dL_law_360 : decode code 360 = .ok (.land, 1) := by decide +kernel
theorem dL_law_361 : decode code 361 = .ok (.lor, 1) := by decide +kernel
theorem dL_law_362 : decode code 362 = .ok (.aload_n 0, 1) := by decide +kernel
theorem dL_law_363 : decode code 363 = .ok (.iload 4, 2) := by decide +kernel
theorem dL_law_365 : decode code 365 = .ok (.iconst 4, 1) := by decide +kernel
theorem dL_law_366 : decode code 366 = .ok (.iadd, 1) := by decide +kernel
theorem dL_law_367 : decode code 367 = .ok (.iaload, 1) := by decide +kernel
theorem dL_law_368 : decode code 368 = .ok (.i2l, 1) := by decide +kernel
theorem dL_law_369 : decode code 369 = .ok (.bipush 32, 2) := by decide +kernel
theorem dL_law_371 : decode code 371 = .ok (.lshl, 1) := by decide +kernel
theorem dL_law_372 : decode code 372 = .ok (.aload_n 0, 1) := by decide +kernel
theorem dL_law_373 : decode code 373 = .ok (.iload 4, 2) := by decide +kernel
theorem dL_law_375 : decode code 375 = .ok (.iconst 5, 1) := by decide +kernel
theorem dL_law_376 : decode code 376 = .ok (.iadd, 1) := by decide +kernel
theorem dL_law_377 : decode code 377 = .ok (.iaload, 1) := by decide +kernel
theorem dL_law_378 : decode code 378 = .ok (.i2l, 1) := by decide +kernel
theorem dL_law_379 : decode code 379 = .ok (.ldc2_w 54, 3) := by decide +kernel
theorem dL_law_382 : decode code 382 = .ok (.land, 1) := by decide +kernel
theorem dL_law_383 : decode code 383 = .ok (.lor, 1) := by decide +kernel
theorem dL_law_384 : decode code 384 = .ok (.invokevirtual 56, 3) := by decide +kernel
theorem dL_law_387 : decode code 387 = .ok (.pop, 1) := by decide +kernel
theorem dL_law_388 : decode code 388 = .ok (.aload_n 2, 1) := by decide +kernel
theorem dL_law_389 : decode code 389 = .ok (.aload_n 0, 1) := by decide +kernel
theorem dL_law_390 : decode code 390 = .ok (.iload 4, 2) := by decide +kernel
theorem dL_law_392 : decode code 392 = .ok (.iconst 1, 1) := by decide +kernel
theorem dL_law_393 : decode code 393 = .ok (.iadd, 1) := by decide +kernel
theorem dL_law_394 : decode code 394 = .ok (.iaload, 1) := by decide +kernel
theorem dL_law_395 : decode code 395 = .ok (.aload_n 0, 1) := by decide +kernel
theorem dL_law_396 : decode code 396 = .ok (.iload 4, 2) := by decide +kernel
theorem dL_law_398 : decode code 398 = .ok (.iconst 2, 1) := by decide +kernel
theorem dL_law_399 : decode code 399 = .ok (.iadd, 1) := by decide +kernel
theorem dL_law_400 : decode code 400 = .ok (.iaload, 1) := by decide +kernel
theorem dL_law_401 : decode code 401 = .ok (.i2l, 1) := by decide +kernel
theorem dL_law_402 : decode code 402 = .ok (.bipush 32, 2) := by decide +kernel
theorem dL_law_404 : decode code 404 = .ok (.lshl, 1) := by decide +kernel
theorem dL_law_405 : decode code 405 = .ok (.aload_n 0, 1) := by decide +kernel
theorem dL_law_406 : decode code 406 = .ok (.iload 4, 2) := by decide +kernel
theorem dL_law_408 : decode code 408 = .ok (.iconst 3, 1) := by decide +kernel
theorem dL_law_409 : decode code 409 = .ok (.iadd, 1) := by decide +kernel
theorem dL_law_410 : decode code 410 = .ok (.iaload, 1) := by decide +kernel
theorem dL_law_411 : decode code 411 = .ok (.i2l, 1) := by decide +kernel
theorem dL_law_412 : decode code 412 = .ok (.ldc2_w 54, 3) := by decide +kernel
theorem dL_law_415 : decode code 415 = .ok (.land, 1) := by decide +kernel
theorem dL_law_416 : decode code 416 = .ok (.lor, 1) := by decide +kernel
theorem dL_law_417 : decode code 417 = .ok (.aload_n 0, 1) := by decide +kernel
theorem dL_law_418 : decode code 418 = .ok (.iload 4, 2) := by decide +kernel
theorem dL_law_420 : decode code 420 = .ok (.iconst 4, 1) := by decide +kernel
theorem dL_law_421 : decode code 421 = .ok (.iadd, 1) := by decide +kernel
theorem dL_law_422 : decode code 422 = .ok (.iaload, 1) := by decide +kernel
theorem dL_law_423 : decode code 423 = .ok (.i2l, 1) := by decide +kernel
theorem dL_law_424 : decode code 424 = .ok (.bipush 32, 2) := by decide +kernel
theorem dL_law_426 : decode code 426 = .ok (.lshl, 1) := by decide +kernel
theorem dL_law_427 : decode code 427 = .ok (.aload_n 0, 1) := by decide +kernel
theorem dL_law_428 : decode code 428 = .ok (.iload 4, 2) := by decide +kernel
theorem dL_law_430 : decode code 430 = .ok (.iconst 5, 1) := by decide +kernel
theorem dL_law_431 : decode code 431 = .ok (.iadd, 1) := by decide +kernel
theorem dL_law_432 : decode code 432 = .ok (.iaload, 1) := by decide +kernel
theorem dL_law_433 : decode code 433 = .ok (.i2l, 1) := by decide +kernel
theorem dL_law_434 : decode code 434 = .ok (.ldc2_w 54, 3) := by decide +kernel
theorem dL_law_437 : decode code 437 = .ok (.land, 1) := by decide +kernel
theorem dL_law_438 : decode code 438 = .ok (.lor, 1) := by decide +kernel
theorem dL_law_439 : decode code 439 = .ok (.invokevirtual 60, 3) := by decide +kernel
theorem dL_law_442 : decode code 442 = .ok (.pop, 1) := by decide +kernel
theorem dL_law_443 : decode code 443 = .ok (.goto 426, 3) := by decide +kernel
theorem dL_law_446 : decode code 446 = .ok (.aload_n 1, 1) := by decide +kernel
theorem dL_law_447 : decode code 447 = .ok (.aload_n 0, 1) := by decide +kernel
theorem dL_law_448 : decode code 448 = .ok (.iload 4, 2) := by decide +kernel
theorem dL_law_450 : decode code 450 = .ok (.iconst 1, 1) := by decide +kernel
theorem dL_law_451 : decode code 451 = .ok (.iadd, 1) := by decide +kernel
theorem dL_law_452 : decode code 452 = .ok (.iaload, 1) := by decide +kernel
theorem dL_law_453 : decode code 453 = .ok (.aload_n 0, 1) := by decide +kernel
theorem dL_law_454 : decode code 454 = .ok (.iload 4, 2) := by decide +kernel
theorem dL_law_456 : decode code 456 = .ok (.iconst 2, 1) := by decide +kernel
theorem dL_law_457 : decode code 457 = .ok (.iadd, 1) := by decide +kernel
theorem dL_law_458 : decode code 458 = .ok (.iaload, 1) := by decide +kernel
theorem dL_law_459 : decode code 459 = .ok (.i2l, 1) := by decide +kernel
theorem dL_law_460 : decode code 460 = .ok (.bipush 32, 2) := by decide +kernel
theorem dL_law_462 : decode code 462 = .ok (.lshl, 1) := by decide +kernel
theorem dL_law_463 : decode code 463 = .ok (.aload_n 0, 1) := by decide +kernel
theorem dL_law_464 : decode code 464 = .ok (.iload 4, 2) := by decide +kernel
theorem dL_law_466 : decode code 466 = .ok (.iconst 3, 1) := by decide +kernel
theorem dL_law_467 : decode code 467 = .ok (.iadd, 1) := by decide +kernel
theorem dL_law_468 : decode code 468 = .ok (.iaload, 1) := by decide +kernel
theorem dL_law_469 : decode code 469 = .ok (.i2l, 1) := by decide +kernel
theorem dL_law_470 : decode code 470 = .ok (.ldc2_w 54, 3) := by decide +kernel
theorem dL_law_473 : decode code 473 = .ok (.land, 1) := by decide +kernel
theorem dL_law_474 : decode code 474 = .ok (.lor, 1) := by decide +kernel
theorem dL_law_475 : decode code 475 = .ok (.aload_n 0, 1) := by decide +kernel
theorem dL_law_476 : decode code 476 = .ok (.iload 4, 2) := by decide +kernel
theorem dL_law_478 : decode code 478 = .ok (.iconst 4, 1) := by decide +kernel
theorem dL_law_479 : decode code 479 = .ok (.iadd, 1) := by decide +kernel
theorem dL_law_480 : decode code 480 = .ok (.iaload, 1) := by decide +kernel
theorem dL_law_481 : decode code 481 = .ok (.i2l, 1) := by decide +kernel
theorem dL_law_482 : decode code 482 = .ok (.bipush 32, 2) := by decide +kernel
theorem dL_law_484 : decode code 484 = .ok (.lshl, 1) := by decide +kernel
theorem dL_law_485 : decode code 485 = .ok (.aload_n 0, 1) := by decide +kernel
theorem dL_law_486 : decode code 486 = .ok (.iload 4, 2) := by decide +kernel
theorem dL_law_488 : decode code 488 = .ok (.iconst 5, 1) := by decide +kernel
theorem dL_law_489 : decode code 489 = .ok (.iadd, 1) := by decide +kernel
theorem dL_law_490 : decode code 490 = .ok (.iaload, 1) := by decide +kernel
theorem dL_law_491 : decode code 491 = .ok (.i2l, 1) := by decide +kernel
theorem dL_law_492 : decode code 492 = .ok (.ldc2_w 54, 3) := by decide +kernel
theorem dL_law_495 : decode code 495 = .ok (.land, 1) := by decide +kernel
theorem dL_law_496 : decode code 496 = .ok (.lor, 1) := by decide +kernel
theorem dL_law_497 : decode code 497 = .ok (.invokevirtual 61, 3) := by decide +kernel
theorem dL_law_500 : decode code 500 = .ok (.pop, 1) := by decide +kernel
theorem dL_law_501 : decode code 501 = .ok (.aload_n 2, 1) := by decide +kernel
theorem dL_law_502 : decode code 502 = .ok (.aload_n 0, 1) := by decide +kernel
theorem dL_law_503 : decode code 503 = .ok (.iload 4, 2) := by decide +kernel
theorem dL_law_505 : decode code 505 = .ok (.iconst 1, 1) := by decide +kernel
theorem dL_law_506 : decode code 506 = .ok (.iadd, 1) := by decide +kernel
theorem dL_law_507 : decode code 507 = .ok (.iaload, 1) := by decide +kernel
theorem dL_law_508 : decode code 508 = .ok (.aload_n 0, 1) := by decide +kernel
theorem dL_law_509 : decode code 509 = .ok (.iload 4, 2) := by decide +kernel
theorem dL_law_511 : decode code 511 = .ok (.iconst 2, 1) := by decide +kernel
theorem dL_law_512 : decode code 512 = .ok (.iadd, 1) := by decide +kernel
theorem dL_law_513 : decode code 513 = .ok (.iaload, 1) := by decide +kernel
theorem dL_law_514 : decode code 514 = .ok (.i2l, 1) := by decide +kernel
theorem dL_law_515 : decode code 515 = .ok (.bipush 32, 2) := by decide +kernel
theorem dL_law_517 : decode code 517 = .ok (.lshl, 1) := by decide +kernel
theorem dL_law_518 : decode code 518 = .ok (.aload_n 0, 1) := by decide +kernel
theorem dL_law_519 : decode code 519 = .ok (.iload 4, 2) := by decide +kernel
theorem dL_law_521 : decode code 521 = .ok (.iconst 3, 1) := by decide +kernel
theorem dL_law_522 : decode code 522 = .ok (.iadd, 1) := by decide +kernel
theorem dL_law_523 : decode code 523 = .ok (.iaload, 1) := by decide +kernel
theorem dL_law_524 : decode code 524 = .ok (.i2l, 1) := by decide +kernel
theorem dL_law_525 : decode code 525 = .ok (.ldc2_w 54, 3) := by decide +kernel
theorem dL_law_528 : decode code 528 = .ok (.land, 1) := by decide +kernel
theorem dL_law_529 : decode code 529 = .ok (.lor, 1) := by decide +kernel
theorem dL_law_530 : decode code 530 = .ok (.aload_n 0, 1) := by decide +kernel
theorem dL_law_531 : decode code 531 = .ok (.iload 4, 2) := by decide +kernel
theorem dL_law_533 : decode code 533 = .ok (.iconst 4, 1) := by decide +kernel
theorem dL_law_534 : decode code 534 = .ok (.iadd, 1) := by decide +kernel
theorem dL_law_535 : decode code 535 = .ok (.iaload, 1) := by decide +kernel
theorem dL_law_536 : decode code 536 = .ok (.i2l, 1) := by decide +kernel
theorem dL_law_537 : decode code 537 = .ok (.bipush 32, 2) := by decide +kernel
theorem dL_law_539 : decode code 539 = .ok (.lshl, 1) := by decide +kernel
theorem dL_law_540 : decode code 540 = .ok (.aload_n 0, 1) := by decide +kernel
theorem dL_law_541 : decode code 541 = .ok (.iload 4, 2) := by decide +kernel
theorem dL_law_543 : decode code 543 = .ok (.iconst 5, 1) := by decide +kernel
theorem dL_law_544 : decode code 544 = .ok (.iadd, 1) := by decide +kernel
theorem dL_law_545 : decode code 545 = .ok (.iaload, 1) := by decide +kernel
theorem dL_law_546 : decode code 546 = .ok (.i2l, 1) := by decide +kernel
theorem dL_law_547 : decode code 547 = .ok (.ldc2_w 54, 3) := by decide +kernel
theorem dL_law_550 : decode code 550 = .ok (.land, 1) := by decide +kernel
theorem dL_law_551 : decode code 551 = .ok (.lor, 1) := by decide +kernel
theorem dL_law_552 : decode code 552 = .ok (.invokevirtual 64, 3) := by decide +kernel
theorem dL_law_555 : decode code 555 = .ok (.pop, 1) := by decide +kernel
theorem dL_law_556 : decode code 556 = .ok (.goto 313, 3) := by decide +kernel
theorem dL_law_559 : decode code 559 = .ok (.aload_n 1, 1) := by decide +kernel
theorem dL_law_560 : decode code 560 = .ok (.aload_n 0, 1) := by decide +kernel
theorem dL_law_561 : decode code 561 = .ok (.iload 4, 2) := by decide +kernel
theorem dL_law_563 : decode code 563 = .ok (.iconst 1, 1) := by decide +kernel
theorem dL_law_564 : decode code 564 = .ok (.iadd, 1) := by decide +kernel
theorem dL_law_565 : decode code 565 = .ok (.iaload, 1) := by decide +kernel
theorem dL_law_566 : decode code 566 = .ok (.aload_n 0, 1) := by decide +kernel
theorem dL_law_567 : decode code 567 = .ok (.iload 4, 2) := by decide +kernel
theorem dL_law_569 : decode code 569 = .ok (.iconst 2, 1) := by decide +kernel
theorem dL_law_570 : decode code 570 = .ok (.iadd, 1) := by decide +kernel
theorem dL_law_571 : decode code 571 = .ok (.iaload, 1) := by decide +kernel
theorem dL_law_572 : decode code 572 = .ok (.aload_n 0, 1) := by decide +kernel
theorem dL_law_573 : decode code 573 = .ok (.iload 4, 2) := by decide +kernel
theorem dL_law_575 : decode code 575 = .ok (.iconst 3, 1) := by decide +kernel
theorem dL_law_576 : decode code 576 = .ok (.iadd, 1) := by decide +kernel
theorem dL_law_577 : decode code 577 = .ok (.iaload, 1) := by decide +kernel
theorem dL_law_578 : decode code 578 = .ok (.invokevirtual 65, 3) := by decide +kernel
theorem dL_law_581 : decode code 581 = .ok (.pop, 1) := by decide +kernel
theorem dL_law_582 : decode code 582 = .ok (.aload_n 2, 1) := by decide +kernel
theorem dL_law_583 : decode code 583 = .ok (.aload_n 0, 1) := by decide +kernel
theorem dL_law_584 : decode code 584 = .ok (.iload 4, 2) := by decide +kernel
theorem dL_law_586 : decode code 586 = .ok (.iconst 1, 1) := by decide +kernel
theorem dL_law_587 : decode code 587 = .ok (.iadd, 1) := by decide +kernel
theorem dL_law_588 : decode code 588 = .ok (.iaload, 1) := by decide +kernel
theorem dL_law_589 : decode code 589 = .ok (.aload_n 0, 1) := by decide +kernel
theorem dL_law_590 : decode code 590 = .ok (.iload 4, 2) := by decide +kernel
theorem dL_law_592 : decode code 592 = .ok (.iconst 2, 1) := by decide +kernel
theorem dL_law_593 : decode code 593 = .ok (.iadd, 1) := by decide +kernel
theorem dL_law_594 : decode code 594 = .ok (.iaload, 1) := by decide +kernel
theorem dL_law_595 : decode code 595 = .ok (.aload_n 0, 1) := by decide +kernel
theorem dL_law_596 : decode code 596 = .ok (.iload 4, 2) := by decide +kernel
theorem dL_law_598 : decode code 598 = .ok (.iconst 3, 1) := by decide +kernel
theorem dL_law_599 : decode code 599 = .ok (.iadd, 1) := by decide +kernel
theorem dL_law_600 : decode code 600 = .ok (.iaload, 1) := by decide +kernel
theorem dL_law_601 : decode code 601 = .ok (.invokevirtual 68, 3) := by decide +kernel
theorem dL_law_604 : decode code 604 = .ok (.pop, 1) := by decide +kernel
theorem dL_law_605 : decode code 605 = .ok (.goto 264, 3) := by decide +kernel
theorem dL_law_608 : decode code 608 = .ok (.aload_n 1, 1) := by decide +kernel
theorem dL_law_609 : decode code 609 = .ok (.aload_n 0, 1) := by decide +kernel
theorem dL_law_610 : decode code 610 = .ok (.iload 4, 2) := by decide +kernel
theorem dL_law_612 : decode code 612 = .ok (.iconst 1, 1) := by decide +kernel
theorem dL_law_613 : decode code 613 = .ok (.iadd, 1) := by decide +kernel
theorem dL_law_614 : decode code 614 = .ok (.iaload, 1) := by decide +kernel
theorem dL_law_615 : decode code 615 = .ok (.aload_n 0, 1) := by decide +kernel
theorem dL_law_616 : decode code 616 = .ok (.iload 4, 2) := by decide +kernel
theorem dL_law_618 : decode code 618 = .ok (.iconst 2, 1) := by decide +kernel
theorem dL_law_619 : decode code 619 = .ok (.iadd, 1) := by decide +kernel
theorem dL_law_620 : decode code 620 = .ok (.iaload, 1) := by decide +kernel
theorem dL_law_621 : decode code 621 = .ok (.ifCond .eq 7, 3) := by decide +kernel
theorem dL_law_624 : decode code 624 = .ok (.iconst 1, 1) := by decide +kernel
theorem dL_law_625 : decode code 625 = .ok (.goto 4, 3) := by decide +kernel
theorem dL_law_628 : decode code 628 = .ok (.iconst 0, 1) := by decide +kernel
theorem dL_law_629 : decode code 629 = .ok (.aload_n 0, 1) := by decide +kernel
theorem dL_law_630 : decode code 630 = .ok (.iload 4, 2) := by decide +kernel
theorem dL_law_632 : decode code 632 = .ok (.iconst 3, 1) := by decide +kernel
theorem dL_law_633 : decode code 633 = .ok (.iadd, 1) := by decide +kernel
theorem dL_law_634 : decode code 634 = .ok (.iaload, 1) := by decide +kernel
theorem dL_law_635 : decode code 635 = .ok (.aload_n 0, 1) := by decide +kernel
theorem dL_law_636 : decode code 636 = .ok (.iload 4, 2) := by decide +kernel
theorem dL_law_638 : decode code 638 = .ok (.iconst 4, 1) := by decide +kernel
theorem dL_law_639 : decode code 639 = .ok (.iadd, 1) := by decide +kernel
theorem dL_law_640 : decode code 640 = .ok (.iaload, 1) := by decide +kernel
theorem dL_law_641 : decode code 641 = .ok (.invokevirtual 69, 3) := by decide +kernel
theorem dL_law_644 : decode code 644 = .ok (.pop, 1) := by decide +kernel
theorem dL_law_645 : decode code 645 = .ok (.aload_n 2, 1) := by decide +kernel
theorem dL_law_646 : decode code 646 = .ok (.aload_n 0, 1) := by decide +kernel
theorem dL_law_647 : decode code 647 = .ok (.iload 4, 2) := by decide +kernel
theorem dL_law_649 : decode code 649 = .ok (.iconst 1, 1) := by decide +kernel
theorem dL_law_650 : decode code 650 = .ok (.iadd, 1) := by decide +kernel
theorem dL_law_651 : decode code 651 = .ok (.iaload, 1) := by decide +kernel
theorem dL_law_652 : decode code 652 = .ok (.aload_n 0, 1) := by decide +kernel
theorem dL_law_653 : decode code 653 = .ok (.iload 4, 2) := by decide +kernel
theorem dL_law_655 : decode code 655 = .ok (.iconst 2, 1) := by decide +kernel
theorem dL_law_656 : decode code 656 = .ok (.iadd, 1) := by decide +kernel
theorem dL_law_657 : decode code 657 = .ok (.iaload, 1) := by decide +kernel
theorem dL_law_658 : decode code 658 = .ok (.ifCond .eq 7, 3) := by decide +kernel
theorem dL_law_661 : decode code 661 = .ok (.iconst 1, 1) := by decide +kernel
theorem dL_law_662 : decode code 662 = .ok (.goto 4, 3) := by decide +kernel
theorem dL_law_665 : decode code 665 = .ok (.iconst 0, 1) := by decide +kernel
theorem dL_law_666 : decode code 666 = .ok (.aload_n 0, 1) := by decide +kernel
theorem dL_law_667 : decode code 667 = .ok (.iload 4, 2) := by decide +kernel
theorem dL_law_669 : decode code 669 = .ok (.iconst 3, 1) := by decide +kernel
theorem dL_law_670 : decode code 670 = .ok (.iadd, 1) := by decide +kernel
theorem dL_law_671 : decode code 671 = .ok (.iaload, 1) := by decide +kernel
theorem dL_law_672 : decode code 672 = .ok (.aload_n 0, 1) := by decide +kernel
theorem dL_law_673 : decode code 673 = .ok (.iload 4, 2) := by decide +kernel
theorem dL_law_675 : decode code 675 = .ok (.iconst 4, 1) := by decide +kernel
theorem dL_law_676 : decode code 676 = .ok (.iadd, 1) := by decide +kernel
theorem dL_law_677 : decode code 677 = .ok (.iaload, 1) := by decide +kernel
theorem dL_law_678 : decode code 678 = .ok (.invokevirtual 73, 3) := by decide +kernel
theorem dL_law_681 : decode code 681 = .ok (.pop, 1) := by decide +kernel
theorem dL_law_682 : decode code 682 = .ok (.goto 187, 3) := by decide +kernel
theorem dL_law_685 : decode code 685 = .ok (.aload_n 1, 1) := by decide +kernel
theorem dL_law_686 : decode code 686 = .ok (.invokevirtual 74, 3) := by decide +kernel
theorem dL_law_689 : decode code 689 = .ok (.pop, 1) := by decide +kernel
theorem dL_law_690 : decode code 690 = .ok (.aload_n 2, 1) := by decide +kernel
theorem dL_law_691 : decode code 691 = .ok (.invokevirtual 78, 3) := by decide +kernel
theorem dL_law_694 : decode code 694 = .ok (.pop, 1) := by decide +kernel
theorem dL_law_695 : decode code 695 = .ok (.goto 174, 3) := by decide +kernel
theorem dL_law_698 : decode code 698 = .ok (.aload_n 1, 1) := by decide +kernel
theorem dL_law_699 : decode code 699 = .ok (.aload_n 0, 1) := by decide +kernel
theorem dL_law_700 : decode code 700 = .ok (.iload 4, 2) := by decide +kernel
theorem dL_law_702 : decode code 702 = .ok (.iconst 1, 1) := by decide +kernel
theorem dL_law_703 : decode code 703 = .ok (.iadd, 1) := by decide +kernel
theorem dL_law_704 : decode code 704 = .ok (.iaload, 1) := by decide +kernel
theorem dL_law_705 : decode code 705 = .ok (.aload_n 3, 1) := by decide +kernel
theorem dL_law_706 : decode code 706 = .ok (.invokestatic 79, 3) := by decide +kernel
theorem dL_law_709 : decode code 709 = .ok (.istore 5, 2) := by decide +kernel
theorem dL_law_711 : decode code 711 = .ok (.aload_n 2, 1) := by decide +kernel
theorem dL_law_712 : decode code 712 = .ok (.aload_n 0, 1) := by decide +kernel
theorem dL_law_713 : decode code 713 = .ok (.iload 4, 2) := by decide +kernel
theorem dL_law_715 : decode code 715 = .ok (.iconst 1, 1) := by decide +kernel
theorem dL_law_716 : decode code 716 = .ok (.iadd, 1) := by decide +kernel
theorem dL_law_717 : decode code 717 = .ok (.iaload, 1) := by decide +kernel
theorem dL_law_718 : decode code 718 = .ok (.invokevirtual 82, 3) := by decide +kernel
theorem dL_law_721 : decode code 721 = .ok (.istore 6, 2) := by decide +kernel
theorem dL_law_723 : decode code 723 = .ok (.goto 146, 3) := by decide +kernel
theorem dL_law_726 : decode code 726 = .ok (.aload_n 1, 1) := by decide +kernel
theorem dL_law_727 : decode code 727 = .ok (.aload_n 0, 1) := by decide +kernel
theorem dL_law_728 : decode code 728 = .ok (.iload 4, 2) := by decide +kernel
theorem dL_law_730 : decode code 730 = .ok (.iconst 1, 1) := by decide +kernel
theorem dL_law_731 : decode code 731 = .ok (.iadd, 1) := by decide +kernel
theorem dL_law_732 : decode code 732 = .ok (.iaload, 1) := by decide +kernel
theorem dL_law_733 : decode code 733 = .ok (.invokevirtual 83, 3) := by decide +kernel
theorem dL_law_736 : decode code 736 = .ok (.pop, 1) := by decide +kernel
theorem dL_law_737 : decode code 737 = .ok (.aload_n 2, 1) := by decide +kernel
theorem dL_law_738 : decode code 738 = .ok (.aload_n 0, 1) := by decide +kernel
theorem dL_law_739 : decode code 739 = .ok (.iload 4, 2) := by decide +kernel
theorem dL_law_741 : decode code 741 = .ok (.iconst 1, 1) := by decide +kernel
theorem dL_law_742 : decode code 742 = .ok (.iadd, 1) := by decide +kernel
theorem dL_law_743 : decode code 743 = .ok (.iaload, 1) := by decide +kernel
theorem dL_law_744 : decode code 744 = .ok (.invokevirtual 87, 3) := by decide +kernel
theorem dL_law_747 : decode code 747 = .ok (.pop, 1) := by decide +kernel
theorem dL_law_748 : decode code 748 = .ok (.goto 121, 3) := by decide +kernel
theorem dL_law_751 : decode code 751 = .ok (.aload_n 1, 1) := by decide +kernel
theorem dL_law_752 : decode code 752 = .ok (.aload_n 0, 1) := by decide +kernel
theorem dL_law_753 : decode code 753 = .ok (.iload 4, 2) := by decide +kernel
theorem dL_law_755 : decode code 755 = .ok (.iconst 1, 1) := by decide +kernel
theorem dL_law_756 : decode code 756 = .ok (.iadd, 1) := by decide +kernel
theorem dL_law_757 : decode code 757 = .ok (.iaload, 1) := by decide +kernel
theorem dL_law_758 : decode code 758 = .ok (.aload_n 0, 1) := by decide +kernel
theorem dL_law_759 : decode code 759 = .ok (.iload 4, 2) := by decide +kernel
theorem dL_law_761 : decode code 761 = .ok (.iconst 2, 1) := by decide +kernel
theorem dL_law_762 : decode code 762 = .ok (.iadd, 1) := by decide +kernel
theorem dL_law_763 : decode code 763 = .ok (.iaload, 1) := by decide +kernel
theorem dL_law_764 : decode code 764 = .ok (.ifCond .eq 7, 3) := by decide +kernel
theorem dL_law_767 : decode code 767 = .ok (.iconst 1, 1) := by decide +kernel
theorem dL_law_768 : decode code 768 = .ok (.goto 4, 3) := by decide +kernel
theorem dL_law_771 : decode code 771 = .ok (.iconst 0, 1) := by decide +kernel
theorem dL_law_772 : decode code 772 = .ok (.invokevirtual 88, 3) := by decide +kernel
theorem dL_law_775 : decode code 775 = .ok (.pop, 1) := by decide +kernel
theorem dL_law_776 : decode code 776 = .ok (.aload_n 2, 1) := by decide +kernel
theorem dL_law_777 : decode code 777 = .ok (.aload_n 0, 1) := by decide +kernel
theorem dL_law_778 : decode code 778 = .ok (.iload 4, 2) := by decide +kernel
theorem dL_law_780 : decode code 780 = .ok (.iconst 1, 1) := by decide +kernel
theorem dL_law_781 : decode code 781 = .ok (.iadd, 1) := by decide +kernel
theorem dL_law_782 : decode code 782 = .ok (.iaload, 1) := by decide +kernel
theorem dL_law_783 : decode code 783 = .ok (.aload_n 0, 1) := by decide +kernel
theorem dL_law_784 : decode code 784 = .ok (.iload 4, 2) := by decide +kernel
theorem dL_law_786 : decode code 786 = .ok (.iconst 2, 1) := by decide +kernel
theorem dL_law_787 : decode code 787 = .ok (.iadd, 1) := by decide +kernel
theorem dL_law_788 : decode code 788 = .ok (.iaload, 1) := by decide +kernel
theorem dL_law_789 : decode code 789 = .ok (.ifCond .eq 7, 3) := by decide +kernel
theorem dL_law_792 : decode code 792 = .ok (.iconst 1, 1) := by decide +kernel
theorem dL_law_793 : decode code 793 = .ok (.goto 4, 3) := by decide +kernel
theorem dL_law_796 : decode code 796 = .ok (.iconst 0, 1) := by decide +kernel
theorem dL_law_797 : decode code 797 = .ok (.invokevirtual 92, 3) := by decide +kernel
theorem dL_law_800 : decode code 800 = .ok (.pop, 1) := by decide +kernel
theorem dL_law_801 : decode code 801 = .ok (.goto 68, 3) := by decide +kernel
theorem dL_law_804 : decode code 804 = .ok (.aload_n 1, 1) := by decide +kernel
theorem dL_law_805 : decode code 805 = .ok (.aload_n 0, 1) := by decide +kernel
theorem dL_law_806 : decode code 806 = .ok (.iload 4, 2) := by decide +kernel
theorem dL_law_808 : decode code 808 = .ok (.iconst 1, 1) := by decide +kernel
theorem dL_law_809 : decode code 809 = .ok (.iadd, 1) := by decide +kernel
theorem dL_law_810 : decode code 810 = .ok (.iaload, 1) := by decide +kernel
theorem dL_law_811 : decode code 811 = .ok (.aload_n 0, 1) := by decide +kernel
theorem dL_law_812 : decode code 812 = .ok (.iload 4, 2) := by decide +kernel
theorem dL_law_814 : decode code 814 = .ok (.iconst 2, 1) := by decide +kernel
theorem dL_law_815 : decode code 815 = .ok (.iadd, 1) := by decide +kernel
theorem dL_law_816 : decode code 816 = .ok (.iaload, 1) := by decide +kernel
theorem dL_law_817 : decode code 817 = .ok (.aload_n 3, 1) := by decide +kernel
theorem dL_law_818 : decode code 818 = .ok (.invokestatic 93, 3) := by decide +kernel
theorem dL_law_821 : decode code 821 = .ok (.istore 5, 2) := by decide +kernel
theorem dL_law_823 : decode code 823 = .ok (.aload_n 2, 1) := by decide +kernel
theorem dL_law_824 : decode code 824 = .ok (.aload_n 0, 1) := by decide +kernel
theorem dL_law_825 : decode code 825 = .ok (.iload 4, 2) := by decide +kernel
theorem dL_law_827 : decode code 827 = .ok (.iconst 1, 1) := by decide +kernel
theorem dL_law_828 : decode code 828 = .ok (.iadd, 1) := by decide +kernel
theorem dL_law_829 : decode code 829 = .ok (.iaload, 1) := by decide +kernel
theorem dL_law_830 : decode code 830 = .ok (.aload_n 0, 1) := by decide +kernel
theorem dL_law_831 : decode code 831 = .ok (.iload 4, 2) := by decide +kernel
theorem dL_law_833 : decode code 833 = .ok (.iconst 2, 1) := by decide +kernel
theorem dL_law_834 : decode code 834 = .ok (.iadd, 1) := by decide +kernel
theorem dL_law_835 : decode code 835 = .ok (.iaload, 1) := by decide +kernel
theorem dL_law_836 : decode code 836 = .ok (.invokevirtual 96, 3) := by decide +kernel
theorem dL_law_839 : decode code 839 = .ok (.istore 6, 2) := by decide +kernel
theorem dL_law_841 : decode code 841 = .ok (.goto 28, 3) := by decide +kernel
theorem dL_law_844 : decode code 844 = .ok (.aload_n 1, 1) := by decide +kernel
theorem dL_law_845 : decode code 845 = .ok (.aload_n 0, 1) := by decide +kernel
theorem dL_law_846 : decode code 846 = .ok (.iload 4, 2) := by decide +kernel
theorem dL_law_848 : decode code 848 = .ok (.iconst 1, 1) := by decide +kernel
theorem dL_law_849 : decode code 849 = .ok (.iadd, 1) := by decide +kernel
theorem dL_law_850 : decode code 850 = .ok (.iaload, 1) := by decide +kernel
theorem dL_law_851 : decode code 851 = .ok (.invokevirtual 97, 3) := by decide +kernel
theorem dL_law_854 : decode code 854 = .ok (.pop, 1) := by decide +kernel
theorem dL_law_855 : decode code 855 = .ok (.aload_n 2, 1) := by decide +kernel
theorem dL_law_856 : decode code 856 = .ok (.aload_n 0, 1) := by decide +kernel
theorem dL_law_857 : decode code 857 = .ok (.iload 4, 2) := by decide +kernel
theorem dL_law_859 : decode code 859 = .ok (.iconst 1, 1) := by decide +kernel
theorem dL_law_860 : decode code 860 = .ok (.iadd, 1) := by decide +kernel
theorem dL_law_861 : decode code 861 = .ok (.iaload, 1) := by decide +kernel
theorem dL_law_862 : decode code 862 = .ok (.invokevirtual 100, 3) := by decide +kernel
theorem dL_law_865 : decode code 865 = .ok (.pop, 1) := by decide +kernel
theorem dL_law_866 : decode code 866 = .ok (.goto 3, 3) := by decide +kernel
theorem dL_law_869 : decode code 869 = .ok (.iinc 4 6, 3) := by decide +kernel
theorem dL_law_872 : decode code 872 = .ok (.goto (-839), 3) := by decide +kernel
theorem dL_law_875 : decode code 875 = .ok (.iconst 1, 1) := by decide +kernel
theorem dL_law_876 : decode code 876 = .ok (.ireturn, 1) := by decide +kernel
theorem gL_M_asked {c0 : Cond} : GoodIn (c0 :: zWords) (wsV RL 87 RM yM_asked wsM_asked) := zgV (zin (by decide +kernel) (by decide +kernel)) (zin (by decide +kernel) (by decide +kernel)) (zin (by decide +kernel) (by decide +kernel)) (zin (by decide +kernel) (by decide +kernel)) (zin (by decide +kernel) (by decide +kernel))
theorem gL_M_compare {c0 : Cond} : GoodIn (c0 :: zWords) (wsV RL 96 RM yM_compare wsM_compare) := zgV (zin (by decide +kernel) (by decide +kernel)) (zin (by decide +kernel) (by decide +kernel)) (zin (by decide +kernel) (by decide +kernel)) (zin (by decide +kernel) (by decide +kernel)) (zin (by decide +kernel) (by decide +kernel))
theorem gL_M_count {c0 : Cond} : GoodIn (c0 :: zWords) (wsV RL 100 RM yM_count wsM_count) := zgV (zin (by decide +kernel) (by decide +kernel)) (zin (by decide +kernel) (by decide +kernel)) (zin (by decide +kernel) (by decide +kernel)) (zin (by decide +kernel) (by decide +kernel)) (zin (by decide +kernel) (by decide +kernel))
theorem gL_M_field {c0 : Cond} : GoodIn (c0 :: zWords) (wsV RL 36 RM yM_field wsM_field) := zgV (zin (by decide +kernel) (by decide +kernel)) (zin (by decide +kernel) (by decide +kernel)) (zin (by decide +kernel) (by decide +kernel)) (zin (by decide +kernel) (by decide +kernel)) (zin (by decide +kernel) (by decide +kernel))
theorem gL_M_more {c0 : Cond} : GoodIn (c0 :: zWords) (wsV RL 73 RM yM_more wsM_more) := zgV (zin (by decide +kernel) (by decide +kernel)) (zin (by decide +kernel) (by decide +kernel)) (zin (by decide +kernel) (by decide +kernel)) (zin (by decide +kernel) (by decide +kernel)) (zin (by decide +kernel) (by decide +kernel))
theorem gL_M_name88 {c0 : Cond} : GoodIn (c0 :: zWords) (wsV RL 60 RM yM_name88 wsM_name88) := zgV (zin (by decide +kernel) (by decide +kernel)) (zin (by decide +kernel) (by decide +kernel)) (zin (by decide +kernel) (by decide +kernel)) (zin (by decide +kernel) (by decide +kernel)) (zin (by decide +kernel) (by decide +kernel))
theorem gL_M_node {c0 : Cond} : GoodIn (c0 :: zWords) (wsV RL 53 RM yM_node wsM_node) := zgV (zin (by decide +kernel) (by decide +kernel)) (zin (by decide +kernel) (by decide +kernel)) (zin (by decide +kernel) (by decide +kernel)) (zin (by decide +kernel) (by decide +kernel)) (zin (by decide +kernel) (by decide +kernel))
theorem gL_M_octet {c0 : Cond} : GoodIn (c0 :: zWords) (wsV RL 41 RM yM_octet wsM_octet) := zgV (zin (by decide +kernel) (by decide +kernel)) (zin (by decide +kernel) (by decide +kernel)) (zin (by decide +kernel) (by decide +kernel)) (zin (by decide +kernel) (by decide +kernel)) (zin (by decide +kernel) (by decide +kernel))
theorem gL_M_range {c0 : Cond} : GoodIn (c0 :: zWords) (wsV RL 64 RM yM_range wsM_range) := zgV (zin (by decide +kernel) (by decide +kernel)) (zin (by decide +kernel) (by decide +kernel)) (zin (by decide +kernel) (by decide +kernel)) (zin (by decide +kernel) (by decide +kernel)) (zin (by decide +kernel) (by decide +kernel))
theorem gL_M_scale {c0 : Cond} : GoodIn (c0 :: zWords) (wsV RL 45 RM yM_scale wsM_scale) := zgV (zin (by decide +kernel) (by decide +kernel)) (zin (by decide +kernel) (by decide +kernel)) (zin (by decide +kernel) (by decide +kernel)) (zin (by decide +kernel) (by decide +kernel)) (zin (by decide +kernel) (by decide +kernel))
theorem gL_M_short0 {c0 : Cond} : GoodIn (c0 :: zWords) (wsV RL 68 RM yM_short0 wsM_short0) := zgV (zin (by decide +kernel) (by decide +kernel)) (zin (by decide +kernel) (by decide +kernel)) (zin (by decide +kernel) (by decide +kernel)) (zin (by decide +kernel) (by decide +kernel)) (zin (by decide +kernel) (by decide +kernel))
theorem gL_M_switchOn {c0 : Cond} : GoodIn (c0 :: zWords) (wsV RL 92 RM yM_switchOn wsM_switchOn) := zgV (zin (by decide +kernel) (by decide +kernel)) (zin (by decide +kernel) (by decide +kernel)) (zin (by decide +kernel) (by decide +kernel)) (zin (by decide +kernel) (by decide +kernel)) (zin (by decide +kernel) (by decide +kernel))
theorem gL_M_truth {c0 : Cond} : GoodIn (c0 :: zWords) (wsV RL 82 RM yM_truth wsM_truth) := zgV (zin (by decide +kernel) (by decide +kernel)) (zin (by decide +kernel) (by decide +kernel)) (zin (by decide +kernel) (by decide +kernel)) (zin (by decide +kernel) (by decide +kernel)) (zin (by decide +kernel) (by decide +kernel))
theorem gL_M_unfold {c0 : Cond} : GoodIn (c0 :: zWords) (wsV RL 78 RM yM_unfold wsM_unfold) := zgV (zin (by decide +kernel) (by decide +kernel)) (zin (by decide +kernel) (by decide +kernel)) (zin (by decide +kernel) (by decide +kernel)) (zin (by decide +kernel) (by decide +kernel)) (zin (by decide +kernel) (by decide +kernel))
theorem gL_M_weight {c0 : Cond} : GoodIn (c0 :: zWords) (wsV RL 49 RM yM_weight wsM_weight) := zgV (zin (by decide +kernel) (by decide +kernel)) (zin (by decide +kernel) (by decide +kernel)) (zin (by decide +kernel) (by decide +kernel)) (zin (by decide +kernel) (by decide +kernel)) (zin (by decide +kernel) (by decide +kernel))
theorem gL_X_asked {c0 : Cond} : GoodIn (c0 :: zWords) (wsV RL 83 RX yX_asked wsX_asked) := zgV (zin (by decide +kernel) (by decide +kernel)) (zin (by decide +kernel) (by decide +kernel)) (zin (by decide +kernel) (by decide +kernel)) (zin (by decide +kernel) (by decide +kernel)) (zin (by decide +kernel) (by decide +kernel))
theorem gL_X_count {c0 : Cond} : GoodIn (c0 :: zWords) (wsV RL 97 RX yX_count wsX_count) := zgV (zin (by decide +kernel) (by decide +kernel)) (zin (by decide +kernel) (by decide +kernel)) (zin (by decide +kernel) (by decide +kernel)) (zin (by decide +kernel) (by decide +kernel)) (zin (by decide +kernel) (by decide +kernel))
theorem gL_X_field {c0 : Cond} : GoodIn (c0 :: zWords) (wsV RL 33 RX yX_field wsX_field) := zgV (zin (by decide +kernel) (by decide +kernel)) (zin (by decide +kernel) (by decide +kernel)) (zin (by decide +kernel) (by decide +kernel)) (zin (by decide +kernel) (by decide +kernel)) (zin (by decide +kernel) (by decide +kernel))
theorem gL_X_more {c0 : Cond} : GoodIn (c0 :: zWords) (wsV RL 69 RX yX_more wsX_more) := zgV (zin (by decide +kernel) (by decide +kernel)) (zin (by decide +kernel) (by decide +kernel)) (zin (by decide +kernel) (by decide +kernel)) (zin (by decide +kernel) (by decide +kernel)) (zin (by decide +kernel) (by decide +kernel))
theorem gL_X_name88 {c0 : Cond} : GoodIn (c0 :: zWords) (wsV RL 56 RX yX_name88 wsX_name88) := zgV (zin (by decide +kernel) (by decide +kernel)) (zin (by decide +kernel) (by decide +kernel)) (zin (by decide +kernel) (by decide +kernel)) (zin (by decide +kernel) (by decide +kernel)) (zin (by decide +kernel) (by decide +kernel))
theorem gL_X_node {c0 : Cond} : GoodIn (c0 :: zWords) (wsV RL 50 RX yX_node wsX_node) := zgV (zin (by decide +kernel) (by decide +kernel)) (zin (by decide +kernel) (by decide +kernel)) (zin (by decide +kernel) (by decide +kernel)) (zin (by decide +kernel) (by decide +kernel)) (zin (by decide +kernel) (by decide +kernel))
theorem gL_X_octet {c0 : Cond} : GoodIn (c0 :: zWords) (wsV RL 37 RX yX_octet wsX_octet) := zgV (zin (by decide +kernel) (by decide +kernel)) (zin (by decide +kernel) (by decide +kernel)) (zin (by decide +kernel) (by decide +kernel)) (zin (by decide +kernel) (by decide +kernel)) (zin (by decide +kernel) (by decide +kernel))
theorem gL_X_range {c0 : Cond} : GoodIn (c0 :: zWords) (wsV RL 61 RX yX_range wsX_range) := zgV (zin (by decide +kernel) (by decide +kernel)) (zin (by decide +kernel) (by decide +kernel)) (zin (by decide +kernel) (by decide +kernel)) (zin (by decide +kernel) (by decide +kernel)) (zin (by decide +kernel) (by decide +kernel))
theorem gL_X_scale {c0 : Cond} : GoodIn (c0 :: zWords) (wsV RL 42 RX yX_scale wsX_scale) := zgV (zin (by decide +kernel) (by decide +kernel)) (zin (by decide +kernel) (by decide +kernel)) (zin (by decide +kernel) (by decide +kernel)) (zin (by decide +kernel) (by decide +kernel)) (zin (by decide +kernel) (by decide +kernel))
theorem gL_X_short0 {c0 : Cond} : GoodIn (c0 :: zWords) (wsV RL 65 RX yX_short0 wsX_short0) := zgV (zin (by decide +kernel) (by decide +kernel)) (zin (by decide +kernel) (by decide +kernel)) (zin (by decide +kernel) (by decide +kernel)) (zin (by decide +kernel) (by decide +kernel)) (zin (by decide +kernel) (by decide +kernel))
theorem gL_X_switchOn {c0 : Cond} : GoodIn (c0 :: zWords) (wsV RL 88 RX yX_switchOn wsX_switchOn) := zgV (zin (by decide +kernel) (by decide +kernel)) (zin (by decide +kernel) (by decide +kernel)) (zin (by decide +kernel) (by decide +kernel)) (zin (by decide +kernel) (by decide +kernel)) (zin (by decide +kernel) (by decide +kernel))
theorem gL_X_unfold {c0 : Cond} : GoodIn (c0 :: zWords) (wsV RL 74 RX yX_unfold wsX_unfold) := zgV (zin (by decide +kernel) (by decide +kernel)) (zin (by decide +kernel) (by decide +kernel)) (zin (by decide +kernel) (by decide +kernel)) (zin (by decide +kernel) (by decide +kernel)) (zin (by decide +kernel) (by decide +kernel))
theorem gL_X_weight {c0 : Cond} : GoodIn (c0 :: zWords) (wsV RL 46 RX yX_weight wsX_weight) := zgV (zin (by decide +kernel) (by decide +kernel)) (zin (by decide +kernel) (by decide +kernel)) (zin (by decide +kernel) (by decide +kernel)) (zin (by decide +kernel) (by decide +kernel)) (zin (by decide +kernel) (by decide +kernel))
section LG
variable {p : Program} {l : Launch} {e : Env} {s : State} {m : MethodId} {below : List Frame} {meth : Method} {c : Code} {H : Heap} {locs : List Loc} {cells slots : Nat} {Q : State → Prop} {ls : Array Slot}
variable {D : va_G} {k : zK} {a b : Nat → Nat} {o b0 L : Nat} {xs : Nat → Int32} {i : Int32} {u : XS} {v : MS} {f : Nat → Int64}
set_option maxHeartbeats 4000000 in
theorem lc0 (E : lEnv p l s m meth c b0 L xs D k a b o) (h1 : 1 ≤ i.toInt) (h2 : i.toInt + 6 ≤ (L : Int)) (hr : pRel u v) (hP : lP D k a b o u v f H) (hS : va_S (lA s.heap.size) s.heap H locs) (hl : lv_has ls 7 [(4, .int i), (0, .ref b0), (1, .ref (a 0)), (2, .ref (b 0)), (3, .ref o)]) (hc : cells + 1 ≤ 1080) (hs : slots + 6 ≤ 15978) (K : lK p l e s m below meth c D k a b o b0 i cells slots Q) : W p l e room_1 s m #[Value.ref b0] below meth c H locs cells slots Q (F0 m 124 ls []) := by
  obtain ⟨hx, hb, hret, hml, hown, hts, hX, hbl, hlocks, hfl, hEx, hEm, hXx, hN, C, hL⟩ := E
  have hbA : ¬ lA s.heap.size b0 := fun z => absurd hbl (Nat.not_lt.mpr z)
  obtain ⟨i0, i1, i2, i3, i4, i5⟩ := lin h1 h2 hL
  refine lv_aload_n hx hb dL_law_124 rfl (lv_at hl 2 rfl) ?_
  refine lv_aload_n hx hb dL_law_125 rfl (lv_at hl 1 rfl) ?_
  refine lv_iload hx hb dL_law_126 (lv_at hl 0 rfl) ?_
  refine lv_iconst (v := 1) hx hb dL_law_128 (by decide) ?_
  refine lv_iadd hx hb dL_law_129 ?_
  refine va_sld hx hb hX hbl hbA hS i1 dL_law_130 ?_
  refine lv_aload_n hx hb dL_law_131 rfl (lv_at hl 1 rfl) ?_
  refine lv_iload hx hb dL_law_132 (lv_at hl 0 rfl) ?_
  refine lv_iconst (v := 2) hx hb dL_law_134 (by decide) ?_
  refine lv_iadd hx hb dL_law_135 ?_
  refine va_sld hx hb hX hbl hbA hS i2 dL_law_136 ?_
  obtain ⟨g1, g2, g3, g4⟩ := P_field hr (xs (i + 1).toNatClampNeg) (xs (i + 2).toNatClampNeg)
  refine lXi (W.runV (As := [.int (xs (i + 1).toNatClampNeg), .int (xs (i + 2).toNatClampNeg)]) (rest := []) ⟨hx, hb, hml, hown, hts⟩ (tX_field l C.1 u (xs (i + 1).toNatClampNeg) (xs (i + 2).toNatClampNeg) g1) (cwV 2 hts gL_X_field rfl rfl rfl (by decide +kernel) ⟨(Nat.le_of_ble_eq_true rfl), (Nat.le_of_ble_eq_true rfl)⟩) (zpre hP.1 hEx (fun q h9 _ => hS.2.1 q h9 (Nat.not_le.mpr h9)) (va_recv hEx.1 hP.1 (ci := 0) (q0 := 0) rfl rfl)) rfl rfl hl.1 rfl (lv_room (Nat.le_of_ble_eq_true rfl)) dL_law_137 ⟨by show _ ≤ 1080; omega, by show _ ≤ 15978; omega⟩) hS hP C (fun H locs hP hS => ?_)
  refine lv_pop hx hb dL_law_140 rfl ?_
  refine lv_aload_n hx hb dL_law_141 rfl (lv_at hl 3 rfl) ?_
  refine lv_aload_n hx hb dL_law_142 rfl (lv_at hl 1 rfl) ?_
  refine lv_iload hx hb dL_law_143 (lv_at hl 0 rfl) ?_
  refine lv_iconst (v := 1) hx hb dL_law_145 (by decide) ?_
  refine lv_iadd hx hb dL_law_146 ?_
  refine va_sld hx hb hX hbl hbA hS i1 dL_law_147 ?_
  refine lv_aload_n hx hb dL_law_148 rfl (lv_at hl 1 rfl) ?_
  refine lv_iload hx hb dL_law_149 (lv_at hl 0 rfl) ?_
  refine lv_iconst (v := 2) hx hb dL_law_151 (by decide) ?_
  refine lv_iadd hx hb dL_law_152 ?_
  refine va_sld hx hb hX hbl hbA hS i2 dL_law_153 ?_
  refine lMi (W.runV (As := [.int (xs (i + 1).toNatClampNeg), .int (xs (i + 2).toNatClampNeg)]) (rest := []) ⟨hx, hb, hml, hown, hts⟩ (tM_field l C.2.1 v (xs (i + 1).toNatClampNeg) (xs (i + 2).toNatClampNeg) g2) (cwV 2 hts gL_M_field rfl rfl rfl (by decide +kernel) ⟨(Nat.le_of_ble_eq_true rfl), (Nat.le_of_ble_eq_true rfl)⟩) (zpre hP.2.1 hEm (fun q h9 _ => hS.2.1 q h9 (Nat.not_le.mpr h9)) (va_recv hEm.1 hP.2.1 (ci := 7) (q0 := 0) rfl rfl)) rfl rfl hl.1 rfl (lv_room (Nat.le_of_ble_eq_true rfl)) dL_law_154 ⟨by show _ ≤ 1080; omega, by show _ ≤ 15978; omega⟩) hS hP C (fun H locs hP hS => ?_)
  refine lv_pop hx hb dL_law_157 rfl ?_
  refine lv_goto (tgt := 869) hx hb dL_law_158 (by decide) ?_
  exact K _ _ _ _ _ _ _ _ g4 hP hS hl (by omega) (by omega)
set_option maxHeartbeats 4000000 in
theorem lc1 (E : lEnv p l s m meth c b0 L xs D k a b o) (h1 : 1 ≤ i.toInt) (h2 : i.toInt + 6 ≤ (L : Int)) (hr : pRel u v) (hP : lP D k a b o u v f H) (hS : va_S (lA s.heap.size) s.heap H locs) (hl : lv_has ls 7 [(4, .int i), (0, .ref b0), (1, .ref (a 0)), (2, .ref (b 0)), (3, .ref o)]) (hc : cells + 1 ≤ 1080) (hs : slots + 6 ≤ 15978) (K : lK p l e s m below meth c D k a b o b0 i cells slots Q) : W p l e room_1 s m #[Value.ref b0] below meth c H locs cells slots Q (F0 m 161 ls []) := by
  obtain ⟨hx, hb, hret, hml, hown, hts, hX, hbl, hlocks, hfl, hEx, hEm, hXx, hN, C, hL⟩ := E
  have hbA : ¬ lA s.heap.size b0 := fun z => absurd hbl (Nat.not_lt.mpr z)
  obtain ⟨i0, i1, i2, i3, i4, i5⟩ := lin h1 h2 hL
  refine lv_aload_n hx hb dL_law_161 rfl (lv_at hl 2 rfl) ?_
  refine lv_aload_n hx hb dL_law_162 rfl (lv_at hl 1 rfl) ?_
  refine lv_iload hx hb dL_law_163 (lv_at hl 0 rfl) ?_
  refine lv_iconst (v := 1) hx hb dL_law_165 (by decide) ?_
  refine lv_iadd hx hb dL_law_166 ?_
  refine va_sld hx hb hX hbl hbA hS i1 dL_law_167 ?_
  refine lv_aload_n hx hb dL_law_168 rfl (lv_at hl 1 rfl) ?_
  refine lv_iload hx hb dL_law_169 (lv_at hl 0 rfl) ?_
  refine lv_iconst (v := 2) hx hb dL_law_171 (by decide) ?_
  refine lv_iadd hx hb dL_law_172 ?_
  refine va_sld hx hb hX hbl hbA hS i2 dL_law_173 ?_
  refine lv_aload_n hx hb dL_law_174 rfl (lv_at hl 1 rfl) ?_
  refine lv_iload hx hb dL_law_175 (lv_at hl 0 rfl) ?_
  refine lv_iconst (v := 3) hx hb dL_law_177 (by decide) ?_
  refine lv_iadd hx hb dL_law_178 ?_
  refine va_sld hx hb hX hbl hbA hS i3 dL_law_179 ?_
  obtain ⟨g1, g2, g3, g4⟩ := P_octet hr (xs (i + 1).toNatClampNeg) (xs (i + 2).toNatClampNeg) (xs (i + 3).toNatClampNeg)
  refine lXi (W.runV (As := [.int (xs (i + 1).toNatClampNeg), .int (xs (i + 2).toNatClampNeg), .int (xs (i + 3).toNatClampNeg)]) (rest := []) ⟨hx, hb, hml, hown, hts⟩ (tX_octet l C.1 u (xs (i + 1).toNatClampNeg) (xs (i + 2).toNatClampNeg) (xs (i + 3).toNatClampNeg) g1) (cwV 3 hts gL_X_octet rfl rfl rfl (by decide +kernel) ⟨(Nat.le_of_ble_eq_true rfl), (Nat.le_of_ble_eq_true rfl)⟩) (zpre hP.1 hEx (fun q h9 _ => hS.2.1 q h9 (Nat.not_le.mpr h9)) (va_recv hEx.1 hP.1 (ci := 0) (q0 := 0) rfl rfl)) rfl rfl hl.1 rfl (lv_room (Nat.le_of_ble_eq_true rfl)) dL_law_180 ⟨by show _ ≤ 1080; omega, by show _ ≤ 15978; omega⟩) hS hP C (fun H locs hP hS => ?_)
  refine lv_pop hx hb dL_law_183 rfl ?_
  refine lv_aload_n hx hb dL_law_184 rfl (lv_at hl 3 rfl) ?_
  refine lv_aload_n hx hb dL_law_185 rfl (lv_at hl 1 rfl) ?_
  refine lv_iload hx hb dL_law_186 (lv_at hl 0 rfl) ?_
  refine lv_iconst (v := 1) hx hb dL_law_188 (by decide) ?_
  refine lv_iadd hx hb dL_law_189 ?_
  refine va_sld hx hb hX hbl hbA hS i1 dL_law_190 ?_
  refine lv_aload_n hx hb dL_law_191 rfl (lv_at hl 1 rfl) ?_
  refine lv_iload hx hb dL_law_192 (lv_at hl 0 rfl) ?_
  refine lv_iconst (v := 2) hx hb dL_law_194 (by decide) ?_
  refine lv_iadd hx hb dL_law_195 ?_
  refine va_sld hx hb hX hbl hbA hS i2 dL_law_196 ?_
  refine lv_aload_n hx hb dL_law_197 rfl (lv_at hl 1 rfl) ?_
  refine lv_iload hx hb dL_law_198 (lv_at hl 0 rfl) ?_
  refine lv_iconst (v := 3) hx hb dL_law_200 (by decide) ?_
  refine lv_iadd hx hb dL_law_201 ?_
  refine va_sld hx hb hX hbl hbA hS i3 dL_law_202 ?_
  refine lMi (W.runV (As := [.int (xs (i + 1).toNatClampNeg), .int (xs (i + 2).toNatClampNeg), .int (xs (i + 3).toNatClampNeg)]) (rest := []) ⟨hx, hb, hml, hown, hts⟩ (tM_octet l C.2.1 v (xs (i + 1).toNatClampNeg) (xs (i + 2).toNatClampNeg) (xs (i + 3).toNatClampNeg) g2) (cwV 3 hts gL_M_octet rfl rfl rfl (by decide +kernel) ⟨(Nat.le_of_ble_eq_true rfl), (Nat.le_of_ble_eq_true rfl)⟩) (zpre hP.2.1 hEm (fun q h9 _ => hS.2.1 q h9 (Nat.not_le.mpr h9)) (va_recv hEm.1 hP.2.1 (ci := 7) (q0 := 0) rfl rfl)) rfl rfl hl.1 rfl (lv_room (Nat.le_of_ble_eq_true rfl)) dL_law_203 ⟨by show _ ≤ 1080; omega, by show _ ≤ 15978; omega⟩) hS hP C (fun H locs hP hS => ?_)
  refine lv_pop hx hb dL_law_206 rfl ?_
  refine lv_goto (tgt := 869) hx hb dL_law_207 (by decide) ?_
  exact K _ _ _ _ _ _ _ _ g4 hP hS hl (by omega) (by omega)
set_option maxHeartbeats 4000000 in
theorem lc2 (E : lEnv p l s m meth c b0 L xs D k a b o) (h1 : 1 ≤ i.toInt) (h2 : i.toInt + 6 ≤ (L : Int)) (hr : pRel u v) (hP : lP D k a b o u v f H) (hS : va_S (lA s.heap.size) s.heap H locs) (hl : lv_has ls 7 [(4, .int i), (0, .ref b0), (1, .ref (a 0)), (2, .ref (b 0)), (3, .ref o)]) (hc : cells + 1 ≤ 1080) (hs : slots + 6 ≤ 15978) (K : lK p l e s m below meth c D k a b o b0 i cells slots Q) : W p l e room_1 s m #[Value.ref b0] below meth c H locs cells slots Q (F0 m 210 ls []) := by
  obtain ⟨hx, hb, hret, hml, hown, hts, hX, hbl, hlocks, hfl, hEx, hEm, hXx, hN, C, hL⟩ := E
  have hbA : ¬ lA s.heap.size b0 := fun z => absurd hbl (Nat.not_lt.mpr z)
  obtain ⟨i0, i1, i2, i3, i4, i5⟩ := lin h1 h2 hL
  refine lv_aload_n hx hb dL_law_210 rfl (lv_at hl 2 rfl) ?_
  refine lv_aload_n hx hb dL_law_211 rfl (lv_at hl 1 rfl) ?_
  refine lv_iload hx hb dL_law_212 (lv_at hl 0 rfl) ?_
  refine lv_iconst (v := 1) hx hb dL_law_214 (by decide) ?_
  refine lv_iadd hx hb dL_law_215 ?_
  refine va_sld hx hb hX hbl hbA hS i1 dL_law_216 ?_
  refine lv_aload_n hx hb dL_law_217 rfl (lv_at hl 1 rfl) ?_
  refine lv_iload hx hb dL_law_218 (lv_at hl 0 rfl) ?_
  refine lv_iconst (v := 2) hx hb dL_law_220 (by decide) ?_
  refine lv_iadd hx hb dL_law_221 ?_
  refine va_sld hx hb hX hbl hbA hS i2 dL_law_222 ?_
  obtain ⟨g1, g2, g3, g4⟩ := P_scale hr (xs (i + 1).toNatClampNeg) (xs (i + 2).toNatClampNeg)
  refine lXi (W.runV (As := [.int (xs (i + 1).toNatClampNeg), .int (xs (i + 2).toNatClampNeg)]) (rest := []) ⟨hx, hb, hml, hown, hts⟩ (tX_scale l C.1 u (xs (i + 1).toNatClampNeg) (xs (i + 2).toNatClampNeg) g1) (cwV 2 hts gL_X_scale rfl rfl rfl (by decide +kernel) ⟨(Nat.le_of_ble_eq_true rfl), (Nat.le_of_ble_eq_true rfl)⟩) (zpre hP.1 hEx (fun q h9 _ => hS.2.1 q h9 (Nat.not_le.mpr h9)) (va_recv hEx.1 hP.1 (ci := 0) (q0 := 0) rfl rfl)) rfl rfl hl.1 rfl (lv_room (Nat.le_of_ble_eq_true rfl)) dL_law_223 ⟨by show _ ≤ 1080; omega, by show _ ≤ 15978; omega⟩) hS hP C (fun H locs hP hS => ?_)
  refine lv_pop hx hb dL_law_226 rfl ?_
  refine lv_aload_n hx hb dL_law_227 rfl (lv_at hl 3 rfl) ?_
  refine lv_aload_n hx hb dL_law_228 rfl (lv_at hl 1 rfl) ?_
  refine lv_iload hx hb dL_law_229 (lv_at hl 0 rfl) ?_
  refine lv_iconst (v := 1) hx hb dL_law_231 (by decide) ?_
  refine lv_iadd hx hb dL_law_232 ?_
  refine va_sld hx hb hX hbl hbA hS i1 dL_law_233 ?_
  refine lv_aload_n hx hb dL_law_234 rfl (lv_at hl 1 rfl) ?_
  refine lv_iload hx hb dL_law_235 (lv_at hl 0 rfl) ?_
  refine lv_iconst (v := 2) hx hb dL_law_237 (by decide) ?_
  refine lv_iadd hx hb dL_law_238 ?_
  refine va_sld hx hb hX hbl hbA hS i2 dL_law_239 ?_
  refine lMi (W.runV (As := [.int (xs (i + 1).toNatClampNeg), .int (xs (i + 2).toNatClampNeg)]) (rest := []) ⟨hx, hb, hml, hown, hts⟩ (tM_scale l C.2.1 v (xs (i + 1).toNatClampNeg) (xs (i + 2).toNatClampNeg) g2) (cwV 2 hts gL_M_scale rfl rfl rfl (by decide +kernel) ⟨(Nat.le_of_ble_eq_true rfl), (Nat.le_of_ble_eq_true rfl)⟩) (zpre hP.2.1 hEm (fun q h9 _ => hS.2.1 q h9 (Nat.not_le.mpr h9)) (va_recv hEm.1 hP.2.1 (ci := 7) (q0 := 0) rfl rfl)) rfl rfl hl.1 rfl (lv_room (Nat.le_of_ble_eq_true rfl)) dL_law_240 ⟨by show _ ≤ 1080; omega, by show _ ≤ 15978; omega⟩) hS hP C (fun H locs hP hS => ?_)
  refine lv_pop hx hb dL_law_243 rfl ?_
  refine lv_goto (tgt := 869) hx hb dL_law_244 (by decide) ?_
  exact K _ _ _ _ _ _ _ _ g4 hP hS hl (by omega) (by omega)
set_option maxHeartbeats 4000000 in
theorem lc3 (E : lEnv p l s m meth c b0 L xs D k a b o) (h1 : 1 ≤ i.toInt) (h2 : i.toInt + 6 ≤ (L : Int)) (hr : pRel u v) (hP : lP D k a b o u v f H) (hS : va_S (lA s.heap.size) s.heap H locs) (hl : lv_has ls 7 [(4, .int i), (0, .ref b0), (1, .ref (a 0)), (2, .ref (b 0)), (3, .ref o)]) (hc : cells + 1 ≤ 1080) (hs : slots + 6 ≤ 15978) (K : lK p l e s m below meth c D k a b o b0 i cells slots Q) : W p l e room_1 s m #[Value.ref b0] below meth c H locs cells slots Q (F0 m 247 ls []) := by
  obtain ⟨hx, hb, hret, hml, hown, hts, hX, hbl, hlocks, hfl, hEx, hEm, hXx, hN, C, hL⟩ := E
  have hbA : ¬ lA s.heap.size b0 := fun z => absurd hbl (Nat.not_lt.mpr z)
  obtain ⟨i0, i1, i2, i3, i4, i5⟩ := lin h1 h2 hL
  refine lv_aload_n hx hb dL_law_247 rfl (lv_at hl 2 rfl) ?_
  refine lv_aload_n hx hb dL_law_248 rfl (lv_at hl 1 rfl) ?_
  refine lv_iload hx hb dL_law_249 (lv_at hl 0 rfl) ?_
  refine lv_iconst (v := 1) hx hb dL_law_251 (by decide) ?_
  refine lv_iadd hx hb dL_law_252 ?_
  refine va_sld hx hb hX hbl hbA hS i1 dL_law_253 ?_
  refine lv_aload_n hx hb dL_law_254 rfl (lv_at hl 1 rfl) ?_
  refine lv_iload hx hb dL_law_255 (lv_at hl 0 rfl) ?_
  refine lv_iconst (v := 2) hx hb dL_law_257 (by decide) ?_
  refine lv_iadd hx hb dL_law_258 ?_
  refine va_sld hx hb hX hbl hbA hS i2 dL_law_259 ?_
  obtain ⟨g1, g2, g3, g4⟩ := P_weight hr (xs (i + 1).toNatClampNeg) (xs (i + 2).toNatClampNeg)
  refine lXi (W.runV (As := [.int (xs (i + 1).toNatClampNeg), .int (xs (i + 2).toNatClampNeg)]) (rest := []) ⟨hx, hb, hml, hown, hts⟩ (tX_weight l C.1 u (xs (i + 1).toNatClampNeg) (xs (i + 2).toNatClampNeg) g1) (cwV 2 hts gL_X_weight rfl rfl rfl (by decide +kernel) ⟨(Nat.le_of_ble_eq_true rfl), (Nat.le_of_ble_eq_true rfl)⟩) (zpre hP.1 hEx (fun q h9 _ => hS.2.1 q h9 (Nat.not_le.mpr h9)) (va_recv hEx.1 hP.1 (ci := 0) (q0 := 0) rfl rfl)) rfl rfl hl.1 rfl (lv_room (Nat.le_of_ble_eq_true rfl)) dL_law_260 ⟨by show _ ≤ 1080; omega, by show _ ≤ 15978; omega⟩) hS hP C (fun H locs hP hS => ?_)
  refine lv_pop hx hb dL_law_263 rfl ?_
  refine lv_aload_n hx hb dL_law_264 rfl (lv_at hl 3 rfl) ?_
  refine lv_aload_n hx hb dL_law_265 rfl (lv_at hl 1 rfl) ?_
  refine lv_iload hx hb dL_law_266 (lv_at hl 0 rfl) ?_
  refine lv_iconst (v := 1) hx hb dL_law_268 (by decide) ?_
  refine lv_iadd hx hb dL_law_269 ?_
  refine va_sld hx hb hX hbl hbA hS i1 dL_law_270 ?_
  refine lv_aload_n hx hb dL_law_271 rfl (lv_at hl 1 rfl) ?_
  refine lv_iload hx hb dL_law_272 (lv_at hl 0 rfl) ?_
  refine lv_iconst (v := 2) hx hb dL_law_274 (by decide) ?_
  refine lv_iadd hx hb dL_law_275 ?_
  refine va_sld hx hb hX hbl hbA hS i2 dL_law_276 ?_
  refine lMi (W.runV (As := [.int (xs (i + 1).toNatClampNeg), .int (xs (i + 2).toNatClampNeg)]) (rest := []) ⟨hx, hb, hml, hown, hts⟩ (tM_weight l C.2.1 v (xs (i + 1).toNatClampNeg) (xs (i + 2).toNatClampNeg) g2) (cwV 2 hts gL_M_weight rfl rfl rfl (by decide +kernel) ⟨(Nat.le_of_ble_eq_true rfl), (Nat.le_of_ble_eq_true rfl)⟩) (zpre hP.2.1 hEm (fun q h9 _ => hS.2.1 q h9 (Nat.not_le.mpr h9)) (va_recv hEm.1 hP.2.1 (ci := 7) (q0 := 0) rfl rfl)) rfl rfl hl.1 rfl (lv_room (Nat.le_of_ble_eq_true rfl)) dL_law_277 ⟨by show _ ≤ 1080; omega, by show _ ≤ 15978; omega⟩) hS hP C (fun H locs hP hS => ?_)
  refine lv_pop hx hb dL_law_280 rfl ?_
  refine lv_goto (tgt := 869) hx hb dL_law_281 (by decide) ?_
  exact K _ _ _ _ _ _ _ _ g4 hP hS hl (by omega) (by omega)
set_option maxHeartbeats 4000000 in
theorem lc4 (E : lEnv p l s m meth c b0 L xs D k a b o) (h1 : 1 ≤ i.toInt) (h2 : i.toInt + 6 ≤ (L : Int)) (hr : pRel u v) (hP : lP D k a b o u v f H) (hS : va_S (lA s.heap.size) s.heap H locs) (hl : lv_has ls 7 [(4, .int i), (0, .ref b0), (1, .ref (a 0)), (2, .ref (b 0)), (3, .ref o)]) (hc : cells + 1 ≤ 1080) (hs : slots + 6 ≤ 15978) (K : lK p l e s m below meth c D k a b o b0 i cells slots Q) : W p l e room_1 s m #[Value.ref b0] below meth c H locs cells slots Q (F0 m 284 ls []) := by
  obtain ⟨hx, hb, hret, hml, hown, hts, hX, hbl, hlocks, hfl, hEx, hEm, hXx, hN, C, hL⟩ := E
  have hbA : ¬ lA s.heap.size b0 := fun z => absurd hbl (Nat.not_lt.mpr z)
  obtain ⟨i0, i1, i2, i3, i4, i5⟩ := lin h1 h2 hL
  refine lv_aload_n hx hb dL_law_284 rfl (lv_at hl 2 rfl) ?_
  refine lv_aload_n hx hb dL_law_285 rfl (lv_at hl 1 rfl) ?_
  refine lv_iload hx hb dL_law_286 (lv_at hl 0 rfl) ?_
  refine lv_iconst (v := 1) hx hb dL_law_288 (by decide) ?_
  refine lv_iadd hx hb dL_law_289 ?_
  refine va_sld hx hb hX hbl hbA hS i1 dL_law_290 ?_
  refine lv_aload_n hx hb dL_law_291 rfl (lv_at hl 1 rfl) ?_
  refine lv_iload hx hb dL_law_292 (lv_at hl 0 rfl) ?_
  refine lv_iconst (v := 2) hx hb dL_law_294 (by decide) ?_
  refine lv_iadd hx hb dL_law_295 ?_
  refine va_sld hx hb hX hbl hbA hS i2 dL_law_296 ?_
  refine lv_aload_n hx hb dL_law_297 rfl (lv_at hl 1 rfl) ?_
  refine lv_iload hx hb dL_law_298 (lv_at hl 0 rfl) ?_
  refine lv_iconst (v := 3) hx hb dL_law_300 (by decide) ?_
  refine lv_iadd hx hb dL_law_301 ?_
  refine va_sld hx hb hX hbl hbA hS i3 dL_law_302 ?_
  obtain ⟨g1, g2, g3, g4⟩ := P_node hr (xs (i + 1).toNatClampNeg) (xs (i + 2).toNatClampNeg) (xs (i + 3).toNatClampNeg)
  refine lXi (W.runV (As := [.int (xs (i + 1).toNatClampNeg), .int (xs (i + 2).toNatClampNeg), .int (xs (i + 3).toNatClampNeg)]) (rest := []) ⟨hx, hb, hml, hown, hts⟩ (tX_node l C.1 u (xs (i + 1).toNatClampNeg) (xs (i + 2).toNatClampNeg) (xs (i + 3).toNatClampNeg) g1) (cwV 3 hts gL_X_node rfl rfl rfl (by decide +kernel) ⟨(Nat.le_of_ble_eq_true rfl), (Nat.le_of_ble_eq_true rfl)⟩) (zpre hP.1 hEx (fun q h9 _ => hS.2.1 q h9 (Nat.not_le.mpr h9)) (va_recv hEx.1 hP.1 (ci := 0) (q0 := 0) rfl rfl)) rfl rfl hl.1 rfl (lv_room (Nat.le_of_ble_eq_true rfl)) dL_law_303 ⟨by show _ ≤ 1080; omega, by show _ ≤ 15978; omega⟩) hS hP C (fun H locs hP hS => ?_)
  refine lv_aload_n hx hb dL_law_306 rfl (lv_at hl 3 rfl) ?_
  refine lv_aload_n hx hb dL_law_307 rfl (lv_at hl 1 rfl) ?_
  refine lv_iload hx hb dL_law_308 (lv_at hl 0 rfl) ?_
  refine lv_iconst (v := 1) hx hb dL_law_310 (by decide) ?_
  refine lv_iadd hx hb dL_law_311 ?_
  refine va_sld hx hb hX hbl hbA hS i1 dL_law_312 ?_
  refine lv_aload_n hx hb dL_law_313 rfl (lv_at hl 1 rfl) ?_
  refine lv_iload hx hb dL_law_314 (lv_at hl 0 rfl) ?_
  refine lv_iconst (v := 2) hx hb dL_law_316 (by decide) ?_
  refine lv_iadd hx hb dL_law_317 ?_
  refine va_sld hx hb hX hbl hbA hS i2 dL_law_318 ?_
  refine lv_aload_n hx hb dL_law_319 rfl (lv_at hl 1 rfl) ?_
  refine lv_iload hx hb dL_law_320 (lv_at hl 0 rfl) ?_
  refine lv_iconst (v := 3) hx hb dL_law_322 (by decide) ?_
  refine lv_iadd hx hb dL_law_323 ?_
  refine va_sld hx hb hX hbl hbA hS i3 dL_law_324 ?_
  refine lMi (W.runV (As := [.int (xs (i + 1).toNatClampNeg), .int (xs (i + 2).toNatClampNeg), .int (xs (i + 3).toNatClampNeg)]) (rest := [.int (FX_node u (xs (i + 1).toNatClampNeg) (xs (i + 2).toNatClampNeg) (xs (i + 3).toNatClampNeg)).1]) ⟨hx, hb, hml, hown, hts⟩ (tM_node l C.2.1 v (xs (i + 1).toNatClampNeg) (xs (i + 2).toNatClampNeg) (xs (i + 3).toNatClampNeg) g2) (cwV 3 hts gL_M_node rfl rfl rfl (by decide +kernel) ⟨(Nat.le_of_ble_eq_true rfl), (Nat.le_of_ble_eq_true rfl)⟩) (zpre hP.2.1 hEm (fun q h9 _ => hS.2.1 q h9 (Nat.not_le.mpr h9)) (va_recv hEm.1 hP.2.1 (ci := 7) (q0 := 0) rfl rfl)) rfl rfl hl.1 rfl (lv_room (Nat.le_of_ble_eq_true rfl)) dL_law_325 ⟨by show _ ≤ 1080; omega, by show _ ≤ 15978; omega⟩) hS hP C (fun H locs hP hS => ?_)
  refine lv_icmp_eq (tgt := 869) hx hb dL_law_328 (by decide) (fun c1 => ?_) (fun c1 => by first | exact absurd g3 c1 | exact absurd g3.symm c1)
  exact K _ _ _ _ _ _ _ _ g4 hP hS hl (by omega) (by omega)
set_option maxHeartbeats 4000000 in
theorem lc5 (E : lEnv p l s m meth c b0 L xs D k a b o) (h1 : 1 ≤ i.toInt) (h2 : i.toInt + 6 ≤ (L : Int)) (hr : pRel u v) (hP : lP D k a b o u v f H) (hS : va_S (lA s.heap.size) s.heap H locs) (hl : lv_has ls 7 [(4, .int i), (0, .ref b0), (1, .ref (a 0)), (2, .ref (b 0)), (3, .ref o)]) (hc : cells + 1 ≤ 1080) (hs : slots + 6 ≤ 15978) (K : lK p l e s m below meth c D k a b o b0 i cells slots Q) : W p l e room_1 s m #[Value.ref b0] below meth c H locs cells slots Q (F0 m 333 ls []) := by
  obtain ⟨hx, hb, hret, hml, hown, hts, hX, hbl, hlocks, hfl, hEx, hEm, hXx, hN, C, hL⟩ := E
  have hbA : ¬ lA s.heap.size b0 := fun z => absurd hbl (Nat.not_lt.mpr z)
  obtain ⟨i0, i1, i2, i3, i4, i5⟩ := lin h1 h2 hL
  refine lv_aload_n hx hb dL_law_333 rfl (lv_at hl 2 rfl) ?_
  refine lv_aload_n hx hb dL_law_334 rfl (lv_at hl 1 rfl) ?_
  refine lv_iload hx hb dL_law_335 (lv_at hl 0 rfl) ?_
  refine lv_iconst (v := 1) hx hb dL_law_337 (by decide) ?_
  refine lv_iadd hx hb dL_law_338 ?_
  refine va_sld hx hb hX hbl hbA hS i1 dL_law_339 ?_
  refine lv_aload_n hx hb dL_law_340 rfl (lv_at hl 1 rfl) ?_
  refine lv_iload hx hb dL_law_341 (lv_at hl 0 rfl) ?_
  refine lv_iconst (v := 2) hx hb dL_law_343 (by decide) ?_
  refine lv_iadd hx hb dL_law_344 ?_
  refine va_sld hx hb hX hbl hbA hS i2 dL_law_345 ?_
  refine lv_i2l (v := ((xs (i + 2).toNatClampNeg) : Int32).toInt64) hx hb dL_law_346 rfl ?_
  refine lv_bipush (v := 32) hx hb dL_law_347 (by decide) ?_
  refine lv_lshl (v := ((((xs (i + 2).toNatClampNeg) : Int32).toInt64) <<< ((32 : Int32).toInt64 &&& 63))) hx hb dL_law_349 rfl ?_
  refine lv_aload_n hx hb dL_law_350 rfl (lv_at hl 1 rfl) ?_
  refine lv_iload hx hb dL_law_351 (lv_at hl 0 rfl) ?_
  refine lv_iconst (v := 3) hx hb dL_law_353 (by decide) ?_
  refine lv_iadd hx hb dL_law_354 ?_
  refine va_sld hx hb hX hbl hbA hS i3 dL_law_355 ?_
  refine lv_i2l (v := ((xs (i + 3).toNatClampNeg) : Int32).toInt64) hx hb dL_law_356 rfl ?_
  refine lv_ldc2 (v := 4294967295) hx hb hown (hts _ (zc (zin (by decide +kernel) (by decide +kernel)))) dL_law_357 ?_
  refine lv_land hx hb dL_law_360 ?_
  refine lv_lor hx hb dL_law_361 ?_
  refine lv_aload_n hx hb dL_law_362 rfl (lv_at hl 1 rfl) ?_
  refine lv_iload hx hb dL_law_363 (lv_at hl 0 rfl) ?_
  refine lv_iconst (v := 4) hx hb dL_law_365 (by decide) ?_
  refine lv_iadd hx hb dL_law_366 ?_
  refine va_sld hx hb hX hbl hbA hS i4 dL_law_367 ?_
  refine lv_i2l (v := ((xs (i + 4).toNatClampNeg) : Int32).toInt64) hx hb dL_law_368 rfl ?_
  refine lv_bipush (v := 32) hx hb dL_law_369 (by decide) ?_
  refine lv_lshl (v := ((((xs (i + 4).toNatClampNeg) : Int32).toInt64) <<< ((32 : Int32).toInt64 &&& 63))) hx hb dL_law_371 rfl ?_
  refine lv_aload_n hx hb dL_law_372 rfl (lv_at hl 1 rfl) ?_
  refine lv_iload hx hb dL_law_373 (lv_at hl 0 rfl) ?_
  refine lv_iconst (v := 5) hx hb dL_law_375 (by decide) ?_
  refine lv_iadd hx hb dL_law_376 ?_
  refine va_sld hx hb hX hbl hbA hS i5 dL_law_377 ?_
  refine lv_i2l (v := ((xs (i + 5).toNatClampNeg) : Int32).toInt64) hx hb dL_law_378 rfl ?_
  refine lv_ldc2 (v := 4294967295) hx hb hown (hts _ (zc (zin (by decide +kernel) (by decide +kernel)))) dL_law_379 ?_
  refine lv_land hx hb dL_law_382 ?_
  refine lv_lor hx hb dL_law_383 ?_
  obtain ⟨g1, g2, g3, g4⟩ := P_name88 hr (xs (i + 1).toNatClampNeg) (((((xs (i + 2).toNatClampNeg) : Int32).toInt64) <<< ((32 : Int32).toInt64 &&& 63)) ||| ((((xs (i + 3).toNatClampNeg) : Int32).toInt64) &&& 4294967295)) (((((xs (i + 4).toNatClampNeg) : Int32).toInt64) <<< ((32 : Int32).toInt64 &&& 63)) ||| ((((xs (i + 5).toNatClampNeg) : Int32).toInt64) &&& 4294967295))
  refine lXi (W.runV (As := [.int (xs (i + 1).toNatClampNeg), .long (((((xs (i + 2).toNatClampNeg) : Int32).toInt64) <<< ((32 : Int32).toInt64 &&& 63)) ||| ((((xs (i + 3).toNatClampNeg) : Int32).toInt64) &&& 4294967295)), .long (((((xs (i + 4).toNatClampNeg) : Int32).toInt64) <<< ((32 : Int32).toInt64 &&& 63)) ||| ((((xs (i + 5).toNatClampNeg) : Int32).toInt64) &&& 4294967295))]) (rest := []) ⟨hx, hb, hml, hown, hts⟩ (tX_name88 l C.1 u (xs (i + 1).toNatClampNeg) (((((xs (i + 2).toNatClampNeg) : Int32).toInt64) <<< ((32 : Int32).toInt64 &&& 63)) ||| ((((xs (i + 3).toNatClampNeg) : Int32).toInt64) &&& 4294967295)) (((((xs (i + 4).toNatClampNeg) : Int32).toInt64) <<< ((32 : Int32).toInt64 &&& 63)) ||| ((((xs (i + 5).toNatClampNeg) : Int32).toInt64) &&& 4294967295)) g1) (cwV 3 hts gL_X_name88 rfl rfl rfl (by decide +kernel) ⟨(Nat.le_of_ble_eq_true rfl), (Nat.le_of_ble_eq_true rfl)⟩) (zpre hP.1 hEx (fun q h9 _ => hS.2.1 q h9 (Nat.not_le.mpr h9)) (va_recv hEx.1 hP.1 (ci := 0) (q0 := 0) rfl rfl)) rfl rfl hl.1 rfl (lv_room (Nat.le_of_ble_eq_true rfl)) dL_law_384 ⟨by show _ ≤ 1080; omega, by show _ ≤ 15978; omega⟩) hS hP C (fun H locs hP hS => ?_)
  refine lv_pop hx hb dL_law_387 rfl ?_
  refine lv_aload_n hx hb dL_law_388 rfl (lv_at hl 3 rfl) ?_
  refine lv_aload_n hx hb dL_law_389 rfl (lv_at hl 1 rfl) ?_
  refine lv_iload hx hb dL_law_390 (lv_at hl 0 rfl) ?_
  refine lv_iconst (v := 1) hx hb dL_law_392 (by decide) ?_
  refine lv_iadd hx hb dL_law_393 ?_
  refine va_sld hx hb hX hbl hbA hS i1 dL_law_394 ?_
  refine lv_aload_n hx hb dL_law_395 rfl (lv_at hl 1 rfl) ?_
  refine lv_iload hx hb dL_law_396 (lv_at hl 0 rfl) ?_
  refine lv_iconst (v := 2) hx hb dL_law_398 (by decide) ?_
  refine lv_iadd hx hb dL_law_399 ?_
  refine va_sld hx hb hX hbl hbA hS i2 dL_law_400 ?_
  refine lv_i2l (v := ((xs (i + 2).toNatClampNeg) : Int32).toInt64) hx hb dL_law_401 rfl ?_
  refine lv_bipush (v := 32) hx hb dL_law_402 (by decide) ?_
  refine lv_lshl (v := ((((xs (i + 2).toNatClampNeg) : Int32).toInt64) <<< ((32 : Int32).toInt64 &&& 63))) hx hb dL_law_404 rfl ?_
  refine lv_aload_n hx hb dL_law_405 rfl (lv_at hl 1 rfl) ?_
  refine lv_iload hx hb dL_law_406 (lv_at hl 0 rfl) ?_
  refine lv_iconst (v := 3) hx hb dL_law_408 (by decide) ?_
  refine lv_iadd hx hb dL_law_409 ?_
  refine va_sld hx hb hX hbl hbA hS i3 dL_law_410 ?_
  refine lv_i2l (v := ((xs (i + 3).toNatClampNeg) : Int32).toInt64) hx hb dL_law_411 rfl ?_
  refine lv_ldc2 (v := 4294967295) hx hb hown (hts _ (zc (zin (by decide +kernel) (by decide +kernel)))) dL_law_412 ?_
  refine lv_land hx hb dL_law_415 ?_
  refine lv_lor hx hb dL_law_416 ?_
  refine lv_aload_n hx hb dL_law_417 rfl (lv_at hl 1 rfl) ?_
  refine lv_iload hx hb dL_law_418 (lv_at hl 0 rfl) ?_
  refine lv_iconst (v := 4) hx hb dL_law_420 (by decide) ?_
  refine lv_iadd hx hb dL_law_421 ?_
  refine va_sld hx hb hX hbl hbA hS i4 dL_law_422 ?_
  refine lv_i2l (v := ((xs (i + 4).toNatClampNeg) : Int32).toInt64) hx hb dL_law_423 rfl ?_
  refine lv_bipush (v := 32) hx hb dL_law_424 (by decide) ?_
  refine lv_lshl (v := ((((xs (i + 4).toNatClampNeg) : Int32).toInt64) <<< ((32 : Int32).toInt64 &&& 63))) hx hb dL_law_426 rfl ?_
  refine lv_aload_n hx hb dL_law_427 rfl (lv_at hl 1 rfl) ?_
  refine lv_iload hx hb dL_law_428 (lv_at hl 0 rfl) ?_
  refine lv_iconst (v := 5) hx hb dL_law_430 (by decide) ?_
  refine lv_iadd hx hb dL_law_431 ?_
  refine va_sld hx hb hX hbl hbA hS i5 dL_law_432 ?_
  refine lv_i2l (v := ((xs (i + 5).toNatClampNeg) : Int32).toInt64) hx hb dL_law_433 rfl ?_
  refine lv_ldc2 (v := 4294967295) hx hb hown (hts _ (zc (zin (by decide +kernel) (by decide +kernel)))) dL_law_434 ?_
  refine lv_land hx hb dL_law_437 ?_
  refine lv_lor hx hb dL_law_438 ?_
  refine lMi (W.runV (As := [.int (xs (i + 1).toNatClampNeg), .long (((((xs (i + 2).toNatClampNeg) : Int32).toInt64) <<< ((32 : Int32).toInt64 &&& 63)) ||| ((((xs (i + 3).toNatClampNeg) : Int32).toInt64) &&& 4294967295)), .long (((((xs (i + 4).toNatClampNeg) : Int32).toInt64) <<< ((32 : Int32).toInt64 &&& 63)) ||| ((((xs (i + 5).toNatClampNeg) : Int32).toInt64) &&& 4294967295))]) (rest := []) ⟨hx, hb, hml, hown, hts⟩ (tM_name88 l C.2.1 v (xs (i + 1).toNatClampNeg) (((((xs (i + 2).toNatClampNeg) : Int32).toInt64) <<< ((32 : Int32).toInt64 &&& 63)) ||| ((((xs (i + 3).toNatClampNeg) : Int32).toInt64) &&& 4294967295)) (((((xs (i + 4).toNatClampNeg) : Int32).toInt64) <<< ((32 : Int32).toInt64 &&& 63)) ||| ((((xs (i + 5).toNatClampNeg) : Int32).toInt64) &&& 4294967295)) g2) (cwV 3 hts gL_M_name88 rfl rfl rfl (by decide +kernel) ⟨(Nat.le_of_ble_eq_true rfl), (Nat.le_of_ble_eq_true rfl)⟩) (zpre hP.2.1 hEm (fun q h9 _ => hS.2.1 q h9 (Nat.not_le.mpr h9)) (va_recv hEm.1 hP.2.1 (ci := 7) (q0 := 0) rfl rfl)) rfl rfl hl.1 rfl (lv_room (Nat.le_of_ble_eq_true rfl)) dL_law_439 ⟨by show _ ≤ 1080; omega, by show _ ≤ 15978; omega⟩) hS hP C (fun H locs hP hS => ?_)
  refine lv_pop hx hb dL_law_442 rfl ?_
  refine lv_goto (tgt := 869) hx hb dL_law_443 (by decide) ?_
  exact K _ _ _ _ _ _ _ _ g4 hP hS hl (by omega) (by omega)
set_option maxHeartbeats 4000000 in
theorem lc6 (E : lEnv p l s m meth c b0 L xs D k a b o) (h1 : 1 ≤ i.toInt) (h2 : i.toInt + 6 ≤ (L : Int)) (hr : pRel u v) (hP : lP D k a b o u v f H) (hS : va_S (lA s.heap.size) s.heap H locs) (hl : lv_has ls 7 [(4, .int i), (0, .ref b0), (1, .ref (a 0)), (2, .ref (b 0)), (3, .ref o)]) (hc : cells + 1 ≤ 1080) (hs : slots + 6 ≤ 15978) (K : lK p l e s m below meth c D k a b o b0 i cells slots Q) : W p l e room_1 s m #[Value.ref b0] below meth c H locs cells slots Q (F0 m 446 ls []) := by
  obtain ⟨hx, hb, hret, hml, hown, hts, hX, hbl, hlocks, hfl, hEx, hEm, hXx, hN, C, hL⟩ := E
  have hbA : ¬ lA s.heap.size b0 := fun z => absurd hbl (Nat.not_lt.mpr z)
  obtain ⟨i0, i1, i2, i3, i4, i5⟩ := lin h1 h2 hL
  refine lv_aload_n hx hb dL_law_446 rfl (lv_at hl 2 rfl) ?_
  refine lv_aload_n hx hb dL_law_447 rfl (lv_at hl 1 rfl) ?_
  refine lv_iload hx hb dL_law_448 (lv_at hl 0 rfl) ?_
  refine lv_iconst (v := 1) hx hb dL_law_450 (by decide) ?_
  refine lv_iadd hx hb dL_law_451 ?_
  refine va_sld hx hb hX hbl hbA hS i1 dL_law_452 ?_
  refine lv_aload_n hx hb dL_law_453 rfl (lv_at hl 1 rfl) ?_
  refine lv_iload hx hb dL_law_454 (lv_at hl 0 rfl) ?_
  refine lv_iconst (v := 2) hx hb dL_law_456 (by decide) ?_
  refine lv_iadd hx hb dL_law_457 ?_
  refine va_sld hx hb hX hbl hbA hS i2 dL_law_458 ?_
  refine lv_i2l (v := ((xs (i + 2).toNatClampNeg) : Int32).toInt64) hx hb dL_law_459 rfl ?_
  refine lv_bipush (v := 32) hx hb dL_law_460 (by decide) ?_
  refine lv_lshl (v := ((((xs (i + 2).toNatClampNeg) : Int32).toInt64) <<< ((32 : Int32).toInt64 &&& 63))) hx hb dL_law_462 rfl ?_
  refine lv_aload_n hx hb dL_law_463 rfl (lv_at hl 1 rfl) ?_
  refine lv_iload hx hb dL_law_464 (lv_at hl 0 rfl) ?_
  refine lv_iconst (v := 3) hx hb dL_law_466 (by decide) ?_
  refine lv_iadd hx hb dL_law_467 ?_
  refine va_sld hx hb hX hbl hbA hS i3 dL_law_468 ?_
  refine lv_i2l (v := ((xs (i + 3).toNatClampNeg) : Int32).toInt64) hx hb dL_law_469 rfl ?_
  refine lv_ldc2 (v := 4294967295) hx hb hown (hts _ (zc (zin (by decide +kernel) (by decide +kernel)))) dL_law_470 ?_
  refine lv_land hx hb dL_law_473 ?_
  refine lv_lor hx hb dL_law_474 ?_
  refine lv_aload_n hx hb dL_law_475 rfl (lv_at hl 1 rfl) ?_
  refine lv_iload hx hb dL_law_476 (lv_at hl 0 rfl) ?_
  refine lv_iconst (v := 4) hx hb dL_law_478 (by decide) ?_
  refine lv_iadd hx hb dL_law_479 ?_
  refine va_sld hx hb hX hbl hbA hS i4 dL_law_480 ?_
  refine lv_i2l (v := ((xs (i + 4).toNatClampNeg) : Int32).toInt64) hx hb dL_law_481 rfl ?_
  refine lv_bipush (v := 32) hx hb dL_law_482 (by decide) ?_
  refine lv_lshl (v := ((((xs (i + 4).toNatClampNeg) : Int32).toInt64) <<< ((32 : Int32).toInt64 &&& 63))) hx hb dL_law_484 rfl ?_
  refine lv_aload_n hx hb dL_law_485 rfl (lv_at hl 1 rfl) ?_
  refine lv_iload hx hb dL_law_486 (lv_at hl 0 rfl) ?_
  refine lv_iconst (v := 5) hx hb dL_law_488 (by decide) ?_
  refine lv_iadd hx hb dL_law_489 ?_
  refine va_sld hx hb hX hbl hbA hS i5 dL_law_490 ?_
  refine lv_i2l (v := ((xs (i + 5).toNatClampNeg) : Int32).toInt64) hx hb dL_law_491 rfl ?_
  refine lv_ldc2 (v := 4294967295) hx hb hown (hts _ (zc (zin (by decide +kernel) (by decide +kernel)))) dL_law_492 ?_
  refine lv_land hx hb dL_law_495 ?_
  refine lv_lor hx hb dL_law_496 ?_
  obtain ⟨g1, g2, g3, g4⟩ := P_range hr (xs (i + 1).toNatClampNeg) (((((xs (i + 2).toNatClampNeg) : Int32).toInt64) <<< ((32 : Int32).toInt64 &&& 63)) ||| ((((xs (i + 3).toNatClampNeg) : Int32).toInt64) &&& 4294967295)) (((((xs (i + 4).toNatClampNeg) : Int32).toInt64) <<< ((32 : Int32).toInt64 &&& 63)) ||| ((((xs (i + 5).toNatClampNeg) : Int32).toInt64) &&& 4294967295))
  refine lXi (W.runV (As := [.int (xs (i + 1).toNatClampNeg), .long (((((xs (i + 2).toNatClampNeg) : Int32).toInt64) <<< ((32 : Int32).toInt64 &&& 63)) ||| ((((xs (i + 3).toNatClampNeg) : Int32).toInt64) &&& 4294967295)), .long (((((xs (i + 4).toNatClampNeg) : Int32).toInt64) <<< ((32 : Int32).toInt64 &&& 63)) ||| ((((xs (i + 5).toNatClampNeg) : Int32).toInt64) &&& 4294967295))]) (rest := []) ⟨hx, hb, hml, hown, hts⟩ (tX_range l C.1 u (xs (i + 1).toNatClampNeg) (((((xs (i + 2).toNatClampNeg) : Int32).toInt64) <<< ((32 : Int32).toInt64 &&& 63)) ||| ((((xs (i + 3).toNatClampNeg) : Int32).toInt64) &&& 4294967295)) (((((xs (i + 4).toNatClampNeg) : Int32).toInt64) <<< ((32 : Int32).toInt64 &&& 63)) ||| ((((xs (i + 5).toNatClampNeg) : Int32).toInt64) &&& 4294967295)) g1) (cwV 3 hts gL_X_range rfl rfl rfl (by decide +kernel) ⟨(Nat.le_of_ble_eq_true rfl), (Nat.le_of_ble_eq_true rfl)⟩) (zpre hP.1 hEx (fun q h9 _ => hS.2.1 q h9 (Nat.not_le.mpr h9)) (va_recv hEx.1 hP.1 (ci := 0) (q0 := 0) rfl rfl)) rfl rfl hl.1 rfl (lv_room (Nat.le_of_ble_eq_true rfl)) dL_law_497 ⟨by show _ ≤ 1080; omega, by show _ ≤ 15978; omega⟩) hS hP C (fun H locs hP hS => ?_)
  refine lv_pop hx hb dL_law_500 rfl ?_
  refine lv_aload_n hx hb dL_law_501 rfl (lv_at hl 3 rfl) ?_
  refine lv_aload_n hx hb dL_law_502 rfl (lv_at hl 1 rfl) ?_
  refine lv_iload hx hb dL_law_503 (lv_at hl 0 rfl) ?_
  refine lv_iconst (v := 1) hx hb dL_law_505 (by decide) ?_
  refine lv_iadd hx hb dL_law_506 ?_
  refine va_sld hx hb hX hbl hbA hS i1 dL_law_507 ?_
  refine lv_aload_n hx hb dL_law_508 rfl (lv_at hl 1 rfl) ?_
  refine lv_iload hx hb dL_law_509 (lv_at hl 0 rfl) ?_
  refine lv_iconst (v := 2) hx hb dL_law_511 (by decide) ?_
  refine lv_iadd hx hb dL_law_512 ?_
  refine va_sld hx hb hX hbl hbA hS i2 dL_law_513 ?_
  refine lv_i2l (v := ((xs (i + 2).toNatClampNeg) : Int32).toInt64) hx hb dL_law_514 rfl ?_
  refine lv_bipush (v := 32) hx hb dL_law_515 (by decide) ?_
  refine lv_lshl (v := ((((xs (i + 2).toNatClampNeg) : Int32).toInt64) <<< ((32 : Int32).toInt64 &&& 63))) hx hb dL_law_517 rfl ?_
  refine lv_aload_n hx hb dL_law_518 rfl (lv_at hl 1 rfl) ?_
  refine lv_iload hx hb dL_law_519 (lv_at hl 0 rfl) ?_
  refine lv_iconst (v := 3) hx hb dL_law_521 (by decide) ?_
  refine lv_iadd hx hb dL_law_522 ?_
  refine va_sld hx hb hX hbl hbA hS i3 dL_law_523 ?_
  refine lv_i2l (v := ((xs (i + 3).toNatClampNeg) : Int32).toInt64) hx hb dL_law_524 rfl ?_
  refine lv_ldc2 (v := 4294967295) hx hb hown (hts _ (zc (zin (by decide +kernel) (by decide +kernel)))) dL_law_525 ?_
  refine lv_land hx hb dL_law_528 ?_
  refine lv_lor hx hb dL_law_529 ?_
  refine lv_aload_n hx hb dL_law_530 rfl (lv_at hl 1 rfl) ?_
  refine lv_iload hx hb dL_law_531 (lv_at hl 0 rfl) ?_
  refine lv_iconst (v := 4) hx hb dL_law_533 (by decide) ?_
  refine lv_iadd hx hb dL_law_534 ?_
  refine va_sld hx hb hX hbl hbA hS i4 dL_law_535 ?_
  refine lv_i2l (v := ((xs (i + 4).toNatClampNeg) : Int32).toInt64) hx hb dL_law_536 rfl ?_
  refine lv_bipush (v := 32) hx hb dL_law_537 (by decide) ?_
  refine lv_lshl (v := ((((xs (i + 4).toNatClampNeg) : Int32).toInt64) <<< ((32 : Int32).toInt64 &&& 63))) hx hb dL_law_539 rfl ?_
  refine lv_aload_n hx hb dL_law_540 rfl (lv_at hl 1 rfl) ?_
  refine lv_iload hx hb dL_law_541 (lv_at hl 0 rfl) ?_
  refine lv_iconst (v := 5) hx hb dL_law_543 (by decide) ?_
  refine lv_iadd hx hb dL_law_544 ?_
  refine va_sld hx hb hX hbl hbA hS i5 dL_law_545 ?_
  refine lv_i2l (v := ((xs (i + 5).toNatClampNeg) : Int32).toInt64) hx hb dL_law_546 rfl ?_
  refine lv_ldc2 (v := 4294967295) hx hb hown (hts _ (zc (zin (by decide +kernel) (by decide +kernel)))) dL_law_547 ?_
  refine lv_land hx hb dL_law_550 ?_
  refine lv_lor hx hb dL_law_551 ?_
  refine lMi (W.runV (As := [.int (xs (i + 1).toNatClampNeg), .long (((((xs (i + 2).toNatClampNeg) : Int32).toInt64) <<< ((32 : Int32).toInt64 &&& 63)) ||| ((((xs (i + 3).toNatClampNeg) : Int32).toInt64) &&& 4294967295)), .long (((((xs (i + 4).toNatClampNeg) : Int32).toInt64) <<< ((32 : Int32).toInt64 &&& 63)) ||| ((((xs (i + 5).toNatClampNeg) : Int32).toInt64) &&& 4294967295))]) (rest := []) ⟨hx, hb, hml, hown, hts⟩ (tM_range l C.2.1 v (xs (i + 1).toNatClampNeg) (((((xs (i + 2).toNatClampNeg) : Int32).toInt64) <<< ((32 : Int32).toInt64 &&& 63)) ||| ((((xs (i + 3).toNatClampNeg) : Int32).toInt64) &&& 4294967295)) (((((xs (i + 4).toNatClampNeg) : Int32).toInt64) <<< ((32 : Int32).toInt64 &&& 63)) ||| ((((xs (i + 5).toNatClampNeg) : Int32).toInt64) &&& 4294967295)) g2) (cwV 3 hts gL_M_range rfl rfl rfl (by decide +kernel) ⟨(Nat.le_of_ble_eq_true rfl), (Nat.le_of_ble_eq_true rfl)⟩) (zpre hP.2.1 hEm (fun q h9 _ => hS.2.1 q h9 (Nat.not_le.mpr h9)) (va_recv hEm.1 hP.2.1 (ci := 7) (q0 := 0) rfl rfl)) rfl rfl hl.1 rfl (lv_room (Nat.le_of_ble_eq_true rfl)) dL_law_552 ⟨by show _ ≤ 1080; omega, by show _ ≤ 15978; omega⟩) hS hP C (fun H locs hP hS => ?_)
  refine lv_pop hx hb dL_law_555 rfl ?_
  refine lv_goto (tgt := 869) hx hb dL_law_556 (by decide) ?_
  exact K _ _ _ _ _ _ _ _ g4 hP hS hl (by omega) (by omega)
set_option maxHeartbeats 4000000 in
theorem lc7 (E : lEnv p l s m meth c b0 L xs D k a b o) (h1 : 1 ≤ i.toInt) (h2 : i.toInt + 6 ≤ (L : Int)) (hr : pRel u v) (hP : lP D k a b o u v f H) (hS : va_S (lA s.heap.size) s.heap H locs) (hl : lv_has ls 7 [(4, .int i), (0, .ref b0), (1, .ref (a 0)), (2, .ref (b 0)), (3, .ref o)]) (hc : cells + 1 ≤ 1080) (hs : slots + 6 ≤ 15978) (K : lK p l e s m below meth c D k a b o b0 i cells slots Q) : W p l e room_1 s m #[Value.ref b0] below meth c H locs cells slots Q (F0 m 559 ls []) := by
  obtain ⟨hx, hb, hret, hml, hown, hts, hX, hbl, hlocks, hfl, hEx, hEm, hXx, hN, C, hL⟩ := E
  have hbA : ¬ lA s.heap.size b0 := fun z => absurd hbl (Nat.not_lt.mpr z)
  obtain ⟨i0, i1, i2, i3, i4, i5⟩ := lin h1 h2 hL
  refine lv_aload_n hx hb dL_law_559 rfl (lv_at hl 2 rfl) ?_
  refine lv_aload_n hx hb dL_law_560 rfl (lv_at hl 1 rfl) ?_
  refine lv_iload hx hb dL_law_561 (lv_at hl 0 rfl) ?_
  refine lv_iconst (v := 1) hx hb dL_law_563 (by decide) ?_
  refine lv_iadd hx hb dL_law_564 ?_
  refine va_sld hx hb hX hbl hbA hS i1 dL_law_565 ?_
  refine lv_aload_n hx hb dL_law_566 rfl (lv_at hl 1 rfl) ?_
  refine lv_iload hx hb dL_law_567 (lv_at hl 0 rfl) ?_
  refine lv_iconst (v := 2) hx hb dL_law_569 (by decide) ?_
  refine lv_iadd hx hb dL_law_570 ?_
  refine va_sld hx hb hX hbl hbA hS i2 dL_law_571 ?_
  refine lv_aload_n hx hb dL_law_572 rfl (lv_at hl 1 rfl) ?_
  refine lv_iload hx hb dL_law_573 (lv_at hl 0 rfl) ?_
  refine lv_iconst (v := 3) hx hb dL_law_575 (by decide) ?_
  refine lv_iadd hx hb dL_law_576 ?_
  refine va_sld hx hb hX hbl hbA hS i3 dL_law_577 ?_
  obtain ⟨g1, g2, g3⟩ := P_short0 hr (xs (i + 1).toNatClampNeg) (xs (i + 2).toNatClampNeg) (xs (i + 3).toNatClampNeg)
  refine lXi (W.runV (As := [.int (xs (i + 1).toNatClampNeg), .int (xs (i + 2).toNatClampNeg), .int (xs (i + 3).toNatClampNeg)]) (rest := []) ⟨hx, hb, hml, hown, hts⟩ (tX_short0 l C.1 u (xs (i + 1).toNatClampNeg) (xs (i + 2).toNatClampNeg) (xs (i + 3).toNatClampNeg) g1) (cwV 3 hts gL_X_short0 rfl rfl rfl (by decide +kernel) ⟨(Nat.le_of_ble_eq_true rfl), (Nat.le_of_ble_eq_true rfl)⟩) (zpre hP.1 hEx (fun q h9 _ => hS.2.1 q h9 (Nat.not_le.mpr h9)) (va_recv hEx.1 hP.1 (ci := 0) (q0 := 0) rfl rfl)) rfl rfl hl.1 rfl (lv_room (Nat.le_of_ble_eq_true rfl)) dL_law_578 ⟨by show _ ≤ 1080; omega, by show _ ≤ 15978; omega⟩) hS hP C (fun H locs hP hS => ?_)
  refine lv_pop hx hb dL_law_581 rfl ?_
  refine lv_aload_n hx hb dL_law_582 rfl (lv_at hl 3 rfl) ?_
  refine lv_aload_n hx hb dL_law_583 rfl (lv_at hl 1 rfl) ?_
  refine lv_iload hx hb dL_law_584 (lv_at hl 0 rfl) ?_
  refine lv_iconst (v := 1) hx hb dL_law_586 (by decide) ?_
  refine lv_iadd hx hb dL_law_587 ?_
  refine va_sld hx hb hX hbl hbA hS i1 dL_law_588 ?_
  refine lv_aload_n hx hb dL_law_589 rfl (lv_at hl 1 rfl) ?_
  refine lv_iload hx hb dL_law_590 (lv_at hl 0 rfl) ?_
  refine lv_iconst (v := 2) hx hb dL_law_592 (by decide) ?_
  refine lv_iadd hx hb dL_law_593 ?_
  refine va_sld hx hb hX hbl hbA hS i2 dL_law_594 ?_
  refine lv_aload_n hx hb dL_law_595 rfl (lv_at hl 1 rfl) ?_
  refine lv_iload hx hb dL_law_596 (lv_at hl 0 rfl) ?_
  refine lv_iconst (v := 3) hx hb dL_law_598 (by decide) ?_
  refine lv_iadd hx hb dL_law_599 ?_
  refine va_sld hx hb hX hbl hbA hS i3 dL_law_600 ?_
  refine lMi (W.runV (As := [.int (xs (i + 1).toNatClampNeg), .int (xs (i + 2).toNatClampNeg), .int (xs (i + 3).toNatClampNeg)]) (rest := []) ⟨hx, hb, hml, hown, hts⟩ (tM_short0 l C.2.1 v (xs (i + 1).toNatClampNeg) (xs (i + 2).toNatClampNeg) (xs (i + 3).toNatClampNeg) g2) (cwV 3 hts gL_M_short0 rfl rfl rfl (by decide +kernel) ⟨(Nat.le_of_ble_eq_true rfl), (Nat.le_of_ble_eq_true rfl)⟩) (zpre hP.2.1 hEm (fun q h9 _ => hS.2.1 q h9 (Nat.not_le.mpr h9)) (va_recv hEm.1 hP.2.1 (ci := 7) (q0 := 0) rfl rfl)) rfl rfl hl.1 rfl (lv_room (Nat.le_of_ble_eq_true rfl)) dL_law_601 ⟨by show _ ≤ 1080; omega, by show _ ≤ 15978; omega⟩) hS hP C (fun H locs hP hS => ?_)
  refine lv_pop hx hb dL_law_604 rfl ?_
  refine lv_goto (tgt := 869) hx hb dL_law_605 (by decide) ?_
  exact K _ _ _ _ _ _ _ _ g3 hP hS hl (by omega) (by omega)
set_option maxHeartbeats 4000000 in
theorem lc8 (E : lEnv p l s m meth c b0 L xs D k a b o) (h1 : 1 ≤ i.toInt) (h2 : i.toInt + 6 ≤ (L : Int)) (hr : pRel u v) (hP : lP D k a b o u v f H) (hS : va_S (lA s.heap.size) s.heap H locs) (hl : lv_has ls 7 [(4, .int i), (0, .ref b0), (1, .ref (a 0)), (2, .ref (b 0)), (3, .ref o)]) (hc : cells + 1 ≤ 1080) (hs : slots + 6 ≤ 15978) (K : lK p l e s m below meth c D k a b o b0 i cells slots Q) : W p l e room_1 s m #[Value.ref b0] below meth c H locs cells slots Q (F0 m 608 ls []) := by
  obtain ⟨hx, hb, hret, hml, hown, hts, hX, hbl, hlocks, hfl, hEx, hEm, hXx, hN, C, hL⟩ := E
  have hbA : ¬ lA s.heap.size b0 := fun z => absurd hbl (Nat.not_lt.mpr z)
  obtain ⟨i0, i1, i2, i3, i4, i5⟩ := lin h1 h2 hL
  refine lv_aload_n hx hb dL_law_608 rfl (lv_at hl 2 rfl) ?_
  refine lv_aload_n hx hb dL_law_609 rfl (lv_at hl 1 rfl) ?_
  refine lv_iload hx hb dL_law_610 (lv_at hl 0 rfl) ?_
  refine lv_iconst (v := 1) hx hb dL_law_612 (by decide) ?_
  refine lv_iadd hx hb dL_law_613 ?_
  refine va_sld hx hb hX hbl hbA hS i1 dL_law_614 ?_
  refine lv_aload_n hx hb dL_law_615 rfl (lv_at hl 1 rfl) ?_
  refine lv_iload hx hb dL_law_616 (lv_at hl 0 rfl) ?_
  refine lv_iconst (v := 2) hx hb dL_law_618 (by decide) ?_
  refine lv_iadd hx hb dL_law_619 ?_
  refine va_sld hx hb hX hbl hbA hS i2 dL_law_620 ?_
  refine lv_if_eq (tgt := 628) hx hb dL_law_621 (by decide) (fun c1 => ?_) (fun c1 => ?_)
  · refine lv_iconst (v := 0) hx hb dL_law_628 (by decide) ?_
    refine lv_aload_n hx hb dL_law_629 rfl (lv_at hl 1 rfl) ?_
    refine lv_iload hx hb dL_law_630 (lv_at hl 0 rfl) ?_
    refine lv_iconst (v := 3) hx hb dL_law_632 (by decide) ?_
    refine lv_iadd hx hb dL_law_633 ?_
    refine va_sld hx hb hX hbl hbA hS i3 dL_law_634 ?_
    refine lv_aload_n hx hb dL_law_635 rfl (lv_at hl 1 rfl) ?_
    refine lv_iload hx hb dL_law_636 (lv_at hl 0 rfl) ?_
    refine lv_iconst (v := 4) hx hb dL_law_638 (by decide) ?_
    refine lv_iadd hx hb dL_law_639 ?_
    refine va_sld hx hb hX hbl hbA hS i4 dL_law_640 ?_
    obtain ⟨g1, g2, g3, g4⟩ := P_more hr (xs (i + 1).toNatClampNeg) 0 (xs (i + 3).toNatClampNeg) (xs (i + 4).toNatClampNeg) (Or.inl rfl)
    refine lXi (W.runV (As := [.int (xs (i + 1).toNatClampNeg), .int 0, .int (xs (i + 3).toNatClampNeg), .int (xs (i + 4).toNatClampNeg)]) (rest := []) ⟨hx, hb, hml, hown, hts⟩ (tX_more l C.1 u (xs (i + 1).toNatClampNeg) 0 (xs (i + 3).toNatClampNeg) (xs (i + 4).toNatClampNeg) g1) (cwV 4 hts gL_X_more rfl rfl rfl (by decide +kernel) ⟨(Nat.le_of_ble_eq_true rfl), (Nat.le_of_ble_eq_true rfl)⟩) (zpre hP.1 hEx (fun q h9 _ => hS.2.1 q h9 (Nat.not_le.mpr h9)) (va_recv hEx.1 hP.1 (ci := 0) (q0 := 0) rfl rfl)) rfl rfl hl.1 rfl (lv_room (Nat.le_of_ble_eq_true rfl)) dL_law_641 ⟨by show _ ≤ 1080; omega, by show _ ≤ 15978; omega⟩) hS hP C (fun H locs hP hS => ?_)
    refine lv_pop hx hb dL_law_644 rfl ?_
    refine lv_aload_n hx hb dL_law_645 rfl (lv_at hl 3 rfl) ?_
    refine lv_aload_n hx hb dL_law_646 rfl (lv_at hl 1 rfl) ?_
    refine lv_iload hx hb dL_law_647 (lv_at hl 0 rfl) ?_
    refine lv_iconst (v := 1) hx hb dL_law_649 (by decide) ?_
    refine lv_iadd hx hb dL_law_650 ?_
    refine va_sld hx hb hX hbl hbA hS i1 dL_law_651 ?_
    refine lv_aload_n hx hb dL_law_652 rfl (lv_at hl 1 rfl) ?_
    refine lv_iload hx hb dL_law_653 (lv_at hl 0 rfl) ?_
    refine lv_iconst (v := 2) hx hb dL_law_655 (by decide) ?_
    refine lv_iadd hx hb dL_law_656 ?_
    refine va_sld hx hb hX hbl hbA hS i2 dL_law_657 ?_
    refine lv_if_eq (tgt := 665) hx hb dL_law_658 (by decide) (fun c2 => ?_) (fun c2 => absurd c1 c2)
    refine lv_iconst (v := 0) hx hb dL_law_665 (by decide) ?_
    refine lv_aload_n hx hb dL_law_666 rfl (lv_at hl 1 rfl) ?_
    refine lv_iload hx hb dL_law_667 (lv_at hl 0 rfl) ?_
    refine lv_iconst (v := 3) hx hb dL_law_669 (by decide) ?_
    refine lv_iadd hx hb dL_law_670 ?_
    refine va_sld hx hb hX hbl hbA hS i3 dL_law_671 ?_
    refine lv_aload_n hx hb dL_law_672 rfl (lv_at hl 1 rfl) ?_
    refine lv_iload hx hb dL_law_673 (lv_at hl 0 rfl) ?_
    refine lv_iconst (v := 4) hx hb dL_law_675 (by decide) ?_
    refine lv_iadd hx hb dL_law_676 ?_
    refine va_sld hx hb hX hbl hbA hS i4 dL_law_677 ?_
    refine lMi (W.runV (As := [.int (xs (i + 1).toNatClampNeg), .int 0, .int (xs (i + 3).toNatClampNeg), .int (xs (i + 4).toNatClampNeg)]) (rest := []) ⟨hx, hb, hml, hown, hts⟩ (tM_more l C.2.1 v (xs (i + 1).toNatClampNeg) 0 (xs (i + 3).toNatClampNeg) (xs (i + 4).toNatClampNeg) g2) (cwV 4 hts gL_M_more rfl rfl rfl (by decide +kernel) ⟨(Nat.le_of_ble_eq_true rfl), (Nat.le_of_ble_eq_true rfl)⟩) (zpre hP.2.1 hEm (fun q h9 _ => hS.2.1 q h9 (Nat.not_le.mpr h9)) (va_recv hEm.1 hP.2.1 (ci := 7) (q0 := 0) rfl rfl)) rfl rfl hl.1 rfl (lv_room (Nat.le_of_ble_eq_true rfl)) dL_law_678 ⟨by show _ ≤ 1080; omega, by show _ ≤ 15978; omega⟩) hS hP C (fun H locs hP hS => ?_)
    refine lv_pop hx hb dL_law_681 rfl ?_
    refine lv_goto (tgt := 869) hx hb dL_law_682 (by decide) ?_
    exact K _ _ _ _ _ _ _ _ g4 hP hS hl (by omega) (by omega)
  · refine lv_iconst (v := 1) hx hb dL_law_624 (by decide) ?_
    refine lv_goto (tgt := 629) hx hb dL_law_625 (by decide) ?_
    refine lv_aload_n hx hb dL_law_629 rfl (lv_at hl 1 rfl) ?_
    refine lv_iload hx hb dL_law_630 (lv_at hl 0 rfl) ?_
    refine lv_iconst (v := 3) hx hb dL_law_632 (by decide) ?_
    refine lv_iadd hx hb dL_law_633 ?_
    refine va_sld hx hb hX hbl hbA hS i3 dL_law_634 ?_
    refine lv_aload_n hx hb dL_law_635 rfl (lv_at hl 1 rfl) ?_
    refine lv_iload hx hb dL_law_636 (lv_at hl 0 rfl) ?_
    refine lv_iconst (v := 4) hx hb dL_law_638 (by decide) ?_
    refine lv_iadd hx hb dL_law_639 ?_
    refine va_sld hx hb hX hbl hbA hS i4 dL_law_640 ?_
    obtain ⟨g1, g2, g3, g4⟩ := P_more hr (xs (i + 1).toNatClampNeg) 1 (xs (i + 3).toNatClampNeg) (xs (i + 4).toNatClampNeg) (Or.inr rfl)
    refine lXi (W.runV (As := [.int (xs (i + 1).toNatClampNeg), .int 1, .int (xs (i + 3).toNatClampNeg), .int (xs (i + 4).toNatClampNeg)]) (rest := []) ⟨hx, hb, hml, hown, hts⟩ (tX_more l C.1 u (xs (i + 1).toNatClampNeg) 1 (xs (i + 3).toNatClampNeg) (xs (i + 4).toNatClampNeg) g1) (cwV 4 hts gL_X_more rfl rfl rfl (by decide +kernel) ⟨(Nat.le_of_ble_eq_true rfl), (Nat.le_of_ble_eq_true rfl)⟩) (zpre hP.1 hEx (fun q h9 _ => hS.2.1 q h9 (Nat.not_le.mpr h9)) (va_recv hEx.1 hP.1 (ci := 0) (q0 := 0) rfl rfl)) rfl rfl hl.1 rfl (lv_room (Nat.le_of_ble_eq_true rfl)) dL_law_641 ⟨by show _ ≤ 1080; omega, by show _ ≤ 15978; omega⟩) hS hP C (fun H locs hP hS => ?_)
    refine lv_pop hx hb dL_law_644 rfl ?_
    refine lv_aload_n hx hb dL_law_645 rfl (lv_at hl 3 rfl) ?_
    refine lv_aload_n hx hb dL_law_646 rfl (lv_at hl 1 rfl) ?_
    refine lv_iload hx hb dL_law_647 (lv_at hl 0 rfl) ?_
    refine lv_iconst (v := 1) hx hb dL_law_649 (by decide) ?_
    refine lv_iadd hx hb dL_law_650 ?_
    refine va_sld hx hb hX hbl hbA hS i1 dL_law_651 ?_
    refine lv_aload_n hx hb dL_law_652 rfl (lv_at hl 1 rfl) ?_
    refine lv_iload hx hb dL_law_653 (lv_at hl 0 rfl) ?_
    refine lv_iconst (v := 2) hx hb dL_law_655 (by decide) ?_
    refine lv_iadd hx hb dL_law_656 ?_
    refine va_sld hx hb hX hbl hbA hS i2 dL_law_657 ?_
    refine lv_if_eq (tgt := 665) hx hb dL_law_658 (by decide) (fun c2 => absurd c2 c1) (fun c2 => ?_)
    refine lv_iconst (v := 1) hx hb dL_law_661 (by decide) ?_
    refine lv_goto (tgt := 666) hx hb dL_law_662 (by decide) ?_
    refine lv_aload_n hx hb dL_law_666 rfl (lv_at hl 1 rfl) ?_
    refine lv_iload hx hb dL_law_667 (lv_at hl 0 rfl) ?_
    refine lv_iconst (v := 3) hx hb dL_law_669 (by decide) ?_
    refine lv_iadd hx hb dL_law_670 ?_
    refine va_sld hx hb hX hbl hbA hS i3 dL_law_671 ?_
    refine lv_aload_n hx hb dL_law_672 rfl (lv_at hl 1 rfl) ?_
    refine lv_iload hx hb dL_law_673 (lv_at hl 0 rfl) ?_
    refine lv_iconst (v := 4) hx hb dL_law_675 (by decide) ?_
    refine lv_iadd hx hb dL_law_676 ?_
    refine va_sld hx hb hX hbl hbA hS i4 dL_law_677 ?_
    refine lMi (W.runV (As := [.int (xs (i + 1).toNatClampNeg), .int 1, .int (xs (i + 3).toNatClampNeg), .int (xs (i + 4).toNatClampNeg)]) (rest := []) ⟨hx, hb, hml, hown, hts⟩ (tM_more l C.2.1 v (xs (i + 1).toNatClampNeg) 1 (xs (i + 3).toNatClampNeg) (xs (i + 4).toNatClampNeg) g2) (cwV 4 hts gL_M_more rfl rfl rfl (by decide +kernel) ⟨(Nat.le_of_ble_eq_true rfl), (Nat.le_of_ble_eq_true rfl)⟩) (zpre hP.2.1 hEm (fun q h9 _ => hS.2.1 q h9 (Nat.not_le.mpr h9)) (va_recv hEm.1 hP.2.1 (ci := 7) (q0 := 0) rfl rfl)) rfl rfl hl.1 rfl (lv_room (Nat.le_of_ble_eq_true rfl)) dL_law_678 ⟨by show _ ≤ 1080; omega, by show _ ≤ 15978; omega⟩) hS hP C (fun H locs hP hS => ?_)
    refine lv_pop hx hb dL_law_681 rfl ?_
    refine lv_goto (tgt := 869) hx hb dL_law_682 (by decide) ?_
    exact K _ _ _ _ _ _ _ _ g4 hP hS hl (by omega) (by omega)
set_option maxHeartbeats 4000000 in
theorem lc9 (E : lEnv p l s m meth c b0 L xs D k a b o) (h1 : 1 ≤ i.toInt) (h2 : i.toInt + 6 ≤ (L : Int)) (hr : pRel u v) (hP : lP D k a b o u v f H) (hS : va_S (lA s.heap.size) s.heap H locs) (hl : lv_has ls 7 [(4, .int i), (0, .ref b0), (1, .ref (a 0)), (2, .ref (b 0)), (3, .ref o)]) (hc : cells + 1 ≤ 1080) (hs : slots + 6 ≤ 15978) (K : lK p l e s m below meth c D k a b o b0 i cells slots Q) : W p l e room_1 s m #[Value.ref b0] below meth c H locs cells slots Q (F0 m 685 ls []) := by
  obtain ⟨hx, hb, hret, hml, hown, hts, hX, hbl, hlocks, hfl, hEx, hEm, hXx, hN, C, hL⟩ := E
  have hbA : ¬ lA s.heap.size b0 := fun z => absurd hbl (Nat.not_lt.mpr z)
  obtain ⟨i0, i1, i2, i3, i4, i5⟩ := lin h1 h2 hL
  refine lv_aload_n hx hb dL_law_685 rfl (lv_at hl 2 rfl) ?_
  obtain ⟨g1, g2, g3, g4⟩ := P_unfold hr
  refine lXi (W.runV (As := []) (rest := []) ⟨hx, hb, hml, hown, hts⟩ (tX_unfold l C.1 u g1) (cwV 0 hts gL_X_unfold rfl rfl rfl (by decide +kernel) ⟨(Nat.le_of_ble_eq_true rfl), (Nat.le_of_ble_eq_true rfl)⟩) (zpre hP.1 hEx (fun q h9 _ => hS.2.1 q h9 (Nat.not_le.mpr h9)) (va_recv hEx.1 hP.1 (ci := 0) (q0 := 0) rfl rfl)) rfl rfl hl.1 rfl (lv_room (Nat.le_of_ble_eq_true rfl)) dL_law_686 ⟨by show _ ≤ 1080; omega, by show _ ≤ 15978; omega⟩) hS hP C (fun H locs hP hS => ?_)
  refine lv_pop hx hb dL_law_689 rfl ?_
  refine lv_aload_n hx hb dL_law_690 rfl (lv_at hl 3 rfl) ?_
  refine lMi (W.runV (As := []) (rest := []) ⟨hx, hb, hml, hown, hts⟩ (tM_unfold l C.2.1 v g2) (cwV 0 hts gL_M_unfold rfl rfl rfl (by decide +kernel) ⟨(Nat.le_of_ble_eq_true rfl), (Nat.le_of_ble_eq_true rfl)⟩) (zpre hP.2.1 hEm (fun q h9 _ => hS.2.1 q h9 (Nat.not_le.mpr h9)) (va_recv hEm.1 hP.2.1 (ci := 7) (q0 := 0) rfl rfl)) rfl rfl hl.1 rfl (lv_room (Nat.le_of_ble_eq_true rfl)) dL_law_691 ⟨by show _ ≤ 1080; omega, by show _ ≤ 15978; omega⟩) hS hP C (fun H locs hP hS => ?_)
  refine lv_pop hx hb dL_law_694 rfl ?_
  refine lv_goto (tgt := 869) hx hb dL_law_695 (by decide) ?_
  exact K _ _ _ _ _ _ _ _ g4 hP hS hl (by omega) (by omega)
set_option maxHeartbeats 4000000 in
theorem lc10 (E : lEnv p l s m meth c b0 L xs D k a b o) (h1 : 1 ≤ i.toInt) (h2 : i.toInt + 6 ≤ (L : Int)) (hr : pRel u v) (hP : lP D k a b o u v f H) (hS : va_S (lA s.heap.size) s.heap H locs) (hl : lv_has ls 7 [(4, .int i), (0, .ref b0), (1, .ref (a 0)), (2, .ref (b 0)), (3, .ref o)]) (hc : cells + 1 ≤ 1080) (hs : slots + 6 ≤ 15978) (K : lK p l e s m below meth c D k a b o b0 i cells slots Q) : W p l e room_1 s m #[Value.ref b0] below meth c H locs cells slots Q (F0 m 698 ls []) := by
  obtain ⟨hx, hb, hret, hml, hown, hts, hX, hbl, hlocks, hfl, hEx, hEm, hXx, hN, C, hL⟩ := E
  have hbA : ¬ lA s.heap.size b0 := fun z => absurd hbl (Nat.not_lt.mpr z)
  obtain ⟨i0, i1, i2, i3, i4, i5⟩ := lin h1 h2 hL
  refine lv_aload_n hx hb dL_law_698 rfl (lv_at hl 2 rfl) ?_
  refine lv_aload_n hx hb dL_law_699 rfl (lv_at hl 1 rfl) ?_
  refine lv_iload hx hb dL_law_700 (lv_at hl 0 rfl) ?_
  refine lv_iconst (v := 1) hx hb dL_law_702 (by decide) ?_
  refine lv_iadd hx hb dL_law_703 ?_
  refine va_sld hx hb hX hbl hbA hS i1 dL_law_704 ?_
  refine lv_aload_n hx hb dL_law_705 rfl (lv_at hl 4 rfl) ?_
  obtain ⟨g1, g2, g3⟩ := P_truth hr (xs (i + 1).toNatClampNeg)
  refine lTi (zRunSW (n := 3) (As := [.ref (a 0), .int (xs (i + 1).toNatClampNeg), .ref o]) (rest := []) ⟨hx, hb, hml, hown, hts⟩ (tL_truth l hfl C.1 C.2.2.2.1 u f (xs (i + 1).toNatClampNeg) g1) (pay_in hts zgWt) List.mem_cons_self (hts _ (zgWt _ List.mem_cons_self).1) rfl rfl (Nat.le_of_ble_eq_true rfl) (Nat.le_of_ble_eq_true rfl) (hts _ (zc (zin (by decide +kernel) (by decide +kernel)))) (hts _ (zc (zin (by decide +kernel) (by decide +kernel)))) (hts _ (zc (zin (by decide +kernel) (by decide +kernel)))) (by decide +kernel) (zpl hP.1 hP.2.2 hEx hXx hN hS.1 (fun q h9 _ => hS.2.1 q h9 (Nat.not_le.mpr h9))) rfl rfl hl.1 rfl (lv_room (Nat.le_of_ble_eq_true rfl)) dL_law_706 ⟨by show _ ≤ 1080; omega, by show _ ≤ 15978; omega⟩) hS hP C (fun H locs hP hS => ?_)
  refine lv_istore (lv' := [(5, .int (Int32.ofNat (FX_truth u (xs (i + 1).toNatClampNeg)).1)), (4, .int i), (0, .ref b0), (1, .ref (a 0)), (2, .ref (b 0)), (3, .ref o)]) hx hb dL_law_709 hl (by decide) rfl (fun ls hl => ?_)
  refine lv_aload_n hx hb dL_law_711 rfl (lv_at hl 4 rfl) ?_
  refine lv_aload_n hx hb dL_law_712 rfl (lv_at hl 2 rfl) ?_
  refine lv_iload hx hb dL_law_713 (lv_at hl 1 rfl) ?_
  refine lv_iconst (v := 1) hx hb dL_law_715 (by decide) ?_
  refine lv_iadd hx hb dL_law_716 ?_
  refine va_sld hx hb hX hbl hbA hS i1 dL_law_717 ?_
  refine lMi (W.runV (As := [.int (xs (i + 1).toNatClampNeg)]) (rest := []) ⟨hx, hb, hml, hown, hts⟩ (tM_truth l C.2.1 v (xs (i + 1).toNatClampNeg) g2) (cwV 1 hts gL_M_truth rfl rfl rfl (by decide +kernel) ⟨(Nat.le_of_ble_eq_true rfl), (Nat.le_of_ble_eq_true rfl)⟩) (zpre hP.2.1 hEm (fun q h9 _ => hS.2.1 q h9 (Nat.not_le.mpr h9)) (va_recv hEm.1 hP.2.1 (ci := 7) (q0 := 0) rfl rfl)) rfl rfl hl.1 rfl (lv_room (Nat.le_of_ble_eq_true rfl)) dL_law_718 ⟨by show _ ≤ 1080; omega, by show _ ≤ 15978; omega⟩) hS hP C (fun H locs hP hS => ?_)
  refine lv_istore (lv' := [(6, .int (FM_truth v (xs (i + 1).toNatClampNeg)).1), (5, .int (Int32.ofNat (FX_truth u (xs (i + 1).toNatClampNeg)).1)), (4, .int i), (0, .ref b0), (1, .ref (a 0)), (2, .ref (b 0)), (3, .ref o)]) hx hb dL_law_721 hl (by decide) rfl (fun ls hl => ?_)
  refine lv_goto (tgt := 869) hx hb dL_law_723 (by decide) ?_
  exact K _ _ _ _ _ _ _ _ g3 hP hS (lv_sub hl [2, 3, 4, 5, 6] rfl) (by omega) (by omega)
set_option maxHeartbeats 4000000 in
theorem lc11 (E : lEnv p l s m meth c b0 L xs D k a b o) (h1 : 1 ≤ i.toInt) (h2 : i.toInt + 6 ≤ (L : Int)) (hr : pRel u v) (hP : lP D k a b o u v f H) (hS : va_S (lA s.heap.size) s.heap H locs) (hl : lv_has ls 7 [(4, .int i), (0, .ref b0), (1, .ref (a 0)), (2, .ref (b 0)), (3, .ref o)]) (hc : cells + 1 ≤ 1080) (hs : slots + 6 ≤ 15978) (K : lK p l e s m below meth c D k a b o b0 i cells slots Q) : W p l e room_1 s m #[Value.ref b0] below meth c H locs cells slots Q (F0 m 726 ls []) := by
  obtain ⟨hx, hb, hret, hml, hown, hts, hX, hbl, hlocks, hfl, hEx, hEm, hXx, hN, C, hL⟩ := E
  have hbA : ¬ lA s.heap.size b0 := fun z => absurd hbl (Nat.not_lt.mpr z)
  obtain ⟨i0, i1, i2, i3, i4, i5⟩ := lin h1 h2 hL
  refine lv_aload_n hx hb dL_law_726 rfl (lv_at hl 2 rfl) ?_
  refine lv_aload_n hx hb dL_law_727 rfl (lv_at hl 1 rfl) ?_
  refine lv_iload hx hb dL_law_728 (lv_at hl 0 rfl) ?_
  refine lv_iconst (v := 1) hx hb dL_law_730 (by decide) ?_
  refine lv_iadd hx hb dL_law_731 ?_
  refine va_sld hx hb hX hbl hbA hS i1 dL_law_732 ?_
  obtain ⟨g1, g2, g3⟩ := P_asked hr (xs (i + 1).toNatClampNeg)
  refine vp_callSi (W.runV (As := [.int (xs (i + 1).toNatClampNeg)]) (rest := []) ⟨hx, hb, hml, hown, hts⟩ (tX_asked l C.1 u (xs (i + 1).toNatClampNeg) g1) (cwV 1 hts gL_X_asked rfl rfl rfl (by decide +kernel) ⟨(Nat.le_of_ble_eq_true rfl), (Nat.le_of_ble_eq_true rfl)⟩) (zpre hP.1 hEx (fun q h9 _ => hS.2.1 q h9 (Nat.not_le.mpr h9)) (va_recv hEx.1 hP.1 (ci := 0) (q0 := 0) rfl rfl)) rfl rfl hl.1 rfl (lv_room (Nat.le_of_ble_eq_true rfl)) dL_law_733 ⟨by show _ ≤ 1080; omega, by show _ ≤ 15978; omega⟩) (fun r9 hr9 => ?_)
  subst hr9
  refine lv_pop hx hb dL_law_736 rfl ?_
  refine lv_aload_n hx hb dL_law_737 rfl (lv_at hl 3 rfl) ?_
  refine lv_aload_n hx hb dL_law_738 rfl (lv_at hl 1 rfl) ?_
  refine lv_iload hx hb dL_law_739 (lv_at hl 0 rfl) ?_
  refine lv_iconst (v := 1) hx hb dL_law_741 (by decide) ?_
  refine lv_iadd hx hb dL_law_742 ?_
  refine va_sld hx hb hX hbl hbA hS i1 dL_law_743 ?_
  refine lMi (W.runV (As := [.int (xs (i + 1).toNatClampNeg)]) (rest := []) ⟨hx, hb, hml, hown, hts⟩ (tM_asked l C.2.1 v (xs (i + 1).toNatClampNeg) g2) (cwV 1 hts gL_M_asked rfl rfl rfl (by decide +kernel) ⟨(Nat.le_of_ble_eq_true rfl), (Nat.le_of_ble_eq_true rfl)⟩) (zpre hP.2.1 hEm (fun q h9 _ => hS.2.1 q h9 (Nat.not_le.mpr h9)) (va_recv hEm.1 hP.2.1 (ci := 7) (q0 := 0) rfl rfl)) rfl rfl hl.1 rfl (lv_room (Nat.le_of_ble_eq_true rfl)) dL_law_744 ⟨by show _ ≤ 1080; omega, by show _ ≤ 15978; omega⟩) hS hP C (fun H locs hP hS => ?_)
  refine lv_pop hx hb dL_law_747 rfl ?_
  refine lv_goto (tgt := 869) hx hb dL_law_748 (by decide) ?_
  exact K _ _ _ _ _ _ _ _ g3 hP hS hl (by omega) (by omega)
set_option maxHeartbeats 4000000 in
theorem lc12 (E : lEnv p l s m meth c b0 L xs D k a b o) (h1 : 1 ≤ i.toInt) (h2 : i.toInt + 6 ≤ (L : Int)) (hr : pRel u v) (hP : lP D k a b o u v f H) (hS : va_S (lA s.heap.size) s.heap H locs) (hl : lv_has ls 7 [(4, .int i), (0, .ref b0), (1, .ref (a 0)), (2, .ref (b 0)), (3, .ref o)]) (hc : cells + 1 ≤ 1080) (hs : slots + 6 ≤ 15978) (K : lK p l e s m below meth c D k a b o b0 i cells slots Q) : W p l e room_1 s m #[Value.ref b0] below meth c H locs cells slots Q (F0 m 751 ls []) := by
  obtain ⟨hx, hb, hret, hml, hown, hts, hX, hbl, hlocks, hfl, hEx, hEm, hXx, hN, C, hL⟩ := E
  have hbA : ¬ lA s.heap.size b0 := fun z => absurd hbl (Nat.not_lt.mpr z)
  obtain ⟨i0, i1, i2, i3, i4, i5⟩ := lin h1 h2 hL
  refine lv_aload_n hx hb dL_law_751 rfl (lv_at hl 2 rfl) ?_
  refine lv_aload_n hx hb dL_law_752 rfl (lv_at hl 1 rfl) ?_
  refine lv_iload hx hb dL_law_753 (lv_at hl 0 rfl) ?_
  refine lv_iconst (v := 1) hx hb dL_law_755 (by decide) ?_
  refine lv_iadd hx hb dL_law_756 ?_
  refine va_sld hx hb hX hbl hbA hS i1 dL_law_757 ?_
  refine lv_aload_n hx hb dL_law_758 rfl (lv_at hl 1 rfl) ?_
  refine lv_iload hx hb dL_law_759 (lv_at hl 0 rfl) ?_
  refine lv_iconst (v := 2) hx hb dL_law_761 (by decide) ?_
  refine lv_iadd hx hb dL_law_762 ?_
  refine va_sld hx hb hX hbl hbA hS i2 dL_law_763 ?_
  refine lv_if_eq (tgt := 771) hx hb dL_law_764 (by decide) (fun c1 => ?_) (fun c1 => ?_)
  · refine lv_iconst (v := 0) hx hb dL_law_771 (by decide) ?_
    obtain ⟨g1, g2, g3, g4⟩ := P_switchOn hr (xs (i + 1).toNatClampNeg) 0 (Or.inl rfl)
    refine lXi (W.runV (As := [.int (xs (i + 1).toNatClampNeg), .int 0]) (rest := []) ⟨hx, hb, hml, hown, hts⟩ (tX_switchOn l C.1 u (xs (i + 1).toNatClampNeg) 0 g1) (cwV 2 hts gL_X_switchOn rfl rfl rfl (by decide +kernel) ⟨(Nat.le_of_ble_eq_true rfl), (Nat.le_of_ble_eq_true rfl)⟩) (zpre hP.1 hEx (fun q h9 _ => hS.2.1 q h9 (Nat.not_le.mpr h9)) (va_recv hEx.1 hP.1 (ci := 0) (q0 := 0) rfl rfl)) rfl rfl hl.1 rfl (lv_room (Nat.le_of_ble_eq_true rfl)) dL_law_772 ⟨by show _ ≤ 1080; omega, by show _ ≤ 15978; omega⟩) hS hP C (fun H locs hP hS => ?_)
    refine lv_pop hx hb dL_law_775 rfl ?_
    refine lv_aload_n hx hb dL_law_776 rfl (lv_at hl 3 rfl) ?_
    refine lv_aload_n hx hb dL_law_777 rfl (lv_at hl 1 rfl) ?_
    refine lv_iload hx hb dL_law_778 (lv_at hl 0 rfl) ?_
    refine lv_iconst (v := 1) hx hb dL_law_780 (by decide) ?_
    refine lv_iadd hx hb dL_law_781 ?_
    refine va_sld hx hb hX hbl hbA hS i1 dL_law_782 ?_
    refine lv_aload_n hx hb dL_law_783 rfl (lv_at hl 1 rfl) ?_
    refine lv_iload hx hb dL_law_784 (lv_at hl 0 rfl) ?_
    refine lv_iconst (v := 2) hx hb dL_law_786 (by decide) ?_
    refine lv_iadd hx hb dL_law_787 ?_
    refine va_sld hx hb hX hbl hbA hS i2 dL_law_788 ?_
    refine lv_if_eq (tgt := 796) hx hb dL_law_789 (by decide) (fun c2 => ?_) (fun c2 => absurd c1 c2)
    refine lv_iconst (v := 0) hx hb dL_law_796 (by decide) ?_
    refine lMi (W.runV (As := [.int (xs (i + 1).toNatClampNeg), .int 0]) (rest := []) ⟨hx, hb, hml, hown, hts⟩ (tM_switchOn l C.2.1 v (xs (i + 1).toNatClampNeg) 0 g2) (cwV 2 hts gL_M_switchOn rfl rfl rfl (by decide +kernel) ⟨(Nat.le_of_ble_eq_true rfl), (Nat.le_of_ble_eq_true rfl)⟩) (zpre hP.2.1 hEm (fun q h9 _ => hS.2.1 q h9 (Nat.not_le.mpr h9)) (va_recv hEm.1 hP.2.1 (ci := 7) (q0 := 0) rfl rfl)) rfl rfl hl.1 rfl (lv_room (Nat.le_of_ble_eq_true rfl)) dL_law_797 ⟨by show _ ≤ 1080; omega, by show _ ≤ 15978; omega⟩) hS hP C (fun H locs hP hS => ?_)
    refine lv_pop hx hb dL_law_800 rfl ?_
    refine lv_goto (tgt := 869) hx hb dL_law_801 (by decide) ?_
    exact K _ _ _ _ _ _ _ _ g4 hP hS hl (by omega) (by omega)
  · refine lv_iconst (v := 1) hx hb dL_law_767 (by decide) ?_
    refine lv_goto (tgt := 772) hx hb dL_law_768 (by decide) ?_
    obtain ⟨g1, g2, g3, g4⟩ := P_switchOn hr (xs (i + 1).toNatClampNeg) 1 (Or.inr rfl)
    refine lXi (W.runV (As := [.int (xs (i + 1).toNatClampNeg), .int 1]) (rest := []) ⟨hx, hb, hml, hown, hts⟩ (tX_switchOn l C.1 u (xs (i + 1).toNatClampNeg) 1 g1) (cwV 2 hts gL_X_switchOn rfl rfl rfl (by decide +kernel) ⟨(Nat.le_of_ble_eq_true rfl), (Nat.le_of_ble_eq_true rfl)⟩) (zpre hP.1 hEx (fun q h9 _ => hS.2.1 q h9 (Nat.not_le.mpr h9)) (va_recv hEx.1 hP.1 (ci := 0) (q0 := 0) rfl rfl)) rfl rfl hl.1 rfl (lv_room (Nat.le_of_ble_eq_true rfl)) dL_law_772 ⟨by show _ ≤ 1080; omega, by show _ ≤ 15978; omega⟩) hS hP C (fun H locs hP hS => ?_)
    refine lv_pop hx hb dL_law_775 rfl ?_
    refine lv_aload_n hx hb dL_law_776 rfl (lv_at hl 3 rfl) ?_
    refine lv_aload_n hx hb dL_law_777 rfl (lv_at hl 1 rfl) ?_
    refine lv_iload hx hb dL_law_778 (lv_at hl 0 rfl) ?_
    refine lv_iconst (v := 1) hx hb dL_law_780 (by decide) ?_
    refine lv_iadd hx hb dL_law_781 ?_
    refine va_sld hx hb hX hbl hbA hS i1 dL_law_782 ?_
    refine lv_aload_n hx hb dL_law_783 rfl (lv_at hl 1 rfl) ?_
    refine lv_iload hx hb dL_law_784 (lv_at hl 0 rfl) ?_
    refine lv_iconst (v := 2) hx hb dL_law_786 (by decide) ?_
    refine lv_iadd hx hb dL_law_787 ?_
    refine va_sld hx hb hX hbl hbA hS i2 dL_law_788 ?_
    refine lv_if_eq (tgt := 796) hx hb dL_law_789 (by decide) (fun c2 => absurd c2 c1) (fun c2 => ?_)
    refine lv_iconst (v := 1) hx hb dL_law_792 (by decide) ?_
    refine lv_goto (tgt := 797) hx hb dL_law_793 (by decide) ?_
    refine lMi (W.runV (As := [.int (xs (i + 1).toNatClampNeg), .int 1]) (rest := []) ⟨hx, hb, hml, hown, hts⟩ (tM_switchOn l C.2.1 v (xs (i + 1).toNatClampNeg) 1 g2) (cwV 2 hts gL_M_switchOn rfl rfl rfl (by decide +kernel) ⟨(Nat.le_of_ble_eq_true rfl), (Nat.le_of_ble_eq_true rfl)⟩) (zpre hP.2.1 hEm (fun q h9 _ => hS.2.1 q h9 (Nat.not_le.mpr h9)) (va_recv hEm.1 hP.2.1 (ci := 7) (q0 := 0) rfl rfl)) rfl rfl hl.1 rfl (lv_room (Nat.le_of_ble_eq_true rfl)) dL_law_797 ⟨by show _ ≤ 1080; omega, by show _ ≤ 15978; omega⟩) hS hP C (fun H locs hP hS => ?_)
    refine lv_pop hx hb dL_law_800 rfl ?_
    refine lv_goto (tgt := 869) hx hb dL_law_801 (by decide) ?_
    exact K _ _ _ _ _ _ _ _ g4 hP hS hl (by omega) (by omega)
set_option maxHeartbeats 4000000 in
theorem lc13 (E : lEnv p l s m meth c b0 L xs D k a b o) (h1 : 1 ≤ i.toInt) (h2 : i.toInt + 6 ≤ (L : Int)) (hr : pRel u v) (hP : lP D k a b o u v f H) (hS : va_S (lA s.heap.size) s.heap H locs) (hl : lv_has ls 7 [(4, .int i), (0, .ref b0), (1, .ref (a 0)), (2, .ref (b 0)), (3, .ref o)]) (hc : cells + 1 ≤ 1080) (hs : slots + 6 ≤ 15978) (K : lK p l e s m below meth c D k a b o b0 i cells slots Q) : W p l e room_1 s m #[Value.ref b0] below meth c H locs cells slots Q (F0 m 804 ls []) := by
  obtain ⟨hx, hb, hret, hml, hown, hts, hX, hbl, hlocks, hfl, hEx, hEm, hXx, hN, C, hL⟩ := E
  have hbA : ¬ lA s.heap.size b0 := fun z => absurd hbl (Nat.not_lt.mpr z)
  obtain ⟨i0, i1, i2, i3, i4, i5⟩ := lin h1 h2 hL
  refine lv_aload_n hx hb dL_law_804 rfl (lv_at hl 2 rfl) ?_
  refine lv_aload_n hx hb dL_law_805 rfl (lv_at hl 1 rfl) ?_
  refine lv_iload hx hb dL_law_806 (lv_at hl 0 rfl) ?_
  refine lv_iconst (v := 1) hx hb dL_law_808 (by decide) ?_
  refine lv_iadd hx hb dL_law_809 ?_
  refine va_sld hx hb hX hbl hbA hS i1 dL_law_810 ?_
  refine lv_aload_n hx hb dL_law_811 rfl (lv_at hl 1 rfl) ?_
  refine lv_iload hx hb dL_law_812 (lv_at hl 0 rfl) ?_
  refine lv_iconst (v := 2) hx hb dL_law_814 (by decide) ?_
  refine lv_iadd hx hb dL_law_815 ?_
  refine va_sld hx hb hX hbl hbA hS i2 dL_law_816 ?_
  refine lv_aload_n hx hb dL_law_817 rfl (lv_at hl 4 rfl) ?_
  obtain ⟨g1, g2, g3⟩ := P_compare hr (xs (i + 1).toNatClampNeg) (xs (i + 2).toNatClampNeg)
  refine lTi (zRunSW (n := 4) (As := [.ref (a 0), .int (xs (i + 1).toNatClampNeg), .int (xs (i + 2).toNatClampNeg), .ref o]) (rest := []) ⟨hx, hb, hml, hown, hts⟩ (tL_compare l hfl C.1 C.2.2.2.1 u f (xs (i + 1).toNatClampNeg) (xs (i + 2).toNatClampNeg) g1) (pay_in hts zgWc) List.mem_cons_self (hts _ (zgWc _ List.mem_cons_self).1) rfl rfl (Nat.le_of_ble_eq_true rfl) (Nat.le_of_ble_eq_true rfl) (hts _ (zc (zin (by decide +kernel) (by decide +kernel)))) (hts _ (zc (zin (by decide +kernel) (by decide +kernel)))) (hts _ (zc (zin (by decide +kernel) (by decide +kernel)))) (by decide +kernel) (zpl hP.1 hP.2.2 hEx hXx hN hS.1 (fun q h9 _ => hS.2.1 q h9 (Nat.not_le.mpr h9))) rfl rfl hl.1 rfl (lv_room (Nat.le_of_ble_eq_true rfl)) dL_law_818 ⟨by show _ ≤ 1080; omega, by show _ ≤ 15978; omega⟩) hS hP C (fun H locs hP hS => ?_)
  refine lv_istore (lv' := [(5, .int (Int32.ofNat (FX_compare u (xs (i + 1).toNatClampNeg) (xs (i + 2).toNatClampNeg)).1)), (4, .int i), (0, .ref b0), (1, .ref (a 0)), (2, .ref (b 0)), (3, .ref o)]) hx hb dL_law_821 hl (by decide) rfl (fun ls hl => ?_)
  refine lv_aload_n hx hb dL_law_823 rfl (lv_at hl 4 rfl) ?_
  refine lv_aload_n hx hb dL_law_824 rfl (lv_at hl 2 rfl) ?_
  refine lv_iload hx hb dL_law_825 (lv_at hl 1 rfl) ?_
  refine lv_iconst (v := 1) hx hb dL_law_827 (by decide) ?_
  refine lv_iadd hx hb dL_law_828 ?_
  refine va_sld hx hb hX hbl hbA hS i1 dL_law_829 ?_
  refine lv_aload_n hx hb dL_law_830 rfl (lv_at hl 2 rfl) ?_
  refine lv_iload hx hb dL_law_831 (lv_at hl 1 rfl) ?_
  refine lv_iconst (v := 2) hx hb dL_law_833 (by decide) ?_
  refine lv_iadd hx hb dL_law_834 ?_
  refine va_sld hx hb hX hbl hbA hS i2 dL_law_835 ?_
  refine lMi (W.runV (As := [.int (xs (i + 1).toNatClampNeg), .int (xs (i + 2).toNatClampNeg)]) (rest := []) ⟨hx, hb, hml, hown, hts⟩ (tM_compare l C.2.1 v (xs (i + 1).toNatClampNeg) (xs (i + 2).toNatClampNeg) g2) (cwV 2 hts gL_M_compare rfl rfl rfl (by decide +kernel) ⟨(Nat.le_of_ble_eq_true rfl), (Nat.le_of_ble_eq_true rfl)⟩) (zpre hP.2.1 hEm (fun q h9 _ => hS.2.1 q h9 (Nat.not_le.mpr h9)) (va_recv hEm.1 hP.2.1 (ci := 7) (q0 := 0) rfl rfl)) rfl rfl hl.1 rfl (lv_room (Nat.le_of_ble_eq_true rfl)) dL_law_836 ⟨by show _ ≤ 1080; omega, by show _ ≤ 15978; omega⟩) hS hP C (fun H locs hP hS => ?_)
  refine lv_istore (lv' := [(6, .int (FM_compare v (xs (i + 1).toNatClampNeg) (xs (i + 2).toNatClampNeg)).1), (5, .int (Int32.ofNat (FX_compare u (xs (i + 1).toNatClampNeg) (xs (i + 2).toNatClampNeg)).1)), (4, .int i), (0, .ref b0), (1, .ref (a 0)), (2, .ref (b 0)), (3, .ref o)]) hx hb dL_law_839 hl (by decide) rfl (fun ls hl => ?_)
  refine lv_goto (tgt := 869) hx hb dL_law_841 (by decide) ?_
  exact K _ _ _ _ _ _ _ _ g3 hP hS (lv_sub hl [2, 3, 4, 5, 6] rfl) (by omega) (by omega)
set_option maxHeartbeats 4000000 in
theorem lc14 (E : lEnv p l s m meth c b0 L xs D k a b o) (h1 : 1 ≤ i.toInt) (h2 : i.toInt + 6 ≤ (L : Int)) (hr : pRel u v) (hP : lP D k a b o u v f H) (hS : va_S (lA s.heap.size) s.heap H locs) (hl : lv_has ls 7 [(4, .int i), (0, .ref b0), (1, .ref (a 0)), (2, .ref (b 0)), (3, .ref o)]) (hc : cells + 1 ≤ 1080) (hs : slots + 6 ≤ 15978) (K : lK p l e s m below meth c D k a b o b0 i cells slots Q) : W p l e room_1 s m #[Value.ref b0] below meth c H locs cells slots Q (F0 m 844 ls []) := by
  obtain ⟨hx, hb, hret, hml, hown, hts, hX, hbl, hlocks, hfl, hEx, hEm, hXx, hN, C, hL⟩ := E
  have hbA : ¬ lA s.heap.size b0 := fun z => absurd hbl (Nat.not_lt.mpr z)
  obtain ⟨i0, i1, i2, i3, i4, i5⟩ := lin h1 h2 hL
  refine lv_aload_n hx hb dL_law_844 rfl (lv_at hl 2 rfl) ?_
  refine lv_aload_n hx hb dL_law_845 rfl (lv_at hl 1 rfl) ?_
  refine lv_iload hx hb dL_law_846 (lv_at hl 0 rfl) ?_
  refine lv_iconst (v := 1) hx hb dL_law_848 (by decide) ?_
  refine lv_iadd hx hb dL_law_849 ?_
  refine va_sld hx hb hX hbl hbA hS i1 dL_law_850 ?_
  obtain ⟨g1, g2, g3⟩ := P_count hr (xs (i + 1).toNatClampNeg)
  refine vp_callSi (W.runV (As := [.int (xs (i + 1).toNatClampNeg)]) (rest := []) ⟨hx, hb, hml, hown, hts⟩ (tX_count l C.1 u (xs (i + 1).toNatClampNeg) g1) (cwV 1 hts gL_X_count rfl rfl rfl (by decide +kernel) ⟨(Nat.le_of_ble_eq_true rfl), (Nat.le_of_ble_eq_true rfl)⟩) (zpre hP.1 hEx (fun q h9 _ => hS.2.1 q h9 (Nat.not_le.mpr h9)) (va_recv hEx.1 hP.1 (ci := 0) (q0 := 0) rfl rfl)) rfl rfl hl.1 rfl (lv_room (Nat.le_of_ble_eq_true rfl)) dL_law_851 ⟨by show _ ≤ 1080; omega, by show _ ≤ 15978; omega⟩) (fun r9 hr9 => ?_)
  subst hr9
  refine lv_pop hx hb dL_law_854 rfl ?_
  refine lv_aload_n hx hb dL_law_855 rfl (lv_at hl 3 rfl) ?_
  refine lv_aload_n hx hb dL_law_856 rfl (lv_at hl 1 rfl) ?_
  refine lv_iload hx hb dL_law_857 (lv_at hl 0 rfl) ?_
  refine lv_iconst (v := 1) hx hb dL_law_859 (by decide) ?_
  refine lv_iadd hx hb dL_law_860 ?_
  refine va_sld hx hb hX hbl hbA hS i1 dL_law_861 ?_
  refine lMi (W.runV (As := [.int (xs (i + 1).toNatClampNeg)]) (rest := []) ⟨hx, hb, hml, hown, hts⟩ (tM_count l C.2.1 v (xs (i + 1).toNatClampNeg) g2) (cwV 1 hts gL_M_count rfl rfl rfl (by decide +kernel) ⟨(Nat.le_of_ble_eq_true rfl), (Nat.le_of_ble_eq_true rfl)⟩) (zpre hP.2.1 hEm (fun q h9 _ => hS.2.1 q h9 (Nat.not_le.mpr h9)) (va_recv hEm.1 hP.2.1 (ci := 7) (q0 := 0) rfl rfl)) rfl rfl hl.1 rfl (lv_room (Nat.le_of_ble_eq_true rfl)) dL_law_862 ⟨by show _ ≤ 1080; omega, by show _ ≤ 15978; omega⟩) hS hP C (fun H locs hP hS => ?_)
  refine lv_pop hx hb dL_law_865 rfl ?_
  refine lv_goto (tgt := 869) hx hb dL_law_866 (by decide) ?_
  exact K _ _ _ _ _ _ _ _ g3 hP hS hl (by omega) (by omega)
end LG

