/-! the law as the machine runs it, from its loop on -/
section
variable {p : Program} {l : Launch} {e : Env} {s : State} {m : MethodId} {below : List Frame} {meth : Method} {c : Code} {b L i : Nat} {xs : Nat → Int32}
/-- the way on behind a call -/
def CON (p : Program) (l : Launch) (e : Env) (s : State) (m : MethodId) (below : List Frame) (meth : Method) (c : Code) (b i : Nat) : Prop := ∀ (Y : LY) (σ : St) (H : Heap) (locs : List Loc) (ls : Array Slot), MC p s m #[Value.ref b] meth c cL_law 4 (some .boolean) R_law Y → yN Y = 108 → c0s Y 3 9 → INV σ → WS Y (fun q : Nat => s.heap.size ≤ q) s.heap σ H locs → lv_has ls 4 [(0, .ref b), (1, .ref (yA Y 0)), (2, .ref (yA Y 92)), (3, .int (nI i))] → W p l e room_1 s m #[Value.ref b] below meth c H locs 600000 7302250 (lw_Z below #[Value.ref b] s) (F0 m 868 ls [])
theorem at_i (hL : L ≤ 256) (hi : i + 4 ≤ L) (j : Nat) (hj : j < 4) : vp_in (nI i + nI j) L := by
  rw [nI_add]; exact nI_in (by omega) (by omega)
theorem q_goX {R : Room} {args : Array Value} {H : Heap} {locs : List Loc} {cells slots : Nat} {Q : State → Prop} {pc : Nat} {ls : Array Slot} {rest : List Value} {A : Nat → Prop} {H0 : Heap} {Y : LY} {σ : St} {a : Array Value} {st : List Value} {Qp : Int32 → Bool × St → Prop} (hN : yN Y = 108) (hw : WS Y A H0 σ H locs) (hr : va_Run p l e R s m args below meth c H locs cells slots 0 0 (F0 m pc ls st) rest (QX Y Qp a) (AD Y)) (kk : ∀ (r : Int32) (b : Bool) (σ1 : St) (H1 : Heap) (locs1 : List Loc), Qp r (b, σ1) → WS (Yb Y b) A H0 σ1 H1 locs1 → W p l e R s m args below meth c H1 locs1 cells slots Q (F0 m (pc + 3) ls (.int r :: rest))) : W p l e R s m args below meth c H locs cells slots Q (F0 m pc ls st) :=
  va_calli hr hw.2.2 (fun q _ h => wd_AA hw.2.1 q h) (wd_AA hw.2.1) (fun r u t H1 locs1 ht _ hq hB _ _ hS => kk r u.1 u.2 H1 locs1 hq ⟨by rw [← ht]; exact hB.1, by
    obtain ⟨b, σ1⟩ := u
    cases b
    · exact wd_D hw.2.1
    · exact sw_D hN hw.2.1, hS⟩)
theorem dL_law_0 : decode cL_law 0 = .ok (.new 7, 3) := by decide +kernel
theorem dL_law_3 : decode cL_law 3 = .ok (.dup, 1) := by decide +kernel
theorem dL_law_4 : decode cL_law 4 = .ok (.invokespecial 9, 3) := by decide +kernel
theorem dL_law_7 : decode cL_law 7 = .ok (.astore_n 1, 1) := by decide +kernel
theorem dL_law_8 : decode cL_law 8 = .ok (.new 10, 3) := by decide +kernel
theorem dL_law_11 : decode cL_law 11 = .ok (.dup, 1) := by decide +kernel
theorem dL_law_12 : decode cL_law 12 = .ok (.invokespecial 12, 3) := by decide +kernel
theorem dL_law_15 : decode cL_law 15 = .ok (.astore_n 2, 1) := by decide +kernel
theorem dL_law_16 : decode cL_law 16 = .ok (.iconst 0, 1) := by decide +kernel
theorem dL_law_17 : decode cL_law 17 = .ok (.istore_n 3, 1) := by decide +kernel
theorem dL_law_18 : decode cL_law 18 = .ok (.iload_n 3, 1) := by decide +kernel
theorem dL_law_19 : decode cL_law 19 = .ok (.aload_n 0, 1) := by decide +kernel
theorem dL_law_20 : decode cL_law 20 = .ok (.arraylength, 1) := by decide +kernel
theorem dL_law_21 : decode cL_law 21 = .ok (.iconst 4, 1) := by decide +kernel
theorem dL_law_22 : decode cL_law 22 = .ok (.isub, 1) := by decide +kernel
theorem dL_law_23 : decode cL_law 23 = .ok (.if_icmp .gt 851, 3) := by decide +kernel
theorem dL_law_26 : decode cL_law 26 = .ok (.aload_n 0, 1) := by decide +kernel
theorem dL_law_27 : decode cL_law 27 = .ok (.iload_n 3, 1) := by decide +kernel
theorem dL_law_28 : decode cL_law 28 = .ok (.iaload, 1) := by decide +kernel
theorem dL_law_29 : decode cL_law 29 = .ok (.bipush 31, 2) := by decide +kernel
theorem dL_law_31 : decode cL_law 31 = .ok (.iand, 1) := by decide +kernel
theorem dL_law_32 : decode cL_law 32 = .ok (.tableswitch 836 0 26 #[124, 147, 160, 173, 206, 239, 272, 295, 328, 341, 384, 417, 440, 453, 496, 539, 562, 585, 608, 651, 664, 677, 720, 753, 776, 799, 822], 124) := by decide +kernel
theorem dL_law_156 : decode cL_law 156 = .ok (.aload_n 1, 1) := by decide +kernel
theorem dL_law_157 : decode cL_law 157 = .ok (.aload_n 0, 1) := by decide +kernel
theorem dL_law_158 : decode cL_law 158 = .ok (.iload_n 3, 1) := by decide +kernel
theorem dL_law_159 : decode cL_law 159 = .ok (.iconst 1, 1) := by decide +kernel
theorem dL_law_160 : decode cL_law 160 = .ok (.iadd, 1) := by decide +kernel
theorem dL_law_161 : decode cL_law 161 = .ok (.iaload, 1) := by decide +kernel
theorem dL_law_162 : decode cL_law 162 = .ok (.invokevirtual 13, 3) := by decide +kernel
theorem dL_law_165 : decode cL_law 165 = .ok (.aload_n 2, 1) := by decide +kernel
theorem dL_law_166 : decode cL_law 166 = .ok (.aload_n 0, 1) := by decide +kernel
theorem dL_law_167 : decode cL_law 167 = .ok (.iload_n 3, 1) := by decide +kernel
theorem dL_law_168 : decode cL_law 168 = .ok (.iconst 1, 1) := by decide +kernel
theorem dL_law_169 : decode cL_law 169 = .ok (.iadd, 1) := by decide +kernel
theorem dL_law_170 : decode cL_law 170 = .ok (.iaload, 1) := by decide +kernel
theorem dL_law_171 : decode cL_law 171 = .ok (.invokevirtual 17, 3) := by decide +kernel
theorem dL_law_174 : decode cL_law 174 = .ok (.if_icmp .eq 694, 3) := by decide +kernel
theorem dL_law_179 : decode cL_law 179 = .ok (.aload_n 1, 1) := by decide +kernel
theorem dL_law_180 : decode cL_law 180 = .ok (.invokevirtual 18, 3) := by decide +kernel
theorem dL_law_183 : decode cL_law 183 = .ok (.aload_n 2, 1) := by decide +kernel
theorem dL_law_184 : decode cL_law 184 = .ok (.invokevirtual 22, 3) := by decide +kernel
theorem dL_law_187 : decode cL_law 187 = .ok (.if_icmp .eq 681, 3) := by decide +kernel
theorem dL_law_192 : decode cL_law 192 = .ok (.aload_n 1, 1) := by decide +kernel
theorem dL_law_193 : decode cL_law 193 = .ok (.invokevirtual 23, 3) := by decide +kernel
theorem dL_law_196 : decode cL_law 196 = .ok (.aload_n 2, 1) := by decide +kernel
theorem dL_law_197 : decode cL_law 197 = .ok (.invokevirtual 26, 3) := by decide +kernel
theorem dL_law_200 : decode cL_law 200 = .ok (.if_icmp .eq 668, 3) := by decide +kernel
theorem dL_law_205 : decode cL_law 205 = .ok (.aload_n 1, 1) := by decide +kernel
theorem dL_law_206 : decode cL_law 206 = .ok (.aload_n 0, 1) := by decide +kernel
theorem dL_law_207 : decode cL_law 207 = .ok (.iload_n 3, 1) := by decide +kernel
theorem dL_law_208 : decode cL_law 208 = .ok (.iconst 1, 1) := by decide +kernel
theorem dL_law_209 : decode cL_law 209 = .ok (.iadd, 1) := by decide +kernel
theorem dL_law_210 : decode cL_law 210 = .ok (.iaload, 1) := by decide +kernel
theorem dL_law_211 : decode cL_law 211 = .ok (.aload_n 0, 1) := by decide +kernel
theorem dL_law_212 : decode cL_law 212 = .ok (.iload_n 3, 1) := by decide +kernel
theorem dL_law_213 : decode cL_law 213 = .ok (.iconst 2, 1) := by decide +kernel
theorem dL_law_214 : decode cL_law 214 = .ok (.iadd, 1) := by decide +kernel
theorem dL_law_215 : decode cL_law 215 = .ok (.iaload, 1) := by decide +kernel
theorem dL_law_216 : decode cL_law 216 = .ok (.invokevirtual 27, 3) := by decide +kernel
theorem dL_law_219 : decode cL_law 219 = .ok (.aload_n 2, 1) := by decide +kernel
theorem dL_law_220 : decode cL_law 220 = .ok (.aload_n 0, 1) := by decide +kernel
theorem dL_law_221 : decode cL_law 221 = .ok (.iload_n 3, 1) := by decide +kernel
theorem dL_law_222 : decode cL_law 222 = .ok (.iconst 1, 1) := by decide +kernel
theorem dL_law_223 : decode cL_law 223 = .ok (.iadd, 1) := by decide +kernel
theorem dL_law_224 : decode cL_law 224 = .ok (.iaload, 1) := by decide +kernel
theorem dL_law_225 : decode cL_law 225 = .ok (.aload_n 0, 1) := by decide +kernel
theorem dL_law_226 : decode cL_law 226 = .ok (.iload_n 3, 1) := by decide +kernel
theorem dL_law_227 : decode cL_law 227 = .ok (.iconst 2, 1) := by decide +kernel
theorem dL_law_228 : decode cL_law 228 = .ok (.iadd, 1) := by decide +kernel
theorem dL_law_229 : decode cL_law 229 = .ok (.iaload, 1) := by decide +kernel
theorem dL_law_230 : decode cL_law 230 = .ok (.invokevirtual 31, 3) := by decide +kernel
theorem dL_law_233 : decode cL_law 233 = .ok (.if_icmp .eq 635, 3) := by decide +kernel
theorem dL_law_238 : decode cL_law 238 = .ok (.aload_n 1, 1) := by decide +kernel
theorem dL_law_239 : decode cL_law 239 = .ok (.aload_n 0, 1) := by decide +kernel
theorem dL_law_240 : decode cL_law 240 = .ok (.iload_n 3, 1) := by decide +kernel
theorem dL_law_241 : decode cL_law 241 = .ok (.iconst 1, 1) := by decide +kernel
theorem dL_law_242 : decode cL_law 242 = .ok (.iadd, 1) := by decide +kernel
theorem dL_law_243 : decode cL_law 243 = .ok (.iaload, 1) := by decide +kernel
theorem dL_law_244 : decode cL_law 244 = .ok (.aload_n 0, 1) := by decide +kernel
theorem dL_law_245 : decode cL_law 245 = .ok (.iload_n 3, 1) := by decide +kernel
theorem dL_law_246 : decode cL_law 246 = .ok (.iconst 2, 1) := by decide +kernel
theorem dL_law_247 : decode cL_law 247 = .ok (.iadd, 1) := by decide +kernel
theorem dL_law_248 : decode cL_law 248 = .ok (.iaload, 1) := by decide +kernel
theorem dL_law_249 : decode cL_law 249 = .ok (.invokevirtual 32, 3) := by decide +kernel
theorem dL_law_252 : decode cL_law 252 = .ok (.aload_n 2, 1) := by decide +kernel
theorem dL_law_253 : decode cL_law 253 = .ok (.aload_n 0, 1) := by decide +kernel
theorem dL_law_254 : decode cL_law 254 = .ok (.iload_n 3, 1) := by decide +kernel
theorem dL_law_255 : decode cL_law 255 = .ok (.iconst 1, 1) := by decide +kernel
theorem dL_law_256 : decode cL_law 256 = .ok (.iadd, 1) := by decide +kernel
theorem dL_law_257 : decode cL_law 257 = .ok (.iaload, 1) := by decide +kernel
theorem dL_law_258 : decode cL_law 258 = .ok (.aload_n 0, 1) := by decide +kernel
theorem dL_law_259 : decode cL_law 259 = .ok (.iload_n 3, 1) := by decide +kernel
theorem dL_law_260 : decode cL_law 260 = .ok (.iconst 2, 1) := by decide +kernel
theorem dL_law_261 : decode cL_law 261 = .ok (.iadd, 1) := by decide +kernel
theorem dL_law_262 : decode cL_law 262 = .ok (.iaload, 1) := by decide +kernel
theorem dL_law_263 : decode cL_law 263 = .ok (.invokevirtual 35, 3) := by decide +kernel
theorem dL_law_266 : decode cL_law 266 = .ok (.if_icmp .eq 602, 3) := by decide +kernel
theorem dL_law_271 : decode cL_law 271 = .ok (.aload_n 1, 1) := by decide +kernel
theorem dL_law_272 : decode cL_law 272 = .ok (.aload_n 0, 1) := by decide +kernel
theorem dL_law_273 : decode cL_law 273 = .ok (.iload_n 3, 1) := by decide +kernel
theorem dL_law_274 : decode cL_law 274 = .ok (.iconst 1, 1) := by decide +kernel
theorem dL_law_275 : decode cL_law 275 = .ok (.iadd, 1) := by decide +kernel
theorem dL_law_276 : decode cL_law 276 = .ok (.iaload, 1) := by decide +kernel
theorem dL_law_277 : decode cL_law 277 = .ok (.aload_n 0, 1) := by decide +kernel
theorem dL_law_278 : decode cL_law 278 = .ok (.iload_n 3, 1) := by decide +kernel
theorem dL_law_279 : decode cL_law 279 = .ok (.iconst 2, 1) := by decide +kernel
theorem dL_law_280 : decode cL_law 280 = .ok (.iadd, 1) := by decide +kernel
theorem dL_law_281 : decode cL_law 281 = .ok (.iaload, 1) := by decide +kernel
theorem dL_law_282 : decode cL_law 282 = .ok (.invokevirtual 36, 3) := by decide +kernel
theorem dL_law_285 : decode cL_law 285 = .ok (.aload_n 2, 1) := by decide +kernel
theorem dL_law_286 : decode cL_law 286 = .ok (.aload_n 0, 1) := by decide +kernel
theorem dL_law_287 : decode cL_law 287 = .ok (.iload_n 3, 1) := by decide +kernel
theorem dL_law_288 : decode cL_law 288 = .ok (.iconst 1, 1) := by decide +kernel
theorem dL_law_289 : decode cL_law 289 = .ok (.iadd, 1) := by decide +kernel
theorem dL_law_290 : decode cL_law 290 = .ok (.iaload, 1) := by decide +kernel
theorem dL_law_291 : decode cL_law 291 = .ok (.aload_n 0, 1) := by decide +kernel
theorem dL_law_292 : decode cL_law 292 = .ok (.iload_n 3, 1) := by decide +kernel
theorem dL_law_293 : decode cL_law 293 = .ok (.iconst 2, 1) := by decide +kernel
theorem dL_law_294 : decode cL_law 294 = .ok (.iadd, 1) := by decide +kernel
theorem dL_law_295 : decode cL_law 295 = .ok (.iaload, 1) := by decide +kernel
theorem dL_law_296 : decode cL_law 296 = .ok (.invokevirtual 39, 3) := by decide +kernel
theorem dL_law_299 : decode cL_law 299 = .ok (.if_icmp .eq 569, 3) := by decide +kernel
theorem dL_law_304 : decode cL_law 304 = .ok (.aload_n 1, 1) := by decide +kernel
theorem dL_law_305 : decode cL_law 305 = .ok (.aload_n 0, 1) := by decide +kernel
theorem dL_law_306 : decode cL_law 306 = .ok (.iload_n 3, 1) := by decide +kernel
theorem dL_law_307 : decode cL_law 307 = .ok (.iconst 1, 1) := by decide +kernel
theorem dL_law_308 : decode cL_law 308 = .ok (.iadd, 1) := by decide +kernel
theorem dL_law_309 : decode cL_law 309 = .ok (.iaload, 1) := by decide +kernel
theorem dL_law_310 : decode cL_law 310 = .ok (.invokevirtual 40, 3) := by decide +kernel
theorem dL_law_313 : decode cL_law 313 = .ok (.aload_n 2, 1) := by decide +kernel
theorem dL_law_314 : decode cL_law 314 = .ok (.aload_n 0, 1) := by decide +kernel
theorem dL_law_315 : decode cL_law 315 = .ok (.iload_n 3, 1) := by decide +kernel
theorem dL_law_316 : decode cL_law 316 = .ok (.iconst 1, 1) := by decide +kernel
theorem dL_law_317 : decode cL_law 317 = .ok (.iadd, 1) := by decide +kernel
theorem dL_law_318 : decode cL_law 318 = .ok (.iaload, 1) := by decide +kernel
theorem dL_law_319 : decode cL_law 319 = .ok (.invokevirtual 43, 3) := by decide +kernel
theorem dL_law_322 : decode cL_law 322 = .ok (.if_icmp .eq 546, 3) := by decide +kernel
theorem dL_law_327 : decode cL_law 327 = .ok (.aload_n 1, 1) := by decide +kernel
theorem dL_law_328 : decode cL_law 328 = .ok (.aload_n 0, 1) := by decide +kernel
theorem dL_law_329 : decode cL_law 329 = .ok (.iload_n 3, 1) := by decide +kernel
theorem dL_law_330 : decode cL_law 330 = .ok (.iconst 1, 1) := by decide +kernel
theorem dL_law_331 : decode cL_law 331 = .ok (.iadd, 1) := by decide +kernel
theorem dL_law_332 : decode cL_law 332 = .ok (.iaload, 1) := by decide +kernel
theorem dL_law_333 : decode cL_law 333 = .ok (.aload_n 0, 1) := by decide +kernel
theorem dL_law_334 : decode cL_law 334 = .ok (.iload_n 3, 1) := by decide +kernel
theorem dL_law_335 : decode cL_law 335 = .ok (.iconst 2, 1) := by decide +kernel
theorem dL_law_336 : decode cL_law 336 = .ok (.iadd, 1) := by decide +kernel
theorem dL_law_337 : decode cL_law 337 = .ok (.iaload, 1) := by decide +kernel
theorem dL_law_338 : decode cL_law 338 = .ok (.invokevirtual 44, 3) := by decide +kernel
theorem dL_law_341 : decode cL_law 341 = .ok (.aload_n 2, 1) := by decide +kernel
theorem dL_law_342 : decode cL_law 342 = .ok (.aload_n 0, 1) := by decide +kernel
theorem dL_law_343 : decode cL_law 343 = .ok (.iload_n 3, 1) := by decide +kernel
theorem dL_law_344 : decode cL_law 344 = .ok (.iconst 1, 1) := by decide +kernel
theorem dL_law_345 : decode cL_law 345 = .ok (.iadd, 1) := by decide +kernel
theorem dL_law_346 : decode cL_law 346 = .ok (.iaload, 1) := by decide +kernel
theorem dL_law_347 : decode cL_law 347 = .ok (.aload_n 0, 1) := by decide +kernel
theorem dL_law_348 : decode cL_law 348 = .ok (.iload_n 3, 1) := by decide +kernel
theorem dL_law_349 : decode cL_law 349 = .ok (.iconst 2, 1) := by decide +kernel
theorem dL_law_350 : decode cL_law 350 = .ok (.iadd, 1) := by decide +kernel
theorem dL_law_351 : decode cL_law 351 = .ok (.iaload, 1) := by decide +kernel
theorem dL_law_352 : decode cL_law 352 = .ok (.invokevirtual 47, 3) := by decide +kernel
theorem dL_law_355 : decode cL_law 355 = .ok (.if_icmp .eq 513, 3) := by decide +kernel
theorem dL_law_360 : decode cL_law 360 = .ok (.aload_n 1, 1) := by decide +kernel
theorem dL_law_361 : decode cL_law 361 = .ok (.invokevirtual 48, 3) := by decide +kernel
theorem dL_law_364 : decode cL_law 364 = .ok (.aload_n 2, 1) := by decide +kernel
theorem dL_law_365 : decode cL_law 365 = .ok (.invokevirtual 51, 3) := by decide +kernel
theorem dL_law_368 : decode cL_law 368 = .ok (.if_icmp .eq 500, 3) := by decide +kernel
theorem dL_law_373 : decode cL_law 373 = .ok (.aload_n 1, 1) := by decide +kernel
theorem dL_law_374 : decode cL_law 374 = .ok (.aload_n 0, 1) := by decide +kernel
theorem dL_law_375 : decode cL_law 375 = .ok (.iload_n 3, 1) := by decide +kernel
theorem dL_law_376 : decode cL_law 376 = .ok (.iconst 1, 1) := by decide +kernel
theorem dL_law_377 : decode cL_law 377 = .ok (.iadd, 1) := by decide +kernel
theorem dL_law_378 : decode cL_law 378 = .ok (.iaload, 1) := by decide +kernel
theorem dL_law_379 : decode cL_law 379 = .ok (.aload_n 0, 1) := by decide +kernel
theorem dL_law_380 : decode cL_law 380 = .ok (.iload_n 3, 1) := by decide +kernel
theorem dL_law_381 : decode cL_law 381 = .ok (.iconst 2, 1) := by decide +kernel
theorem dL_law_382 : decode cL_law 382 = .ok (.iadd, 1) := by decide +kernel
theorem dL_law_383 : decode cL_law 383 = .ok (.iaload, 1) := by decide +kernel
theorem dL_law_384 : decode cL_law 384 = .ok (.aload_n 0, 1) := by decide +kernel
theorem dL_law_385 : decode cL_law 385 = .ok (.iload_n 3, 1) := by decide +kernel
theorem dL_law_386 : decode cL_law 386 = .ok (.iconst 3, 1) := by decide +kernel
theorem dL_law_387 : decode cL_law 387 = .ok (.iadd, 1) := by decide +kernel
theorem dL_law_388 : decode cL_law 388 = .ok (.iaload, 1) := by decide +kernel
theorem dL_law_389 : decode cL_law 389 = .ok (.invokevirtual 52, 3) := by decide +kernel
theorem dL_law_392 : decode cL_law 392 = .ok (.aload_n 2, 1) := by decide +kernel
theorem dL_law_393 : decode cL_law 393 = .ok (.aload_n 0, 1) := by decide +kernel
theorem dL_law_394 : decode cL_law 394 = .ok (.iload_n 3, 1) := by decide +kernel
theorem dL_law_395 : decode cL_law 395 = .ok (.iconst 1, 1) := by decide +kernel
theorem dL_law_396 : decode cL_law 396 = .ok (.iadd, 1) := by decide +kernel
theorem dL_law_397 : decode cL_law 397 = .ok (.iaload, 1) := by decide +kernel
theorem dL_law_398 : decode cL_law 398 = .ok (.aload_n 0, 1) := by decide +kernel
theorem dL_law_399 : decode cL_law 399 = .ok (.iload_n 3, 1) := by decide +kernel
theorem dL_law_400 : decode cL_law 400 = .ok (.iconst 2, 1) := by decide +kernel
theorem dL_law_401 : decode cL_law 401 = .ok (.iadd, 1) := by decide +kernel
theorem dL_law_402 : decode cL_law 402 = .ok (.iaload, 1) := by decide +kernel
theorem dL_law_403 : decode cL_law 403 = .ok (.aload_n 0, 1) := by decide +kernel
theorem dL_law_404 : decode cL_law 404 = .ok (.iload_n 3, 1) := by decide +kernel
theorem dL_law_405 : decode cL_law 405 = .ok (.iconst 3, 1) := by decide +kernel
theorem dL_law_406 : decode cL_law 406 = .ok (.iadd, 1) := by decide +kernel
theorem dL_law_407 : decode cL_law 407 = .ok (.iaload, 1) := by decide +kernel
theorem dL_law_408 : decode cL_law 408 = .ok (.invokevirtual 56, 3) := by decide +kernel
theorem dL_law_411 : decode cL_law 411 = .ok (.if_icmp .eq 457, 3) := by decide +kernel
theorem dL_law_416 : decode cL_law 416 = .ok (.aload_n 1, 1) := by decide +kernel
theorem dL_law_417 : decode cL_law 417 = .ok (.aload_n 0, 1) := by decide +kernel
theorem dL_law_418 : decode cL_law 418 = .ok (.iload_n 3, 1) := by decide +kernel
theorem dL_law_419 : decode cL_law 419 = .ok (.iconst 1, 1) := by decide +kernel
theorem dL_law_420 : decode cL_law 420 = .ok (.iadd, 1) := by decide +kernel
theorem dL_law_421 : decode cL_law 421 = .ok (.iaload, 1) := by decide +kernel
theorem dL_law_422 : decode cL_law 422 = .ok (.aload_n 0, 1) := by decide +kernel
theorem dL_law_423 : decode cL_law 423 = .ok (.iload_n 3, 1) := by decide +kernel
theorem dL_law_424 : decode cL_law 424 = .ok (.iconst 2, 1) := by decide +kernel
theorem dL_law_425 : decode cL_law 425 = .ok (.iadd, 1) := by decide +kernel
theorem dL_law_426 : decode cL_law 426 = .ok (.iaload, 1) := by decide +kernel
theorem dL_law_427 : decode cL_law 427 = .ok (.invokevirtual 57, 3) := by decide +kernel
theorem dL_law_430 : decode cL_law 430 = .ok (.aload_n 2, 1) := by decide +kernel
theorem dL_law_431 : decode cL_law 431 = .ok (.aload_n 0, 1) := by decide +kernel
theorem dL_law_432 : decode cL_law 432 = .ok (.iload_n 3, 1) := by decide +kernel
theorem dL_law_433 : decode cL_law 433 = .ok (.iconst 1, 1) := by decide +kernel
theorem dL_law_434 : decode cL_law 434 = .ok (.iadd, 1) := by decide +kernel
theorem dL_law_435 : decode cL_law 435 = .ok (.iaload, 1) := by decide +kernel
theorem dL_law_436 : decode cL_law 436 = .ok (.aload_n 0, 1) := by decide +kernel
theorem dL_law_437 : decode cL_law 437 = .ok (.iload_n 3, 1) := by decide +kernel
theorem dL_law_438 : decode cL_law 438 = .ok (.iconst 2, 1) := by decide +kernel
theorem dL_law_439 : decode cL_law 439 = .ok (.iadd, 1) := by decide +kernel
theorem dL_law_440 : decode cL_law 440 = .ok (.iaload, 1) := by decide +kernel
theorem dL_law_441 : decode cL_law 441 = .ok (.invokevirtual 60, 3) := by decide +kernel
theorem dL_law_444 : decode cL_law 444 = .ok (.if_icmp .eq 424, 3) := by decide +kernel
theorem dL_law_449 : decode cL_law 449 = .ok (.aload_n 1, 1) := by decide +kernel
theorem dL_law_450 : decode cL_law 450 = .ok (.aload_n 0, 1) := by decide +kernel
theorem dL_law_451 : decode cL_law 451 = .ok (.iload_n 3, 1) := by decide +kernel
theorem dL_law_452 : decode cL_law 452 = .ok (.iconst 1, 1) := by decide +kernel
theorem dL_law_453 : decode cL_law 453 = .ok (.iadd, 1) := by decide +kernel
theorem dL_law_454 : decode cL_law 454 = .ok (.iaload, 1) := by decide +kernel
theorem dL_law_455 : decode cL_law 455 = .ok (.invokevirtual 61, 3) := by decide +kernel
theorem dL_law_458 : decode cL_law 458 = .ok (.aload_n 2, 1) := by decide +kernel
theorem dL_law_459 : decode cL_law 459 = .ok (.aload_n 0, 1) := by decide +kernel
theorem dL_law_460 : decode cL_law 460 = .ok (.iload_n 3, 1) := by decide +kernel
theorem dL_law_461 : decode cL_law 461 = .ok (.iconst 1, 1) := by decide +kernel
theorem dL_law_462 : decode cL_law 462 = .ok (.iadd, 1) := by decide +kernel
theorem dL_law_463 : decode cL_law 463 = .ok (.iaload, 1) := by decide +kernel
theorem dL_law_464 : decode cL_law 464 = .ok (.invokevirtual 64, 3) := by decide +kernel
theorem dL_law_467 : decode cL_law 467 = .ok (.if_icmp .eq 401, 3) := by decide +kernel
theorem dL_law_472 : decode cL_law 472 = .ok (.aload_n 1, 1) := by decide +kernel
theorem dL_law_473 : decode cL_law 473 = .ok (.invokevirtual 65, 3) := by decide +kernel
theorem dL_law_476 : decode cL_law 476 = .ok (.aload_n 2, 1) := by decide +kernel
theorem dL_law_477 : decode cL_law 477 = .ok (.invokevirtual 68, 3) := by decide +kernel
theorem dL_law_480 : decode cL_law 480 = .ok (.if_icmp .eq 388, 3) := by decide +kernel
theorem dL_law_485 : decode cL_law 485 = .ok (.aload_n 1, 1) := by decide +kernel
theorem dL_law_486 : decode cL_law 486 = .ok (.aload_n 0, 1) := by decide +kernel
theorem dL_law_487 : decode cL_law 487 = .ok (.iload_n 3, 1) := by decide +kernel
theorem dL_law_488 : decode cL_law 488 = .ok (.iconst 1, 1) := by decide +kernel
theorem dL_law_489 : decode cL_law 489 = .ok (.iadd, 1) := by decide +kernel
theorem dL_law_490 : decode cL_law 490 = .ok (.iaload, 1) := by decide +kernel
theorem dL_law_491 : decode cL_law 491 = .ok (.aload_n 0, 1) := by decide +kernel
theorem dL_law_492 : decode cL_law 492 = .ok (.iload_n 3, 1) := by decide +kernel
theorem dL_law_493 : decode cL_law 493 = .ok (.iconst 2, 1) := by decide +kernel
theorem dL_law_494 : decode cL_law 494 = .ok (.iadd, 1) := by decide +kernel
theorem dL_law_495 : decode cL_law 495 = .ok (.iaload, 1) := by decide +kernel
theorem dL_law_496 : decode cL_law 496 = .ok (.aload_n 0, 1) := by decide +kernel
theorem dL_law_497 : decode cL_law 497 = .ok (.iload_n 3, 1) := by decide +kernel
theorem dL_law_498 : decode cL_law 498 = .ok (.iconst 3, 1) := by decide +kernel
theorem dL_law_499 : decode cL_law 499 = .ok (.iadd, 1) := by decide +kernel
theorem dL_law_500 : decode cL_law 500 = .ok (.iaload, 1) := by decide +kernel
theorem dL_law_501 : decode cL_law 501 = .ok (.invokevirtual 69, 3) := by decide +kernel
theorem dL_law_504 : decode cL_law 504 = .ok (.aload_n 2, 1) := by decide +kernel
theorem dL_law_505 : decode cL_law 505 = .ok (.aload_n 0, 1) := by decide +kernel
theorem dL_law_506 : decode cL_law 506 = .ok (.iload_n 3, 1) := by decide +kernel
theorem dL_law_507 : decode cL_law 507 = .ok (.iconst 1, 1) := by decide +kernel
theorem dL_law_508 : decode cL_law 508 = .ok (.iadd, 1) := by decide +kernel
theorem dL_law_509 : decode cL_law 509 = .ok (.iaload, 1) := by decide +kernel
theorem dL_law_510 : decode cL_law 510 = .ok (.aload_n 0, 1) := by decide +kernel
theorem dL_law_511 : decode cL_law 511 = .ok (.iload_n 3, 1) := by decide +kernel
theorem dL_law_512 : decode cL_law 512 = .ok (.iconst 2, 1) := by decide +kernel
theorem dL_law_513 : decode cL_law 513 = .ok (.iadd, 1) := by decide +kernel
theorem dL_law_514 : decode cL_law 514 = .ok (.iaload, 1) := by decide +kernel
theorem dL_law_515 : decode cL_law 515 = .ok (.aload_n 0, 1) := by decide +kernel
theorem dL_law_516 : decode cL_law 516 = .ok (.iload_n 3, 1) := by decide +kernel
theorem dL_law_517 : decode cL_law 517 = .ok (.iconst 3, 1) := by decide +kernel
theorem dL_law_518 : decode cL_law 518 = .ok (.iadd, 1) := by decide +kernel
theorem dL_law_519 : decode cL_law 519 = .ok (.iaload, 1) := by decide +kernel
theorem dL_law_520 : decode cL_law 520 = .ok (.invokevirtual 72, 3) := by decide +kernel
theorem dL_law_523 : decode cL_law 523 = .ok (.if_icmp .eq 345, 3) := by decide +kernel
theorem dL_law_528 : decode cL_law 528 = .ok (.aload_n 1, 1) := by decide +kernel
theorem dL_law_529 : decode cL_law 529 = .ok (.aload_n 0, 1) := by decide +kernel
theorem dL_law_530 : decode cL_law 530 = .ok (.iload_n 3, 1) := by decide +kernel
theorem dL_law_531 : decode cL_law 531 = .ok (.iconst 1, 1) := by decide +kernel
theorem dL_law_532 : decode cL_law 532 = .ok (.iadd, 1) := by decide +kernel
theorem dL_law_533 : decode cL_law 533 = .ok (.iaload, 1) := by decide +kernel
theorem dL_law_534 : decode cL_law 534 = .ok (.aload_n 0, 1) := by decide +kernel
theorem dL_law_535 : decode cL_law 535 = .ok (.iload_n 3, 1) := by decide +kernel
theorem dL_law_536 : decode cL_law 536 = .ok (.iconst 2, 1) := by decide +kernel
theorem dL_law_537 : decode cL_law 537 = .ok (.iadd, 1) := by decide +kernel
theorem dL_law_538 : decode cL_law 538 = .ok (.iaload, 1) := by decide +kernel
theorem dL_law_539 : decode cL_law 539 = .ok (.aload_n 0, 1) := by decide +kernel
theorem dL_law_540 : decode cL_law 540 = .ok (.iload_n 3, 1) := by decide +kernel
theorem dL_law_541 : decode cL_law 541 = .ok (.iconst 3, 1) := by decide +kernel
theorem dL_law_542 : decode cL_law 542 = .ok (.iadd, 1) := by decide +kernel
theorem dL_law_543 : decode cL_law 543 = .ok (.iaload, 1) := by decide +kernel
theorem dL_law_544 : decode cL_law 544 = .ok (.invokevirtual 73, 3) := by decide +kernel
theorem dL_law_547 : decode cL_law 547 = .ok (.aload_n 2, 1) := by decide +kernel
theorem dL_law_548 : decode cL_law 548 = .ok (.aload_n 0, 1) := by decide +kernel
theorem dL_law_549 : decode cL_law 549 = .ok (.iload_n 3, 1) := by decide +kernel
theorem dL_law_550 : decode cL_law 550 = .ok (.iconst 1, 1) := by decide +kernel
theorem dL_law_551 : decode cL_law 551 = .ok (.iadd, 1) := by decide +kernel
theorem dL_law_552 : decode cL_law 552 = .ok (.iaload, 1) := by decide +kernel
theorem dL_law_553 : decode cL_law 553 = .ok (.aload_n 0, 1) := by decide +kernel
theorem dL_law_554 : decode cL_law 554 = .ok (.iload_n 3, 1) := by decide +kernel
theorem dL_law_555 : decode cL_law 555 = .ok (.iconst 2, 1) := by decide +kernel
theorem dL_law_556 : decode cL_law 556 = .ok (.iadd, 1) := by decide +kernel
theorem dL_law_557 : decode cL_law 557 = .ok (.iaload, 1) := by decide +kernel
theorem dL_law_558 : decode cL_law 558 = .ok (.aload_n 0, 1) := by decide +kernel
theorem dL_law_559 : decode cL_law 559 = .ok (.iload_n 3, 1) := by decide +kernel
theorem dL_law_560 : decode cL_law 560 = .ok (.iconst 3, 1) := by decide +kernel
theorem dL_law_561 : decode cL_law 561 = .ok (.iadd, 1) := by decide +kernel
theorem dL_law_562 : decode cL_law 562 = .ok (.iaload, 1) := by decide +kernel
theorem dL_law_563 : decode cL_law 563 = .ok (.invokevirtual 76, 3) := by decide +kernel
theorem dL_law_566 : decode cL_law 566 = .ok (.if_icmp .eq 302, 3) := by decide +kernel
theorem dL_law_571 : decode cL_law 571 = .ok (.aload_n 1, 1) := by decide +kernel
theorem dL_law_572 : decode cL_law 572 = .ok (.aload_n 0, 1) := by decide +kernel
theorem dL_law_573 : decode cL_law 573 = .ok (.iload_n 3, 1) := by decide +kernel
theorem dL_law_574 : decode cL_law 574 = .ok (.iconst 1, 1) := by decide +kernel
theorem dL_law_575 : decode cL_law 575 = .ok (.iadd, 1) := by decide +kernel
theorem dL_law_576 : decode cL_law 576 = .ok (.iaload, 1) := by decide +kernel
theorem dL_law_577 : decode cL_law 577 = .ok (.invokevirtual 77, 3) := by decide +kernel
theorem dL_law_580 : decode cL_law 580 = .ok (.aload_n 2, 1) := by decide +kernel
theorem dL_law_581 : decode cL_law 581 = .ok (.aload_n 0, 1) := by decide +kernel
theorem dL_law_582 : decode cL_law 582 = .ok (.iload_n 3, 1) := by decide +kernel
theorem dL_law_583 : decode cL_law 583 = .ok (.iconst 1, 1) := by decide +kernel
theorem dL_law_584 : decode cL_law 584 = .ok (.iadd, 1) := by decide +kernel
theorem dL_law_585 : decode cL_law 585 = .ok (.iaload, 1) := by decide +kernel
theorem dL_law_586 : decode cL_law 586 = .ok (.invokevirtual 80, 3) := by decide +kernel
theorem dL_law_589 : decode cL_law 589 = .ok (.if_icmp .eq 279, 3) := by decide +kernel
theorem dL_law_594 : decode cL_law 594 = .ok (.aload_n 1, 1) := by decide +kernel
theorem dL_law_595 : decode cL_law 595 = .ok (.aload_n 0, 1) := by decide +kernel
theorem dL_law_596 : decode cL_law 596 = .ok (.iload_n 3, 1) := by decide +kernel
theorem dL_law_597 : decode cL_law 597 = .ok (.iconst 1, 1) := by decide +kernel
theorem dL_law_598 : decode cL_law 598 = .ok (.iadd, 1) := by decide +kernel
theorem dL_law_599 : decode cL_law 599 = .ok (.iaload, 1) := by decide +kernel
theorem dL_law_600 : decode cL_law 600 = .ok (.invokevirtual 81, 3) := by decide +kernel
theorem dL_law_603 : decode cL_law 603 = .ok (.aload_n 2, 1) := by decide +kernel
theorem dL_law_604 : decode cL_law 604 = .ok (.aload_n 0, 1) := by decide +kernel
theorem dL_law_605 : decode cL_law 605 = .ok (.iload_n 3, 1) := by decide +kernel
theorem dL_law_606 : decode cL_law 606 = .ok (.iconst 1, 1) := by decide +kernel
theorem dL_law_607 : decode cL_law 607 = .ok (.iadd, 1) := by decide +kernel
theorem dL_law_608 : decode cL_law 608 = .ok (.iaload, 1) := by decide +kernel
theorem dL_law_609 : decode cL_law 609 = .ok (.invokevirtual 84, 3) := by decide +kernel
theorem dL_law_612 : decode cL_law 612 = .ok (.if_icmp .eq 256, 3) := by decide +kernel
theorem dL_law_617 : decode cL_law 617 = .ok (.aload_n 1, 1) := by decide +kernel
theorem dL_law_618 : decode cL_law 618 = .ok (.aload_n 0, 1) := by decide +kernel
theorem dL_law_619 : decode cL_law 619 = .ok (.iload_n 3, 1) := by decide +kernel
theorem dL_law_620 : decode cL_law 620 = .ok (.iconst 1, 1) := by decide +kernel
theorem dL_law_621 : decode cL_law 621 = .ok (.iadd, 1) := by decide +kernel
theorem dL_law_622 : decode cL_law 622 = .ok (.iaload, 1) := by decide +kernel
theorem dL_law_623 : decode cL_law 623 = .ok (.invokevirtual 85, 3) := by decide +kernel
theorem dL_law_626 : decode cL_law 626 = .ok (.aload_n 2, 1) := by decide +kernel
theorem dL_law_627 : decode cL_law 627 = .ok (.aload_n 0, 1) := by decide +kernel
theorem dL_law_628 : decode cL_law 628 = .ok (.iload_n 3, 1) := by decide +kernel
theorem dL_law_629 : decode cL_law 629 = .ok (.iconst 1, 1) := by decide +kernel
theorem dL_law_630 : decode cL_law 630 = .ok (.iadd, 1) := by decide +kernel
theorem dL_law_631 : decode cL_law 631 = .ok (.iaload, 1) := by decide +kernel
theorem dL_law_632 : decode cL_law 632 = .ok (.invokevirtual 88, 3) := by decide +kernel
theorem dL_law_635 : decode cL_law 635 = .ok (.if_icmp .eq 233, 3) := by decide +kernel
theorem dL_law_640 : decode cL_law 640 = .ok (.aload_n 1, 1) := by decide +kernel
theorem dL_law_641 : decode cL_law 641 = .ok (.aload_n 0, 1) := by decide +kernel
theorem dL_law_642 : decode cL_law 642 = .ok (.iload_n 3, 1) := by decide +kernel
theorem dL_law_643 : decode cL_law 643 = .ok (.iconst 1, 1) := by decide +kernel
theorem dL_law_644 : decode cL_law 644 = .ok (.iadd, 1) := by decide +kernel
theorem dL_law_645 : decode cL_law 645 = .ok (.iaload, 1) := by decide +kernel
theorem dL_law_646 : decode cL_law 646 = .ok (.aload_n 0, 1) := by decide +kernel
theorem dL_law_647 : decode cL_law 647 = .ok (.iload_n 3, 1) := by decide +kernel
theorem dL_law_648 : decode cL_law 648 = .ok (.iconst 2, 1) := by decide +kernel
theorem dL_law_649 : decode cL_law 649 = .ok (.iadd, 1) := by decide +kernel
theorem dL_law_650 : decode cL_law 650 = .ok (.iaload, 1) := by decide +kernel
theorem dL_law_651 : decode cL_law 651 = .ok (.aload_n 0, 1) := by decide +kernel
theorem dL_law_652 : decode cL_law 652 = .ok (.iload_n 3, 1) := by decide +kernel
theorem dL_law_653 : decode cL_law 653 = .ok (.iconst 3, 1) := by decide +kernel
theorem dL_law_654 : decode cL_law 654 = .ok (.iadd, 1) := by decide +kernel
theorem dL_law_655 : decode cL_law 655 = .ok (.iaload, 1) := by decide +kernel
theorem dL_law_656 : decode cL_law 656 = .ok (.invokevirtual 89, 3) := by decide +kernel
theorem dL_law_659 : decode cL_law 659 = .ok (.aload_n 2, 1) := by decide +kernel
theorem dL_law_660 : decode cL_law 660 = .ok (.aload_n 0, 1) := by decide +kernel
theorem dL_law_661 : decode cL_law 661 = .ok (.iload_n 3, 1) := by decide +kernel
theorem dL_law_662 : decode cL_law 662 = .ok (.iconst 1, 1) := by decide +kernel
theorem dL_law_663 : decode cL_law 663 = .ok (.iadd, 1) := by decide +kernel
theorem dL_law_664 : decode cL_law 664 = .ok (.iaload, 1) := by decide +kernel
theorem dL_law_665 : decode cL_law 665 = .ok (.aload_n 0, 1) := by decide +kernel
theorem dL_law_666 : decode cL_law 666 = .ok (.iload_n 3, 1) := by decide +kernel
theorem dL_law_667 : decode cL_law 667 = .ok (.iconst 2, 1) := by decide +kernel
theorem dL_law_668 : decode cL_law 668 = .ok (.iadd, 1) := by decide +kernel
theorem dL_law_669 : decode cL_law 669 = .ok (.iaload, 1) := by decide +kernel
theorem dL_law_670 : decode cL_law 670 = .ok (.aload_n 0, 1) := by decide +kernel
theorem dL_law_671 : decode cL_law 671 = .ok (.iload_n 3, 1) := by decide +kernel
theorem dL_law_672 : decode cL_law 672 = .ok (.iconst 3, 1) := by decide +kernel
theorem dL_law_673 : decode cL_law 673 = .ok (.iadd, 1) := by decide +kernel
theorem dL_law_674 : decode cL_law 674 = .ok (.iaload, 1) := by decide +kernel
theorem dL_law_675 : decode cL_law 675 = .ok (.invokevirtual 92, 3) := by decide +kernel
theorem dL_law_678 : decode cL_law 678 = .ok (.if_icmp .eq 190, 3) := by decide +kernel
theorem dL_law_683 : decode cL_law 683 = .ok (.aload_n 1, 1) := by decide +kernel
theorem dL_law_684 : decode cL_law 684 = .ok (.invokevirtual 93, 3) := by decide +kernel
theorem dL_law_687 : decode cL_law 687 = .ok (.aload_n 2, 1) := by decide +kernel
theorem dL_law_688 : decode cL_law 688 = .ok (.invokevirtual 96, 3) := by decide +kernel
theorem dL_law_691 : decode cL_law 691 = .ok (.if_icmp .eq 177, 3) := by decide +kernel
theorem dL_law_696 : decode cL_law 696 = .ok (.aload_n 1, 1) := by decide +kernel
theorem dL_law_697 : decode cL_law 697 = .ok (.invokevirtual 97, 3) := by decide +kernel
theorem dL_law_700 : decode cL_law 700 = .ok (.aload_n 2, 1) := by decide +kernel
theorem dL_law_701 : decode cL_law 701 = .ok (.invokevirtual 100, 3) := by decide +kernel
theorem dL_law_704 : decode cL_law 704 = .ok (.if_icmp .eq 164, 3) := by decide +kernel
theorem dL_law_709 : decode cL_law 709 = .ok (.aload_n 1, 1) := by decide +kernel
theorem dL_law_710 : decode cL_law 710 = .ok (.aload_n 0, 1) := by decide +kernel
theorem dL_law_711 : decode cL_law 711 = .ok (.iload_n 3, 1) := by decide +kernel
theorem dL_law_712 : decode cL_law 712 = .ok (.iconst 1, 1) := by decide +kernel
theorem dL_law_713 : decode cL_law 713 = .ok (.iadd, 1) := by decide +kernel
theorem dL_law_714 : decode cL_law 714 = .ok (.iaload, 1) := by decide +kernel
theorem dL_law_715 : decode cL_law 715 = .ok (.aload_n 0, 1) := by decide +kernel
theorem dL_law_716 : decode cL_law 716 = .ok (.iload_n 3, 1) := by decide +kernel
theorem dL_law_717 : decode cL_law 717 = .ok (.iconst 2, 1) := by decide +kernel
theorem dL_law_718 : decode cL_law 718 = .ok (.iadd, 1) := by decide +kernel
theorem dL_law_719 : decode cL_law 719 = .ok (.iaload, 1) := by decide +kernel
theorem dL_law_720 : decode cL_law 720 = .ok (.aload_n 0, 1) := by decide +kernel
theorem dL_law_721 : decode cL_law 721 = .ok (.iload_n 3, 1) := by decide +kernel
theorem dL_law_722 : decode cL_law 722 = .ok (.iconst 3, 1) := by decide +kernel
theorem dL_law_723 : decode cL_law 723 = .ok (.iadd, 1) := by decide +kernel
theorem dL_law_724 : decode cL_law 724 = .ok (.iaload, 1) := by decide +kernel
theorem dL_law_725 : decode cL_law 725 = .ok (.invokevirtual 101, 3) := by decide +kernel
theorem dL_law_728 : decode cL_law 728 = .ok (.aload_n 2, 1) := by decide +kernel
theorem dL_law_729 : decode cL_law 729 = .ok (.aload_n 0, 1) := by decide +kernel
theorem dL_law_730 : decode cL_law 730 = .ok (.iload_n 3, 1) := by decide +kernel
theorem dL_law_731 : decode cL_law 731 = .ok (.iconst 1, 1) := by decide +kernel
theorem dL_law_732 : decode cL_law 732 = .ok (.iadd, 1) := by decide +kernel
theorem dL_law_733 : decode cL_law 733 = .ok (.iaload, 1) := by decide +kernel
theorem dL_law_734 : decode cL_law 734 = .ok (.aload_n 0, 1) := by decide +kernel
theorem dL_law_735 : decode cL_law 735 = .ok (.iload_n 3, 1) := by decide +kernel
theorem dL_law_736 : decode cL_law 736 = .ok (.iconst 2, 1) := by decide +kernel
theorem dL_law_737 : decode cL_law 737 = .ok (.iadd, 1) := by decide +kernel
theorem dL_law_738 : decode cL_law 738 = .ok (.iaload, 1) := by decide +kernel
theorem dL_law_739 : decode cL_law 739 = .ok (.aload_n 0, 1) := by decide +kernel
theorem dL_law_740 : decode cL_law 740 = .ok (.iload_n 3, 1) := by decide +kernel
theorem dL_law_741 : decode cL_law 741 = .ok (.iconst 3, 1) := by decide +kernel
theorem dL_law_742 : decode cL_law 742 = .ok (.iadd, 1) := by decide +kernel
theorem dL_law_743 : decode cL_law 743 = .ok (.iaload, 1) := by decide +kernel
theorem dL_law_744 : decode cL_law 744 = .ok (.invokevirtual 104, 3) := by decide +kernel
theorem dL_law_747 : decode cL_law 747 = .ok (.if_icmp .eq 121, 3) := by decide +kernel
theorem dL_law_752 : decode cL_law 752 = .ok (.aload_n 1, 1) := by decide +kernel
theorem dL_law_753 : decode cL_law 753 = .ok (.aload_n 0, 1) := by decide +kernel
theorem dL_law_754 : decode cL_law 754 = .ok (.iload_n 3, 1) := by decide +kernel
theorem dL_law_755 : decode cL_law 755 = .ok (.iconst 1, 1) := by decide +kernel
theorem dL_law_756 : decode cL_law 756 = .ok (.iadd, 1) := by decide +kernel
theorem dL_law_757 : decode cL_law 757 = .ok (.iaload, 1) := by decide +kernel
theorem dL_law_758 : decode cL_law 758 = .ok (.aload_n 0, 1) := by decide +kernel
theorem dL_law_759 : decode cL_law 759 = .ok (.iload_n 3, 1) := by decide +kernel
theorem dL_law_760 : decode cL_law 760 = .ok (.iconst 2, 1) := by decide +kernel
theorem dL_law_761 : decode cL_law 761 = .ok (.iadd, 1) := by decide +kernel
theorem dL_law_762 : decode cL_law 762 = .ok (.iaload, 1) := by decide +kernel
theorem dL_law_763 : decode cL_law 763 = .ok (.invokevirtual 105, 3) := by decide +kernel
theorem dL_law_766 : decode cL_law 766 = .ok (.aload_n 2, 1) := by decide +kernel
theorem dL_law_767 : decode cL_law 767 = .ok (.aload_n 0, 1) := by decide +kernel
theorem dL_law_768 : decode cL_law 768 = .ok (.iload_n 3, 1) := by decide +kernel
theorem dL_law_769 : decode cL_law 769 = .ok (.iconst 1, 1) := by decide +kernel
theorem dL_law_770 : decode cL_law 770 = .ok (.iadd, 1) := by decide +kernel
theorem dL_law_771 : decode cL_law 771 = .ok (.iaload, 1) := by decide +kernel
theorem dL_law_772 : decode cL_law 772 = .ok (.aload_n 0, 1) := by decide +kernel
theorem dL_law_773 : decode cL_law 773 = .ok (.iload_n 3, 1) := by decide +kernel
theorem dL_law_774 : decode cL_law 774 = .ok (.iconst 2, 1) := by decide +kernel
theorem dL_law_775 : decode cL_law 775 = .ok (.iadd, 1) := by decide +kernel
theorem dL_law_776 : decode cL_law 776 = .ok (.iaload, 1) := by decide +kernel
theorem dL_law_777 : decode cL_law 777 = .ok (.invokevirtual 108, 3) := by decide +kernel
theorem dL_law_780 : decode cL_law 780 = .ok (.if_icmp .eq 88, 3) := by decide +kernel
theorem dL_law_785 : decode cL_law 785 = .ok (.aload_n 1, 1) := by decide +kernel
theorem dL_law_786 : decode cL_law 786 = .ok (.aload_n 0, 1) := by decide +kernel
theorem dL_law_787 : decode cL_law 787 = .ok (.iload_n 3, 1) := by decide +kernel
theorem dL_law_788 : decode cL_law 788 = .ok (.iconst 1, 1) := by decide +kernel
theorem dL_law_789 : decode cL_law 789 = .ok (.iadd, 1) := by decide +kernel
theorem dL_law_790 : decode cL_law 790 = .ok (.iaload, 1) := by decide +kernel
theorem dL_law_791 : decode cL_law 791 = .ok (.invokevirtual 109, 3) := by decide +kernel
theorem dL_law_794 : decode cL_law 794 = .ok (.aload_n 2, 1) := by decide +kernel
theorem dL_law_795 : decode cL_law 795 = .ok (.aload_n 0, 1) := by decide +kernel
theorem dL_law_796 : decode cL_law 796 = .ok (.iload_n 3, 1) := by decide +kernel
theorem dL_law_797 : decode cL_law 797 = .ok (.iconst 1, 1) := by decide +kernel
theorem dL_law_798 : decode cL_law 798 = .ok (.iadd, 1) := by decide +kernel
theorem dL_law_799 : decode cL_law 799 = .ok (.iaload, 1) := by decide +kernel
theorem dL_law_800 : decode cL_law 800 = .ok (.invokevirtual 112, 3) := by decide +kernel
theorem dL_law_803 : decode cL_law 803 = .ok (.if_icmp .eq 65, 3) := by decide +kernel
theorem dL_law_808 : decode cL_law 808 = .ok (.aload_n 1, 1) := by decide +kernel
theorem dL_law_809 : decode cL_law 809 = .ok (.aload_n 0, 1) := by decide +kernel
theorem dL_law_810 : decode cL_law 810 = .ok (.iload_n 3, 1) := by decide +kernel
theorem dL_law_811 : decode cL_law 811 = .ok (.iconst 1, 1) := by decide +kernel
theorem dL_law_812 : decode cL_law 812 = .ok (.iadd, 1) := by decide +kernel
theorem dL_law_813 : decode cL_law 813 = .ok (.iaload, 1) := by decide +kernel
theorem dL_law_814 : decode cL_law 814 = .ok (.invokevirtual 113, 3) := by decide +kernel
theorem dL_law_817 : decode cL_law 817 = .ok (.aload_n 2, 1) := by decide +kernel
theorem dL_law_818 : decode cL_law 818 = .ok (.aload_n 0, 1) := by decide +kernel
theorem dL_law_819 : decode cL_law 819 = .ok (.iload_n 3, 1) := by decide +kernel
theorem dL_law_820 : decode cL_law 820 = .ok (.iconst 1, 1) := by decide +kernel
theorem dL_law_821 : decode cL_law 821 = .ok (.iadd, 1) := by decide +kernel
theorem dL_law_822 : decode cL_law 822 = .ok (.iaload, 1) := by decide +kernel
theorem dL_law_823 : decode cL_law 823 = .ok (.invokevirtual 116, 3) := by decide +kernel
theorem dL_law_826 : decode cL_law 826 = .ok (.if_icmp .eq 42, 3) := by decide +kernel
theorem dL_law_831 : decode cL_law 831 = .ok (.aload_n 1, 1) := by decide +kernel
theorem dL_law_832 : decode cL_law 832 = .ok (.aload_n 0, 1) := by decide +kernel
theorem dL_law_833 : decode cL_law 833 = .ok (.iload_n 3, 1) := by decide +kernel
theorem dL_law_834 : decode cL_law 834 = .ok (.iconst 1, 1) := by decide +kernel
theorem dL_law_835 : decode cL_law 835 = .ok (.iadd, 1) := by decide +kernel
theorem dL_law_836 : decode cL_law 836 = .ok (.iaload, 1) := by decide +kernel
theorem dL_law_837 : decode cL_law 837 = .ok (.invokevirtual 117, 3) := by decide +kernel
theorem dL_law_840 : decode cL_law 840 = .ok (.aload_n 2, 1) := by decide +kernel
theorem dL_law_841 : decode cL_law 841 = .ok (.aload_n 0, 1) := by decide +kernel
theorem dL_law_842 : decode cL_law 842 = .ok (.iload_n 3, 1) := by decide +kernel
theorem dL_law_843 : decode cL_law 843 = .ok (.iconst 1, 1) := by decide +kernel
theorem dL_law_844 : decode cL_law 844 = .ok (.iadd, 1) := by decide +kernel
theorem dL_law_845 : decode cL_law 845 = .ok (.iaload, 1) := by decide +kernel
theorem dL_law_846 : decode cL_law 846 = .ok (.invokevirtual 120, 3) := by decide +kernel
theorem dL_law_849 : decode cL_law 849 = .ok (.if_icmp .eq 19, 3) := by decide +kernel
theorem dL_law_854 : decode cL_law 854 = .ok (.aload_n 1, 1) := by decide +kernel
theorem dL_law_855 : decode cL_law 855 = .ok (.invokevirtual 121, 3) := by decide +kernel
theorem dL_law_858 : decode cL_law 858 = .ok (.aload_n 2, 1) := by decide +kernel
theorem dL_law_859 : decode cL_law 859 = .ok (.invokevirtual 125, 3) := by decide +kernel
theorem dL_law_862 : decode cL_law 862 = .ok (.lcmp, 1) := by decide +kernel
theorem dL_law_863 : decode cL_law 863 = .ok (.ifCond .eq 5, 3) := by decide +kernel
theorem dL_law_868 : decode cL_law 868 = .ok (.iinc 3 4, 3) := by decide +kernel
theorem dL_law_871 : decode cL_law 871 = .ok (.goto (-853), 3) := by decide +kernel
theorem dL_law_874 : decode cL_law 874 = .ok (.iconst 1, 1) := by decide +kernel
theorem dL_law_875 : decode cL_law 875 = .ok (.ireturn, 1) := by decide +kernel
set_option maxHeartbeats 4000000 in
set_option maxRecDepth 100000 in
theorem lawc_0 {Y : LY} (M : MC p s m #[Value.ref b] meth c cL_law 4 (some .boolean) R_law Y) (hN : yN Y = 108) (h0 : c0s Y 3 9) (hX : va_X b L xs s s.heap) (hbl : b < s.heap.size) (hL : L ≤ 256) (hi : i + 4 ≤ L) {σ : St} (hI : INV σ) {H : Heap} {locs : List Loc} {ls : Array Slot} (hw : WS Y (fun q : Nat => s.heap.size ≤ q) s.heap σ H locs) (hl : lv_has ls 4 [(0, .ref b), (1, .ref (yA Y 0)), (2, .ref (yA Y 92)), (3, .int (nI i))]) (con : CON p l e s m below meth c b i) : W p l e room_1 s m #[Value.ref b] below meth c H locs 600000 7302250 (lw_Z below #[Value.ref b] s) (F0 m 156 ls []) := by
  obtain ⟨hx, hb, hr, hml, hown, hlk, hT, hK, hB⟩ := id M
  have hbA : ¬ (fun q : Nat => s.heap.size ≤ q) b := Nat.not_le.mpr hbl
  refine lv_aload_n hx hb dL_law_156 rfl (lv_at hl 1 rfl) ?_
  refine lv_aload_n hx hb dL_law_157 rfl (lv_at hl 0 rfl) ?_
  refine lv_iload_n hx hb dL_law_158 rfl (lv_at hl 3 rfl) ?_
  refine lv_iconst (v := 1) hx hb dL_law_159 (by decide) ?_
  refine lv_iadd hx hb dL_law_160 ?_
  refine va_sld hx hb hX hbl hbA hw.2.2 (at_i hL hi 1 (by decide)) dL_law_161 ?_
  have h := t_type hI (xs (nI i + 1).toNatClampNeg)
  refine q_goI hw (q_runV (rest := []) M hw (ctX6_type l hB hN h0 (xs (nI i + 1).toNatClampNeg) σ _ h) mbX6_type (ob_0 hN h0) rfl tw_291 rfl hl.1 rfl (Nat.le_of_ble_eq_true rfl) ⟨Nat.le_of_ble_eq_true rfl, Nat.le_of_ble_eq_true rfl⟩ ⟨Nat.le_refl _, Nat.le_refl _⟩ dL_law_162) (fun r σ1 H locs h hw => ?_)
  refine lv_aload_n hx hb dL_law_165 rfl (lv_at hl 2 rfl) ?_
  refine lv_aload_n hx hb dL_law_166 rfl (lv_at hl 0 rfl) ?_
  refine lv_iload_n hx hb dL_law_167 rfl (lv_at hl 3 rfl) ?_
  refine lv_iconst (v := 1) hx hb dL_law_168 (by decide) ?_
  refine lv_iadd hx hb dL_law_169 ?_
  refine va_sld hx hb hX hbl hbA hw.2.2 (at_i hL hi 1 (by decide)) dL_law_170 ?_
  refine q_goI hw (q_runV (rest := [.int r]) M hw (ctX7_type l hB hN (xs (nI i + 1).toNatClampNeg) σ1 _ h) mbX7_type (ob_92 hN) rfl tw_714 rfl hl.1 rfl (Nat.le_of_ble_eq_true rfl) ⟨Nat.le_of_ble_eq_true rfl, Nat.le_of_ble_eq_true rfl⟩ ⟨Nat.le_refl _, Nat.le_refl _⟩ dL_law_171) (fun r2 σ2 H locs h hw => ?_)
  obtain ⟨rfl, hI2⟩ := h
  refine lv_icmp_eq (tgt := 868) hx hb dL_law_174 (by decide) (fun _ => ?_) (fun c1 => absurd rfl c1)
  exact con Y σ2 H locs ls M hN h0 hI2 hw hl
set_option maxHeartbeats 4000000 in
set_option maxRecDepth 100000 in
theorem lawc_1 {Y : LY} (M : MC p s m #[Value.ref b] meth c cL_law 4 (some .boolean) R_law Y) (hN : yN Y = 108) (h0 : c0s Y 3 9) (hX : va_X b L xs s s.heap) (hbl : b < s.heap.size) (hL : L ≤ 256) (hi : i + 4 ≤ L) {σ : St} (hI : INV σ) {H : Heap} {locs : List Loc} {ls : Array Slot} (hw : WS Y (fun q : Nat => s.heap.size ≤ q) s.heap σ H locs) (hl : lv_has ls 4 [(0, .ref b), (1, .ref (yA Y 0)), (2, .ref (yA Y 92)), (3, .int (nI i))]) (con : CON p l e s m below meth c b i) : W p l e room_1 s m #[Value.ref b] below meth c H locs 600000 7302250 (lw_Z below #[Value.ref b] s) (F0 m 179 ls []) := by
  obtain ⟨hx, hb, hr, hml, hown, hlk, hT, hK, hB⟩ := id M
  have hbA : ¬ (fun q : Nat => s.heap.size ≤ q) b := Nat.not_le.mpr hbl
  refine lv_aload_n hx hb dL_law_179 rfl (lv_at hl 1 rfl) ?_
  have h := t_clear hI 
  refine q_goI hw (q_runV (rest := []) M hw (ctX6_clear l hB hN h0  σ _ h) mbX6_clear (ob_0 hN h0) rfl tw_299 rfl hl.1 rfl (Nat.le_of_ble_eq_true rfl) ⟨Nat.le_of_ble_eq_true rfl, Nat.le_of_ble_eq_true rfl⟩ ⟨Nat.le_refl _, Nat.le_refl _⟩ dL_law_180) (fun r σ1 H locs h hw => ?_)
  refine lv_aload_n hx hb dL_law_183 rfl (lv_at hl 2 rfl) ?_
  refine q_goI hw (q_runV (rest := [.int r]) M hw (ctX7_clear l hB hN  σ1 _ h) mbX7_clear (ob_92 hN) rfl tw_721 rfl hl.1 rfl (Nat.le_of_ble_eq_true rfl) ⟨Nat.le_of_ble_eq_true rfl, Nat.le_of_ble_eq_true rfl⟩ ⟨Nat.le_refl _, Nat.le_refl _⟩ dL_law_184) (fun r2 σ2 H locs h hw => ?_)
  obtain ⟨rfl, hI2⟩ := h
  refine lv_icmp_eq (tgt := 868) hx hb dL_law_187 (by decide) (fun _ => ?_) (fun c1 => absurd rfl c1)
  exact con Y σ2 H locs ls M hN h0 hI2 hw hl
set_option maxHeartbeats 4000000 in
set_option maxRecDepth 100000 in
theorem lawc_2 {Y : LY} (M : MC p s m #[Value.ref b] meth c cL_law 4 (some .boolean) R_law Y) (hN : yN Y = 108) (h0 : c0s Y 3 9) (hX : va_X b L xs s s.heap) (hbl : b < s.heap.size) (hL : L ≤ 256) (hi : i + 4 ≤ L) {σ : St} (hI : INV σ) {H : Heap} {locs : List Loc} {ls : Array Slot} (hw : WS Y (fun q : Nat => s.heap.size ≤ q) s.heap σ H locs) (hl : lv_has ls 4 [(0, .ref b), (1, .ref (yA Y 0)), (2, .ref (yA Y 92)), (3, .int (nI i))]) (con : CON p l e s m below meth c b i) : W p l e room_1 s m #[Value.ref b] below meth c H locs 600000 7302250 (lw_Z below #[Value.ref b] s) (F0 m 192 ls []) := by
  obtain ⟨hx, hb, hr, hml, hown, hlk, hT, hK, hB⟩ := id M
  have hbA : ¬ (fun q : Nat => s.heap.size ≤ q) b := Nat.not_le.mpr hbl
  refine lv_aload_n hx hb dL_law_192 rfl (lv_at hl 1 rfl) ?_
  have e0 : (fun (r : Int32) (σ1 : St) => (r < 0 → wX7_parish σ1 (fun r' σ2 => r = r' ∧ INV σ2)) ∧ (¬ r < 0 → wX7_parish σ1 (fun r' σ2 => r = r' ∧ INV σ2))) = (fun r σ1 => wX7_parish σ1 (fun r' σ2 => r = r' ∧ INV σ2)) := by
    funext r σ1
    exact propext ⟨fun h => (Classical.em (r < 0)).elim h.1 h.2, fun h => ⟨fun _ => h, fun _ => h⟩⟩
  have h := t_parish hI
  rw [← e0] at h
  refine q_goX hN hw (q_runV (rest := []) M hw (ctX6_parish l hB hN h0 σ (fun r u => wX7_parish u.2 (fun r' σ2 => r = r' ∧ INV σ2)) h) mbX6_parish (ob_0 hN h0) rfl tw_303 rfl hl.1 rfl (Nat.le_of_ble_eq_true rfl) ⟨Nat.le_of_ble_eq_true rfl, Nat.le_of_ble_eq_true rfl⟩ ⟨Nat.le_refl _, Nat.le_refl _⟩ dL_law_193) (fun r b1 σ1 H locs h hw => ?_)
  have M1 : MC p s m #[Value.ref b] meth c cL_law 4 (some .boolean) R_law (Yb Y b1) := by
    cases b1
    · exact M
    · exact ⟨hx, hb, hr, hml, hown, hlk, hT, hK, c0s_B Ysw_c⟩
  have hN1 : yN (Yb Y b1) = 108 := by cases b1 <;> exact hN
  have h01 : c0s (Yb Y b1) 3 9 := by
    cases b1
    · exact h0
    · exact Ysw_c
  have hl : lv_has ls 4 [(0, .ref b), (1, .ref (yA (Yb Y b1) 0)), (2, .ref (yA (Yb Y b1) 92)), (3, .int (nI i))] := by cases b1 <;> exact hl
  clear M hN h0 e0
  obtain ⟨hx, hb, hr, hml, hown, hlk, hT, hK, hB⟩ := id M1
  have M := M1
  have hN := hN1
  have h0 := h01
  generalize Yb Y b1 = Z at *
  refine lv_aload_n hx hb dL_law_196 rfl (lv_at hl 2 rfl) ?_
  refine q_goI hw (q_runV (rest := [.int r]) M hw (ctX7_parish l hB hN  σ1 _ h) mbX7_parish (ob_92 hN) rfl tw_725 rfl hl.1 rfl (Nat.le_of_ble_eq_true rfl) ⟨Nat.le_of_ble_eq_true rfl, Nat.le_of_ble_eq_true rfl⟩ ⟨Nat.le_refl _, Nat.le_refl _⟩ dL_law_197) (fun r2 σ2 H locs h hw => ?_)
  obtain ⟨rfl, hI2⟩ := h
  refine lv_icmp_eq (tgt := 868) hx hb dL_law_200 (by decide) (fun _ => ?_) (fun c1 => absurd rfl c1)
  exact con Z σ2 H locs ls M hN h0 hI2 hw hl
set_option maxHeartbeats 4000000 in
set_option maxRecDepth 100000 in
theorem lawc_3 {Y : LY} (M : MC p s m #[Value.ref b] meth c cL_law 4 (some .boolean) R_law Y) (hN : yN Y = 108) (h0 : c0s Y 3 9) (hX : va_X b L xs s s.heap) (hbl : b < s.heap.size) (hL : L ≤ 256) (hi : i + 4 ≤ L) {σ : St} (hI : INV σ) {H : Heap} {locs : List Loc} {ls : Array Slot} (hw : WS Y (fun q : Nat => s.heap.size ≤ q) s.heap σ H locs) (hl : lv_has ls 4 [(0, .ref b), (1, .ref (yA Y 0)), (2, .ref (yA Y 92)), (3, .int (nI i))]) (con : CON p l e s m below meth c b i) : W p l e room_1 s m #[Value.ref b] below meth c H locs 600000 7302250 (lw_Z below #[Value.ref b] s) (F0 m 205 ls []) := by
  obtain ⟨hx, hb, hr, hml, hown, hlk, hT, hK, hB⟩ := id M
  have hbA : ¬ (fun q : Nat => s.heap.size ≤ q) b := Nat.not_le.mpr hbl
  refine lv_aload_n hx hb dL_law_205 rfl (lv_at hl 1 rfl) ?_
  refine lv_aload_n hx hb dL_law_206 rfl (lv_at hl 0 rfl) ?_
  refine lv_iload_n hx hb dL_law_207 rfl (lv_at hl 3 rfl) ?_
  refine lv_iconst (v := 1) hx hb dL_law_208 (by decide) ?_
  refine lv_iadd hx hb dL_law_209 ?_
  refine va_sld hx hb hX hbl hbA hw.2.2 (at_i hL hi 1 (by decide)) dL_law_210 ?_
  refine lv_aload_n hx hb dL_law_211 rfl (lv_at hl 0 rfl) ?_
  refine lv_iload_n hx hb dL_law_212 rfl (lv_at hl 3 rfl) ?_
  refine lv_iconst (v := 2) hx hb dL_law_213 (by decide) ?_
  refine lv_iadd hx hb dL_law_214 ?_
  refine va_sld hx hb hX hbl hbA hw.2.2 (at_i hL hi 2 (by decide)) dL_law_215 ?_
  have h := t_farmer hI (xs (nI i + 1).toNatClampNeg) (xs (nI i + 2).toNatClampNeg)
  refine q_goI hw (q_runV (rest := []) M hw (ctX6_farmer l hB hN h0 (xs (nI i + 1).toNatClampNeg) (xs (nI i + 2).toNatClampNeg) σ _ h) mbX6_farmer (ob_0 hN h0) rfl tw_363 rfl hl.1 rfl (Nat.le_of_ble_eq_true rfl) ⟨Nat.le_of_ble_eq_true rfl, Nat.le_of_ble_eq_true rfl⟩ ⟨Nat.le_refl _, Nat.le_refl _⟩ dL_law_216) (fun r σ1 H locs h hw => ?_)
  refine lv_aload_n hx hb dL_law_219 rfl (lv_at hl 2 rfl) ?_
  refine lv_aload_n hx hb dL_law_220 rfl (lv_at hl 0 rfl) ?_
  refine lv_iload_n hx hb dL_law_221 rfl (lv_at hl 3 rfl) ?_
  refine lv_iconst (v := 1) hx hb dL_law_222 (by decide) ?_
  refine lv_iadd hx hb dL_law_223 ?_
  refine va_sld hx hb hX hbl hbA hw.2.2 (at_i hL hi 1 (by decide)) dL_law_224 ?_
  refine lv_aload_n hx hb dL_law_225 rfl (lv_at hl 0 rfl) ?_
  refine lv_iload_n hx hb dL_law_226 rfl (lv_at hl 3 rfl) ?_
  refine lv_iconst (v := 2) hx hb dL_law_227 (by decide) ?_
  refine lv_iadd hx hb dL_law_228 ?_
  refine va_sld hx hb hX hbl hbA hw.2.2 (at_i hL hi 2 (by decide)) dL_law_229 ?_
  refine q_goI hw (q_runV (rest := [.int r]) M hw (ctX7_farmer l hB hN (xs (nI i + 1).toNatClampNeg) (xs (nI i + 2).toNatClampNeg) σ1 _ h) mbX7_farmer (ob_92 hN) rfl tw_760 rfl hl.1 rfl (Nat.le_of_ble_eq_true rfl) ⟨Nat.le_of_ble_eq_true rfl, Nat.le_of_ble_eq_true rfl⟩ ⟨Nat.le_refl _, Nat.le_refl _⟩ dL_law_230) (fun r2 σ2 H locs h hw => ?_)
  obtain ⟨rfl, hI2⟩ := h
  refine lv_icmp_eq (tgt := 868) hx hb dL_law_233 (by decide) (fun _ => ?_) (fun c1 => absurd rfl c1)
  exact con Y σ2 H locs ls M hN h0 hI2 hw hl
set_option maxHeartbeats 4000000 in
set_option maxRecDepth 100000 in
theorem lawc_4 {Y : LY} (M : MC p s m #[Value.ref b] meth c cL_law 4 (some .boolean) R_law Y) (hN : yN Y = 108) (h0 : c0s Y 3 9) (hX : va_X b L xs s s.heap) (hbl : b < s.heap.size) (hL : L ≤ 256) (hi : i + 4 ≤ L) {σ : St} (hI : INV σ) {H : Heap} {locs : List Loc} {ls : Array Slot} (hw : WS Y (fun q : Nat => s.heap.size ≤ q) s.heap σ H locs) (hl : lv_has ls 4 [(0, .ref b), (1, .ref (yA Y 0)), (2, .ref (yA Y 92)), (3, .int (nI i))]) (con : CON p l e s m below meth c b i) : W p l e room_1 s m #[Value.ref b] below meth c H locs 600000 7302250 (lw_Z below #[Value.ref b] s) (F0 m 238 ls []) := by
  obtain ⟨hx, hb, hr, hml, hown, hlk, hT, hK, hB⟩ := id M
  have hbA : ¬ (fun q : Nat => s.heap.size ≤ q) b := Nat.not_le.mpr hbl
  refine lv_aload_n hx hb dL_law_238 rfl (lv_at hl 1 rfl) ?_
  refine lv_aload_n hx hb dL_law_239 rfl (lv_at hl 0 rfl) ?_
  refine lv_iload_n hx hb dL_law_240 rfl (lv_at hl 3 rfl) ?_
  refine lv_iconst (v := 1) hx hb dL_law_241 (by decide) ?_
  refine lv_iadd hx hb dL_law_242 ?_
  refine va_sld hx hb hX hbl hbA hw.2.2 (at_i hL hi 1 (by decide)) dL_law_243 ?_
  refine lv_aload_n hx hb dL_law_244 rfl (lv_at hl 0 rfl) ?_
  refine lv_iload_n hx hb dL_law_245 rfl (lv_at hl 3 rfl) ?_
  refine lv_iconst (v := 2) hx hb dL_law_246 (by decide) ?_
  refine lv_iadd hx hb dL_law_247 ?_
  refine va_sld hx hb hX hbl hbA hw.2.2 (at_i hL hi 2 (by decide)) dL_law_248 ?_
  have h := t_strip hI (xs (nI i + 1).toNatClampNeg) (xs (nI i + 2).toNatClampNeg)
  refine q_goI hw (q_runV (rest := []) M hw (ctX6_strip l hB hN h0 (xs (nI i + 1).toNatClampNeg) (xs (nI i + 2).toNatClampNeg) σ _ h) mbX6_strip (ob_0 hN h0) rfl tw_379 rfl hl.1 rfl (Nat.le_of_ble_eq_true rfl) ⟨Nat.le_of_ble_eq_true rfl, Nat.le_of_ble_eq_true rfl⟩ ⟨Nat.le_refl _, Nat.le_refl _⟩ dL_law_249) (fun r σ1 H locs h hw => ?_)
  refine lv_aload_n hx hb dL_law_252 rfl (lv_at hl 2 rfl) ?_
  refine lv_aload_n hx hb dL_law_253 rfl (lv_at hl 0 rfl) ?_
  refine lv_iload_n hx hb dL_law_254 rfl (lv_at hl 3 rfl) ?_
  refine lv_iconst (v := 1) hx hb dL_law_255 (by decide) ?_
  refine lv_iadd hx hb dL_law_256 ?_
  refine va_sld hx hb hX hbl hbA hw.2.2 (at_i hL hi 1 (by decide)) dL_law_257 ?_
  refine lv_aload_n hx hb dL_law_258 rfl (lv_at hl 0 rfl) ?_
  refine lv_iload_n hx hb dL_law_259 rfl (lv_at hl 3 rfl) ?_
  refine lv_iconst (v := 2) hx hb dL_law_260 (by decide) ?_
  refine lv_iadd hx hb dL_law_261 ?_
  refine va_sld hx hb hX hbl hbA hw.2.2 (at_i hL hi 2 (by decide)) dL_law_262 ?_
  refine q_goI hw (q_runV (rest := [.int r]) M hw (ctX7_strip l hB hN (xs (nI i + 1).toNatClampNeg) (xs (nI i + 2).toNatClampNeg) σ1 _ h) mbX7_strip (ob_92 hN) rfl tw_768 rfl hl.1 rfl (Nat.le_of_ble_eq_true rfl) ⟨Nat.le_of_ble_eq_true rfl, Nat.le_of_ble_eq_true rfl⟩ ⟨Nat.le_refl _, Nat.le_refl _⟩ dL_law_263) (fun r2 σ2 H locs h hw => ?_)
  obtain ⟨rfl, hI2⟩ := h
  refine lv_icmp_eq (tgt := 868) hx hb dL_law_266 (by decide) (fun _ => ?_) (fun c1 => absurd rfl c1)
  exact con Y σ2 H locs ls M hN h0 hI2 hw hl
set_option maxHeartbeats 4000000 in
set_option maxRecDepth 100000 in
theorem lawc_5 {Y : LY} (M : MC p s m #[Value.ref b] meth c cL_law 4 (some .boolean) R_law Y) (hN : yN Y = 108) (h0 : c0s Y 3 9) (hX : va_X b L xs s s.heap) (hbl : b < s.heap.size) (hL : L ≤ 256) (hi : i + 4 ≤ L) {σ : St} (hI : INV σ) {H : Heap} {locs : List Loc} {ls : Array Slot} (hw : WS Y (fun q : Nat => s.heap.size ≤ q) s.heap σ H locs) (hl : lv_has ls 4 [(0, .ref b), (1, .ref (yA Y 0)), (2, .ref (yA Y 92)), (3, .int (nI i))]) (con : CON p l e s m below meth c b i) : W p l e room_1 s m #[Value.ref b] below meth c H locs 600000 7302250 (lw_Z below #[Value.ref b] s) (F0 m 271 ls []) := by
  obtain ⟨hx, hb, hr, hml, hown, hlk, hT, hK, hB⟩ := id M
  have hbA : ¬ (fun q : Nat => s.heap.size ≤ q) b := Nat.not_le.mpr hbl
  refine lv_aload_n hx hb dL_law_271 rfl (lv_at hl 1 rfl) ?_
  refine lv_aload_n hx hb dL_law_272 rfl (lv_at hl 0 rfl) ?_
  refine lv_iload_n hx hb dL_law_273 rfl (lv_at hl 3 rfl) ?_
  refine lv_iconst (v := 1) hx hb dL_law_274 (by decide) ?_
  refine lv_iadd hx hb dL_law_275 ?_
  refine va_sld hx hb hX hbl hbA hw.2.2 (at_i hL hi 1 (by decide)) dL_law_276 ?_
  refine lv_aload_n hx hb dL_law_277 rfl (lv_at hl 0 rfl) ?_
  refine lv_iload_n hx hb dL_law_278 rfl (lv_at hl 3 rfl) ?_
  refine lv_iconst (v := 2) hx hb dL_law_279 (by decide) ?_
  refine lv_iadd hx hb dL_law_280 ?_
  refine va_sld hx hb hX hbl hbA hw.2.2 (at_i hL hi 2 (by decide)) dL_law_281 ?_
  have h := t_night hI (xs (nI i + 1).toNatClampNeg) (xs (nI i + 2).toNatClampNeg)
  refine q_goI hw (q_runV (rest := []) M hw (ctX6_night l hB hN h0 (xs (nI i + 1).toNatClampNeg) (xs (nI i + 2).toNatClampNeg) σ _ h) mbX6_night (ob_0 hN h0) rfl tw_387 rfl hl.1 rfl (Nat.le_of_ble_eq_true rfl) ⟨Nat.le_of_ble_eq_true rfl, Nat.le_of_ble_eq_true rfl⟩ ⟨Nat.le_refl _, Nat.le_refl _⟩ dL_law_282) (fun r σ1 H locs h hw => ?_)
  refine lv_aload_n hx hb dL_law_285 rfl (lv_at hl 2 rfl) ?_
  refine lv_aload_n hx hb dL_law_286 rfl (lv_at hl 0 rfl) ?_
  refine lv_iload_n hx hb dL_law_287 rfl (lv_at hl 3 rfl) ?_
  refine lv_iconst (v := 1) hx hb dL_law_288 (by decide) ?_
  refine lv_iadd hx hb dL_law_289 ?_
  refine va_sld hx hb hX hbl hbA hw.2.2 (at_i hL hi 1 (by decide)) dL_law_290 ?_
  refine lv_aload_n hx hb dL_law_291 rfl (lv_at hl 0 rfl) ?_
  refine lv_iload_n hx hb dL_law_292 rfl (lv_at hl 3 rfl) ?_
  refine lv_iconst (v := 2) hx hb dL_law_293 (by decide) ?_
  refine lv_iadd hx hb dL_law_294 ?_
  refine va_sld hx hb hX hbl hbA hw.2.2 (at_i hL hi 2 (by decide)) dL_law_295 ?_
  refine q_goI hw (q_runV (rest := [.int r]) M hw (ctX7_night l hB hN (xs (nI i + 1).toNatClampNeg) (xs (nI i + 2).toNatClampNeg) σ1 _ h) mbX7_night (ob_92 hN) rfl tw_776 rfl hl.1 rfl (Nat.le_of_ble_eq_true rfl) ⟨Nat.le_of_ble_eq_true rfl, Nat.le_of_ble_eq_true rfl⟩ ⟨Nat.le_refl _, Nat.le_refl _⟩ dL_law_296) (fun r2 σ2 H locs h hw => ?_)
  obtain ⟨rfl, hI2⟩ := h
  refine lv_icmp_eq (tgt := 868) hx hb dL_law_299 (by decide) (fun _ => ?_) (fun c1 => absurd rfl c1)
  exact con Y σ2 H locs ls M hN h0 hI2 hw hl
set_option maxHeartbeats 4000000 in
set_option maxRecDepth 100000 in
theorem lawc_6 {Y : LY} (M : MC p s m #[Value.ref b] meth c cL_law 4 (some .boolean) R_law Y) (hN : yN Y = 108) (h0 : c0s Y 3 9) (hX : va_X b L xs s s.heap) (hbl : b < s.heap.size) (hL : L ≤ 256) (hi : i + 4 ≤ L) {σ : St} (hI : INV σ) {H : Heap} {locs : List Loc} {ls : Array Slot} (hw : WS Y (fun q : Nat => s.heap.size ≤ q) s.heap σ H locs) (hl : lv_has ls 4 [(0, .ref b), (1, .ref (yA Y 0)), (2, .ref (yA Y 92)), (3, .int (nI i))]) (con : CON p l e s m below meth c b i) : W p l e room_1 s m #[Value.ref b] below meth c H locs 600000 7302250 (lw_Z below #[Value.ref b] s) (F0 m 304 ls []) := by
  obtain ⟨hx, hb, hr, hml, hown, hlk, hT, hK, hB⟩ := id M
  have hbA : ¬ (fun q : Nat => s.heap.size ≤ q) b := Nat.not_le.mpr hbl
  refine lv_aload_n hx hb dL_law_304 rfl (lv_at hl 1 rfl) ?_
  refine lv_aload_n hx hb dL_law_305 rfl (lv_at hl 0 rfl) ?_
  refine lv_iload_n hx hb dL_law_306 rfl (lv_at hl 3 rfl) ?_
  refine lv_iconst (v := 1) hx hb dL_law_307 (by decide) ?_
  refine lv_iadd hx hb dL_law_308 ?_
  refine va_sld hx hb hX hbl hbA hw.2.2 (at_i hL hi 1 (by decide)) dL_law_309 ?_
  have h := t_now hI (xs (nI i + 1).toNatClampNeg)
  refine q_goI hw (q_runV (rest := []) M hw (ctX6_now l hB hN h0 (xs (nI i + 1).toNatClampNeg) σ _ h) mbX6_now (ob_0 hN h0) rfl tw_398 rfl hl.1 rfl (Nat.le_of_ble_eq_true rfl) ⟨Nat.le_of_ble_eq_true rfl, Nat.le_of_ble_eq_true rfl⟩ ⟨Nat.le_refl _, Nat.le_refl _⟩ dL_law_310) (fun r σ1 H locs h hw => ?_)
  refine lv_aload_n hx hb dL_law_313 rfl (lv_at hl 2 rfl) ?_
  refine lv_aload_n hx hb dL_law_314 rfl (lv_at hl 0 rfl) ?_
  refine lv_iload_n hx hb dL_law_315 rfl (lv_at hl 3 rfl) ?_
  refine lv_iconst (v := 1) hx hb dL_law_316 (by decide) ?_
  refine lv_iadd hx hb dL_law_317 ?_
  refine va_sld hx hb hX hbl hbA hw.2.2 (at_i hL hi 1 (by decide)) dL_law_318 ?_
  refine q_goI hw (q_runV (rest := [.int r]) M hw (ctX7_now l hB hN (xs (nI i + 1).toNatClampNeg) σ1 _ h) mbX7_now (ob_92 hN) rfl tw_784 rfl hl.1 rfl (Nat.le_of_ble_eq_true rfl) ⟨Nat.le_of_ble_eq_true rfl, Nat.le_of_ble_eq_true rfl⟩ ⟨Nat.le_refl _, Nat.le_refl _⟩ dL_law_319) (fun r2 σ2 H locs h hw => ?_)
  obtain ⟨rfl, hI2⟩ := h
  refine lv_icmp_eq (tgt := 868) hx hb dL_law_322 (by decide) (fun _ => ?_) (fun c1 => absurd rfl c1)
  exact con Y σ2 H locs ls M hN h0 hI2 hw hl
set_option maxHeartbeats 4000000 in
set_option maxRecDepth 100000 in
theorem lawc_7 {Y : LY} (M : MC p s m #[Value.ref b] meth c cL_law 4 (some .boolean) R_law Y) (hN : yN Y = 108) (h0 : c0s Y 3 9) (hX : va_X b L xs s s.heap) (hbl : b < s.heap.size) (hL : L ≤ 256) (hi : i + 4 ≤ L) {σ : St} (hI : INV σ) {H : Heap} {locs : List Loc} {ls : Array Slot} (hw : WS Y (fun q : Nat => s.heap.size ≤ q) s.heap σ H locs) (hl : lv_has ls 4 [(0, .ref b), (1, .ref (yA Y 0)), (2, .ref (yA Y 92)), (3, .int (nI i))]) (con : CON p l e s m below meth c b i) : W p l e room_1 s m #[Value.ref b] below meth c H locs 600000 7302250 (lw_Z below #[Value.ref b] s) (F0 m 327 ls []) := by
  obtain ⟨hx, hb, hr, hml, hown, hlk, hT, hK, hB⟩ := id M
  have hbA : ¬ (fun q : Nat => s.heap.size ≤ q) b := Nat.not_le.mpr hbl
  refine lv_aload_n hx hb dL_law_327 rfl (lv_at hl 1 rfl) ?_
  refine lv_aload_n hx hb dL_law_328 rfl (lv_at hl 0 rfl) ?_
  refine lv_iload_n hx hb dL_law_329 rfl (lv_at hl 3 rfl) ?_
  refine lv_iconst (v := 1) hx hb dL_law_330 (by decide) ?_
  refine lv_iadd hx hb dL_law_331 ?_
  refine va_sld hx hb hX hbl hbA hw.2.2 (at_i hL hi 1 (by decide)) dL_law_332 ?_
  refine lv_aload_n hx hb dL_law_333 rfl (lv_at hl 0 rfl) ?_
  refine lv_iload_n hx hb dL_law_334 rfl (lv_at hl 3 rfl) ?_
  refine lv_iconst (v := 2) hx hb dL_law_335 (by decide) ?_
  refine lv_iadd hx hb dL_law_336 ?_
  refine va_sld hx hb hX hbl hbA hw.2.2 (at_i hL hi 2 (by decide)) dL_law_337 ?_
  have h := t_ploughs hI (xs (nI i + 1).toNatClampNeg) (xs (nI i + 2).toNatClampNeg)
  refine q_goI hw (q_runV (rest := []) M hw (ctX6_ploughs l hB hN h0 (xs (nI i + 1).toNatClampNeg) (xs (nI i + 2).toNatClampNeg) σ _ h) mbX6_ploughs (ob_0 hN h0) rfl tw_414 rfl hl.1 rfl (Nat.le_of_ble_eq_true rfl) ⟨Nat.le_of_ble_eq_true rfl, Nat.le_of_ble_eq_true rfl⟩ ⟨Nat.le_refl _, Nat.le_refl _⟩ dL_law_338) (fun r σ1 H locs h hw => ?_)
  refine lv_aload_n hx hb dL_law_341 rfl (lv_at hl 2 rfl) ?_
  refine lv_aload_n hx hb dL_law_342 rfl (lv_at hl 0 rfl) ?_
  refine lv_iload_n hx hb dL_law_343 rfl (lv_at hl 3 rfl) ?_
  refine lv_iconst (v := 1) hx hb dL_law_344 (by decide) ?_
  refine lv_iadd hx hb dL_law_345 ?_
  refine va_sld hx hb hX hbl hbA hw.2.2 (at_i hL hi 1 (by decide)) dL_law_346 ?_
  refine lv_aload_n hx hb dL_law_347 rfl (lv_at hl 0 rfl) ?_
  refine lv_iload_n hx hb dL_law_348 rfl (lv_at hl 3 rfl) ?_
  refine lv_iconst (v := 2) hx hb dL_law_349 (by decide) ?_
  refine lv_iadd hx hb dL_law_350 ?_
  refine va_sld hx hb hX hbl hbA hw.2.2 (at_i hL hi 2 (by decide)) dL_law_351 ?_
  refine q_goI hw (q_runV (rest := [.int r]) M hw (ctX7_ploughs l hB hN (xs (nI i + 1).toNatClampNeg) (xs (nI i + 2).toNatClampNeg) σ1 _ h) mbX7_ploughs (ob_92 hN) rfl tw_788 rfl hl.1 rfl (Nat.le_of_ble_eq_true rfl) ⟨Nat.le_of_ble_eq_true rfl, Nat.le_of_ble_eq_true rfl⟩ ⟨Nat.le_refl _, Nat.le_refl _⟩ dL_law_352) (fun r2 σ2 H locs h hw => ?_)
  obtain ⟨rfl, hI2⟩ := h
  refine lv_icmp_eq (tgt := 868) hx hb dL_law_355 (by decide) (fun _ => ?_) (fun c1 => absurd rfl c1)
  exact con Y σ2 H locs ls M hN h0 hI2 hw hl
set_option maxHeartbeats 4000000 in
set_option maxRecDepth 100000 in
theorem lawc_8 {Y : LY} (M : MC p s m #[Value.ref b] meth c cL_law 4 (some .boolean) R_law Y) (hN : yN Y = 108) (h0 : c0s Y 3 9) (hX : va_X b L xs s s.heap) (hbl : b < s.heap.size) (hL : L ≤ 256) (hi : i + 4 ≤ L) {σ : St} (hI : INV σ) {H : Heap} {locs : List Loc} {ls : Array Slot} (hw : WS Y (fun q : Nat => s.heap.size ≤ q) s.heap σ H locs) (hl : lv_has ls 4 [(0, .ref b), (1, .ref (yA Y 0)), (2, .ref (yA Y 92)), (3, .int (nI i))]) (con : CON p l e s m below meth c b i) : W p l e room_1 s m #[Value.ref b] below meth c H locs 600000 7302250 (lw_Z below #[Value.ref b] s) (F0 m 360 ls []) := by
  obtain ⟨hx, hb, hr, hml, hown, hlk, hT, hK, hB⟩ := id M
  have hbA : ¬ (fun q : Nat => s.heap.size ≤ q) b := Nat.not_le.mpr hbl
  refine lv_aload_n hx hb dL_law_360 rfl (lv_at hl 1 rfl) ?_
  have h := t_passes hI 
  refine q_goI hw (q_runV (rest := []) M hw (ctX6_passes l hB hN h0  σ _ h) mbX6_passes (ob_0 hN h0) rfl tw_442 rfl hl.1 rfl (Nat.le_of_ble_eq_true rfl) ⟨Nat.le_of_ble_eq_true rfl, Nat.le_of_ble_eq_true rfl⟩ ⟨Nat.le_refl _, Nat.le_refl _⟩ dL_law_361) (fun r σ1 H locs h hw => ?_)
  refine lv_aload_n hx hb dL_law_364 rfl (lv_at hl 2 rfl) ?_
  refine q_goI hw (q_runV (rest := [.int r]) M hw (ctX7_passes l hB hN  σ1 _ h) mbX7_passes (ob_92 hN) rfl tw_800 rfl hl.1 rfl (Nat.le_of_ble_eq_true rfl) ⟨Nat.le_of_ble_eq_true rfl, Nat.le_of_ble_eq_true rfl⟩ ⟨Nat.le_refl _, Nat.le_refl _⟩ dL_law_365) (fun r2 σ2 H locs h hw => ?_)
  obtain ⟨rfl, hI2⟩ := h
  refine lv_icmp_eq (tgt := 868) hx hb dL_law_368 (by decide) (fun _ => ?_) (fun c1 => absurd rfl c1)
  exact con Y σ2 H locs ls M hN h0 hI2 hw hl
set_option maxHeartbeats 4000000 in
set_option maxRecDepth 100000 in
theorem lawc_9 {Y : LY} (M : MC p s m #[Value.ref b] meth c cL_law 4 (some .boolean) R_law Y) (hN : yN Y = 108) (h0 : c0s Y 3 9) (hX : va_X b L xs s s.heap) (hbl : b < s.heap.size) (hL : L ≤ 256) (hi : i + 4 ≤ L) {σ : St} (hI : INV σ) {H : Heap} {locs : List Loc} {ls : Array Slot} (hw : WS Y (fun q : Nat => s.heap.size ≤ q) s.heap σ H locs) (hl : lv_has ls 4 [(0, .ref b), (1, .ref (yA Y 0)), (2, .ref (yA Y 92)), (3, .int (nI i))]) (con : CON p l e s m below meth c b i) : W p l e room_1 s m #[Value.ref b] below meth c H locs 600000 7302250 (lw_Z below #[Value.ref b] s) (F0 m 373 ls []) := by
  obtain ⟨hx, hb, hr, hml, hown, hlk, hT, hK, hB⟩ := id M
  have hbA : ¬ (fun q : Nat => s.heap.size ≤ q) b := Nat.not_le.mpr hbl
  refine lv_aload_n hx hb dL_law_373 rfl (lv_at hl 1 rfl) ?_
  refine lv_aload_n hx hb dL_law_374 rfl (lv_at hl 0 rfl) ?_
  refine lv_iload_n hx hb dL_law_375 rfl (lv_at hl 3 rfl) ?_
  refine lv_iconst (v := 1) hx hb dL_law_376 (by decide) ?_
  refine lv_iadd hx hb dL_law_377 ?_
  refine va_sld hx hb hX hbl hbA hw.2.2 (at_i hL hi 1 (by decide)) dL_law_378 ?_
  refine lv_aload_n hx hb dL_law_379 rfl (lv_at hl 0 rfl) ?_
  refine lv_iload_n hx hb dL_law_380 rfl (lv_at hl 3 rfl) ?_
  refine lv_iconst (v := 2) hx hb dL_law_381 (by decide) ?_
  refine lv_iadd hx hb dL_law_382 ?_
  refine va_sld hx hb hX hbl hbA hw.2.2 (at_i hL hi 2 (by decide)) dL_law_383 ?_
  refine lv_aload_n hx hb dL_law_384 rfl (lv_at hl 0 rfl) ?_
  refine lv_iload_n hx hb dL_law_385 rfl (lv_at hl 3 rfl) ?_
  refine lv_iconst (v := 3) hx hb dL_law_386 (by decide) ?_
  refine lv_iadd hx hb dL_law_387 ?_
  refine va_sld hx hb hX hbl hbA hw.2.2 (at_i hL hi 3 (by decide)) dL_law_388 ?_
  have h := t_lends hI (xs (nI i + 1).toNatClampNeg) (xs (nI i + 2).toNatClampNeg) (xs (nI i + 3).toNatClampNeg)
  refine q_goI hw (q_runV (rest := []) M hw (ctX6_lends l hB hN h0 (xs (nI i + 1).toNatClampNeg) (xs (nI i + 2).toNatClampNeg) (xs (nI i + 3).toNatClampNeg) σ _ h) mbX6_lends (ob_0 hN h0) rfl tw_446 rfl hl.1 rfl (Nat.le_of_ble_eq_true rfl) ⟨Nat.le_of_ble_eq_true rfl, Nat.le_of_ble_eq_true rfl⟩ ⟨Nat.le_refl _, Nat.le_refl _⟩ dL_law_389) (fun r σ1 H locs h hw => ?_)
  refine lv_aload_n hx hb dL_law_392 rfl (lv_at hl 2 rfl) ?_
  refine lv_aload_n hx hb dL_law_393 rfl (lv_at hl 0 rfl) ?_
  refine lv_iload_n hx hb dL_law_394 rfl (lv_at hl 3 rfl) ?_
  refine lv_iconst (v := 1) hx hb dL_law_395 (by decide) ?_
  refine lv_iadd hx hb dL_law_396 ?_
  refine va_sld hx hb hX hbl hbA hw.2.2 (at_i hL hi 1 (by decide)) dL_law_397 ?_
  refine lv_aload_n hx hb dL_law_398 rfl (lv_at hl 0 rfl) ?_
  refine lv_iload_n hx hb dL_law_399 rfl (lv_at hl 3 rfl) ?_
  refine lv_iconst (v := 2) hx hb dL_law_400 (by decide) ?_
  refine lv_iadd hx hb dL_law_401 ?_
  refine va_sld hx hb hX hbl hbA hw.2.2 (at_i hL hi 2 (by decide)) dL_law_402 ?_
  refine lv_aload_n hx hb dL_law_403 rfl (lv_at hl 0 rfl) ?_
  refine lv_iload_n hx hb dL_law_404 rfl (lv_at hl 3 rfl) ?_
  refine lv_iconst (v := 3) hx hb dL_law_405 (by decide) ?_
  refine lv_iadd hx hb dL_law_406 ?_
  refine va_sld hx hb hX hbl hbA hw.2.2 (at_i hL hi 3 (by decide)) dL_law_407 ?_
  refine q_goI hw (q_runV (rest := [.int r]) M hw (ctX7_lends l hB hN (xs (nI i + 1).toNatClampNeg) (xs (nI i + 2).toNatClampNeg) (xs (nI i + 3).toNatClampNeg) σ1 _ h) mbX7_lends (ob_92 hN) rfl tw_804 rfl hl.1 rfl (Nat.le_of_ble_eq_true rfl) ⟨Nat.le_of_ble_eq_true rfl, Nat.le_of_ble_eq_true rfl⟩ ⟨Nat.le_refl _, Nat.le_refl _⟩ dL_law_408) (fun r2 σ2 H locs h hw => ?_)
  obtain ⟨rfl, hI2⟩ := h
  refine lv_icmp_eq (tgt := 868) hx hb dL_law_411 (by decide) (fun _ => ?_) (fun c1 => absurd rfl c1)
  exact con Y σ2 H locs ls M hN h0 hI2 hw hl
set_option maxHeartbeats 4000000 in
set_option maxRecDepth 100000 in
theorem lawc_10 {Y : LY} (M : MC p s m #[Value.ref b] meth c cL_law 4 (some .boolean) R_law Y) (hN : yN Y = 108) (h0 : c0s Y 3 9) (hX : va_X b L xs s s.heap) (hbl : b < s.heap.size) (hL : L ≤ 256) (hi : i + 4 ≤ L) {σ : St} (hI : INV σ) {H : Heap} {locs : List Loc} {ls : Array Slot} (hw : WS Y (fun q : Nat => s.heap.size ≤ q) s.heap σ H locs) (hl : lv_has ls 4 [(0, .ref b), (1, .ref (yA Y 0)), (2, .ref (yA Y 92)), (3, .int (nI i))]) (con : CON p l e s m below meth c b i) : W p l e room_1 s m #[Value.ref b] below meth c H locs 600000 7302250 (lw_Z below #[Value.ref b] s) (F0 m 416 ls []) := by
  obtain ⟨hx, hb, hr, hml, hown, hlk, hT, hK, hB⟩ := id M
  have hbA : ¬ (fun q : Nat => s.heap.size ≤ q) b := Nat.not_le.mpr hbl
  refine lv_aload_n hx hb dL_law_416 rfl (lv_at hl 1 rfl) ?_
  refine lv_aload_n hx hb dL_law_417 rfl (lv_at hl 0 rfl) ?_
  refine lv_iload_n hx hb dL_law_418 rfl (lv_at hl 3 rfl) ?_
  refine lv_iconst (v := 1) hx hb dL_law_419 (by decide) ?_
  refine lv_iadd hx hb dL_law_420 ?_
  refine va_sld hx hb hX hbl hbA hw.2.2 (at_i hL hi 1 (by decide)) dL_law_421 ?_
  refine lv_aload_n hx hb dL_law_422 rfl (lv_at hl 0 rfl) ?_
  refine lv_iload_n hx hb dL_law_423 rfl (lv_at hl 3 rfl) ?_
  refine lv_iconst (v := 2) hx hb dL_law_424 (by decide) ?_
  refine lv_iadd hx hb dL_law_425 ?_
  refine va_sld hx hb hX hbl hbA hw.2.2 (at_i hL hi 2 (by decide)) dL_law_426 ?_
  have h := t_marries hI (xs (nI i + 1).toNatClampNeg) (xs (nI i + 2).toNatClampNeg)
  refine q_goI hw (q_runV (rest := []) M hw (ctX6_marries l hB hN h0 (xs (nI i + 1).toNatClampNeg) (xs (nI i + 2).toNatClampNeg) σ _ h) mbX6_marries (ob_0 hN h0) rfl tw_454 rfl hl.1 rfl (Nat.le_of_ble_eq_true rfl) ⟨Nat.le_of_ble_eq_true rfl, Nat.le_of_ble_eq_true rfl⟩ ⟨Nat.le_refl _, Nat.le_refl _⟩ dL_law_427) (fun r σ1 H locs h hw => ?_)
  refine lv_aload_n hx hb dL_law_430 rfl (lv_at hl 2 rfl) ?_
  refine lv_aload_n hx hb dL_law_431 rfl (lv_at hl 0 rfl) ?_
  refine lv_iload_n hx hb dL_law_432 rfl (lv_at hl 3 rfl) ?_
  refine lv_iconst (v := 1) hx hb dL_law_433 (by decide) ?_
  refine lv_iadd hx hb dL_law_434 ?_
  refine va_sld hx hb hX hbl hbA hw.2.2 (at_i hL hi 1 (by decide)) dL_law_435 ?_
  refine lv_aload_n hx hb dL_law_436 rfl (lv_at hl 0 rfl) ?_
  refine lv_iload_n hx hb dL_law_437 rfl (lv_at hl 3 rfl) ?_
  refine lv_iconst (v := 2) hx hb dL_law_438 (by decide) ?_
  refine lv_iadd hx hb dL_law_439 ?_
  refine va_sld hx hb hX hbl hbA hw.2.2 (at_i hL hi 2 (by decide)) dL_law_440 ?_
  refine q_goI hw (q_runV (rest := [.int r]) M hw (ctX7_marries l hB hN (xs (nI i + 1).toNatClampNeg) (xs (nI i + 2).toNatClampNeg) σ1 _ h) mbX7_marries (ob_92 hN) rfl tw_808 rfl hl.1 rfl (Nat.le_of_ble_eq_true rfl) ⟨Nat.le_of_ble_eq_true rfl, Nat.le_of_ble_eq_true rfl⟩ ⟨Nat.le_refl _, Nat.le_refl _⟩ dL_law_441) (fun r2 σ2 H locs h hw => ?_)
  obtain ⟨rfl, hI2⟩ := h
  refine lv_icmp_eq (tgt := 868) hx hb dL_law_444 (by decide) (fun _ => ?_) (fun c1 => absurd rfl c1)
  exact con Y σ2 H locs ls M hN h0 hI2 hw hl
set_option maxHeartbeats 4000000 in
set_option maxRecDepth 100000 in
theorem lawc_11 {Y : LY} (M : MC p s m #[Value.ref b] meth c cL_law 4 (some .boolean) R_law Y) (hN : yN Y = 108) (h0 : c0s Y 3 9) (hX : va_X b L xs s s.heap) (hbl : b < s.heap.size) (hL : L ≤ 256) (hi : i + 4 ≤ L) {σ : St} (hI : INV σ) {H : Heap} {locs : List Loc} {ls : Array Slot} (hw : WS Y (fun q : Nat => s.heap.size ≤ q) s.heap σ H locs) (hl : lv_has ls 4 [(0, .ref b), (1, .ref (yA Y 0)), (2, .ref (yA Y 92)), (3, .int (nI i))]) (con : CON p l e s m below meth c b i) : W p l e room_1 s m #[Value.ref b] below meth c H locs 600000 7302250 (lw_Z below #[Value.ref b] s) (F0 m 449 ls []) := by
  obtain ⟨hx, hb, hr, hml, hown, hlk, hT, hK, hB⟩ := id M
  have hbA : ¬ (fun q : Nat => s.heap.size ≤ q) b := Nat.not_le.mpr hbl
  refine lv_aload_n hx hb dL_law_449 rfl (lv_at hl 1 rfl) ?_
  refine lv_aload_n hx hb dL_law_450 rfl (lv_at hl 0 rfl) ?_
  refine lv_iload_n hx hb dL_law_451 rfl (lv_at hl 3 rfl) ?_
  refine lv_iconst (v := 1) hx hb dL_law_452 (by decide) ?_
  refine lv_iadd hx hb dL_law_453 ?_
  refine va_sld hx hb hX hbl hbA hw.2.2 (at_i hL hi 1 (by decide)) dL_law_454 ?_
  have h := t_dies hI (xs (nI i + 1).toNatClampNeg)
  refine q_goI hw (q_runV (rest := []) M hw (ctX6_dies l hB hN h0 (xs (nI i + 1).toNatClampNeg) σ _ h) mbX6_dies (ob_0 hN h0) rfl tw_462 rfl hl.1 rfl (Nat.le_of_ble_eq_true rfl) ⟨Nat.le_of_ble_eq_true rfl, Nat.le_of_ble_eq_true rfl⟩ ⟨Nat.le_refl _, Nat.le_refl _⟩ dL_law_455) (fun r σ1 H locs h hw => ?_)
  refine lv_aload_n hx hb dL_law_458 rfl (lv_at hl 2 rfl) ?_
  refine lv_aload_n hx hb dL_law_459 rfl (lv_at hl 0 rfl) ?_
  refine lv_iload_n hx hb dL_law_460 rfl (lv_at hl 3 rfl) ?_
  refine lv_iconst (v := 1) hx hb dL_law_461 (by decide) ?_
  refine lv_iadd hx hb dL_law_462 ?_
  refine va_sld hx hb hX hbl hbA hw.2.2 (at_i hL hi 1 (by decide)) dL_law_463 ?_
  refine q_goI hw (q_runV (rest := [.int r]) M hw (ctX7_dies l hB hN (xs (nI i + 1).toNatClampNeg) σ1 _ h) mbX7_dies (ob_92 hN) rfl tw_812 rfl hl.1 rfl (Nat.le_of_ble_eq_true rfl) ⟨Nat.le_of_ble_eq_true rfl, Nat.le_of_ble_eq_true rfl⟩ ⟨Nat.le_refl _, Nat.le_refl _⟩ dL_law_464) (fun r2 σ2 H locs h hw => ?_)
  obtain ⟨rfl, hI2⟩ := h
  refine lv_icmp_eq (tgt := 868) hx hb dL_law_467 (by decide) (fun _ => ?_) (fun c1 => absurd rfl c1)
  exact con Y σ2 H locs ls M hN h0 hI2 hw hl
set_option maxHeartbeats 4000000 in
set_option maxRecDepth 100000 in
theorem lawc_12 {Y : LY} (M : MC p s m #[Value.ref b] meth c cL_law 4 (some .boolean) R_law Y) (hN : yN Y = 108) (h0 : c0s Y 3 9) (hX : va_X b L xs s s.heap) (hbl : b < s.heap.size) (hL : L ≤ 256) (hi : i + 4 ≤ L) {σ : St} (hI : INV σ) {H : Heap} {locs : List Loc} {ls : Array Slot} (hw : WS Y (fun q : Nat => s.heap.size ≤ q) s.heap σ H locs) (hl : lv_has ls 4 [(0, .ref b), (1, .ref (yA Y 0)), (2, .ref (yA Y 92)), (3, .int (nI i))]) (con : CON p l e s m below meth c b i) : W p l e room_1 s m #[Value.ref b] below meth c H locs 600000 7302250 (lw_Z below #[Value.ref b] s) (F0 m 472 ls []) := by
  obtain ⟨hx, hb, hr, hml, hown, hlk, hT, hK, hB⟩ := id M
  have hbA : ¬ (fun q : Nat => s.heap.size ≤ q) b := Nat.not_le.mpr hbl
  refine lv_aload_n hx hb dL_law_472 rfl (lv_at hl 1 rfl) ?_
  have h := t_undo hI 
  refine q_goI hw (q_runV (rest := []) M hw (ctX6_undo l hB hN h0  σ _ h) mbX6_undo (ob_0 hN h0) rfl tw_479 rfl hl.1 rfl (Nat.le_of_ble_eq_true rfl) ⟨Nat.le_of_ble_eq_true rfl, Nat.le_of_ble_eq_true rfl⟩ ⟨Nat.le_refl _, Nat.le_refl _⟩ dL_law_473) (fun r σ1 H locs h hw => ?_)
  refine lv_aload_n hx hb dL_law_476 rfl (lv_at hl 2 rfl) ?_
  refine q_goI hw (q_runV (rest := [.int r]) M hw (ctX7_undo l hB hN  σ1 _ h) mbX7_undo (ob_92 hN) rfl tw_820 rfl hl.1 rfl (Nat.le_of_ble_eq_true rfl) ⟨Nat.le_of_ble_eq_true rfl, Nat.le_of_ble_eq_true rfl⟩ ⟨Nat.le_refl _, Nat.le_refl _⟩ dL_law_477) (fun r2 σ2 H locs h hw => ?_)
  obtain ⟨rfl, hI2⟩ := h
  refine lv_icmp_eq (tgt := 868) hx hb dL_law_480 (by decide) (fun _ => ?_) (fun c1 => absurd rfl c1)
  exact con Y σ2 H locs ls M hN h0 hI2 hw hl
set_option maxHeartbeats 4000000 in
set_option maxRecDepth 100000 in
theorem lawc_13 {Y : LY} (M : MC p s m #[Value.ref b] meth c cL_law 4 (some .boolean) R_law Y) (hN : yN Y = 108) (h0 : c0s Y 3 9) (hX : va_X b L xs s s.heap) (hbl : b < s.heap.size) (hL : L ≤ 256) (hi : i + 4 ≤ L) {σ : St} (hI : INV σ) {H : Heap} {locs : List Loc} {ls : Array Slot} (hw : WS Y (fun q : Nat => s.heap.size ≤ q) s.heap σ H locs) (hl : lv_has ls 4 [(0, .ref b), (1, .ref (yA Y 0)), (2, .ref (yA Y 92)), (3, .int (nI i))]) (con : CON p l e s m below meth c b i) : W p l e room_1 s m #[Value.ref b] below meth c H locs 600000 7302250 (lw_Z below #[Value.ref b] s) (F0 m 485 ls []) := by
  obtain ⟨hx, hb, hr, hml, hown, hlk, hT, hK, hB⟩ := id M
  have hbA : ¬ (fun q : Nat => s.heap.size ≤ q) b := Nat.not_le.mpr hbl
  refine lv_aload_n hx hb dL_law_485 rfl (lv_at hl 1 rfl) ?_
  refine lv_aload_n hx hb dL_law_486 rfl (lv_at hl 0 rfl) ?_
  refine lv_iload_n hx hb dL_law_487 rfl (lv_at hl 3 rfl) ?_
  refine lv_iconst (v := 1) hx hb dL_law_488 (by decide) ?_
  refine lv_iadd hx hb dL_law_489 ?_
  refine va_sld hx hb hX hbl hbA hw.2.2 (at_i hL hi 1 (by decide)) dL_law_490 ?_
  refine lv_aload_n hx hb dL_law_491 rfl (lv_at hl 0 rfl) ?_
  refine lv_iload_n hx hb dL_law_492 rfl (lv_at hl 3 rfl) ?_
  refine lv_iconst (v := 2) hx hb dL_law_493 (by decide) ?_
  refine lv_iadd hx hb dL_law_494 ?_
  refine va_sld hx hb hX hbl hbA hw.2.2 (at_i hL hi 2 (by decide)) dL_law_495 ?_
  refine lv_aload_n hx hb dL_law_496 rfl (lv_at hl 0 rfl) ?_
  refine lv_iload_n hx hb dL_law_497 rfl (lv_at hl 3 rfl) ?_
  refine lv_iconst (v := 3) hx hb dL_law_498 (by decide) ?_
  refine lv_iadd hx hb dL_law_499 ?_
  refine va_sld hx hb hX hbl hbA hw.2.2 (at_i hL hi 3 (by decide)) dL_law_500 ?_
  have h := t_least hI (xs (nI i + 1).toNatClampNeg) (xs (nI i + 2).toNatClampNeg) (xs (nI i + 3).toNatClampNeg)
  refine q_goI hw (q_runV (rest := []) M hw (ctX6_least l hB hN h0 (xs (nI i + 1).toNatClampNeg) (xs (nI i + 2).toNatClampNeg) (xs (nI i + 3).toNatClampNeg) σ _ h) mbX6_least (ob_0 hN h0) rfl tw_487 rfl hl.1 rfl (Nat.le_of_ble_eq_true rfl) ⟨Nat.le_of_ble_eq_true rfl, Nat.le_of_ble_eq_true rfl⟩ ⟨Nat.le_refl _, Nat.le_refl _⟩ dL_law_501) (fun r σ1 H locs h hw => ?_)
  refine lv_aload_n hx hb dL_law_504 rfl (lv_at hl 2 rfl) ?_
  refine lv_aload_n hx hb dL_law_505 rfl (lv_at hl 0 rfl) ?_
  refine lv_iload_n hx hb dL_law_506 rfl (lv_at hl 3 rfl) ?_
  refine lv_iconst (v := 1) hx hb dL_law_507 (by decide) ?_
  refine lv_iadd hx hb dL_law_508 ?_
  refine va_sld hx hb hX hbl hbA hw.2.2 (at_i hL hi 1 (by decide)) dL_law_509 ?_
  refine lv_aload_n hx hb dL_law_510 rfl (lv_at hl 0 rfl) ?_
  refine lv_iload_n hx hb dL_law_511 rfl (lv_at hl 3 rfl) ?_
  refine lv_iconst (v := 2) hx hb dL_law_512 (by decide) ?_
  refine lv_iadd hx hb dL_law_513 ?_
  refine va_sld hx hb hX hbl hbA hw.2.2 (at_i hL hi 2 (by decide)) dL_law_514 ?_
  refine lv_aload_n hx hb dL_law_515 rfl (lv_at hl 0 rfl) ?_
  refine lv_iload_n hx hb dL_law_516 rfl (lv_at hl 3 rfl) ?_
  refine lv_iconst (v := 3) hx hb dL_law_517 (by decide) ?_
  refine lv_iadd hx hb dL_law_518 ?_
  refine va_sld hx hb hX hbl hbA hw.2.2 (at_i hL hi 3 (by decide)) dL_law_519 ?_
  refine q_goI hw (q_runV (rest := [.int r]) M hw (ctX7_least l hB hN (xs (nI i + 1).toNatClampNeg) (xs (nI i + 2).toNatClampNeg) (xs (nI i + 3).toNatClampNeg) σ1 _ h) mbX7_least (ob_92 hN) rfl tw_824 rfl hl.1 rfl (Nat.le_of_ble_eq_true rfl) ⟨Nat.le_of_ble_eq_true rfl, Nat.le_of_ble_eq_true rfl⟩ ⟨Nat.le_refl _, Nat.le_refl _⟩ dL_law_520) (fun r2 σ2 H locs h hw => ?_)
  obtain ⟨rfl, hI2⟩ := h
  refine lv_icmp_eq (tgt := 868) hx hb dL_law_523 (by decide) (fun _ => ?_) (fun c1 => absurd rfl c1)
  exact con Y σ2 H locs ls M hN h0 hI2 hw hl
set_option maxHeartbeats 4000000 in
set_option maxRecDepth 100000 in
theorem lawc_14 {Y : LY} (M : MC p s m #[Value.ref b] meth c cL_law 4 (some .boolean) R_law Y) (hN : yN Y = 108) (h0 : c0s Y 3 9) (hX : va_X b L xs s s.heap) (hbl : b < s.heap.size) (hL : L ≤ 256) (hi : i + 4 ≤ L) {σ : St} (hI : INV σ) {H : Heap} {locs : List Loc} {ls : Array Slot} (hw : WS Y (fun q : Nat => s.heap.size ≤ q) s.heap σ H locs) (hl : lv_has ls 4 [(0, .ref b), (1, .ref (yA Y 0)), (2, .ref (yA Y 92)), (3, .int (nI i))]) (con : CON p l e s m below meth c b i) : W p l e room_1 s m #[Value.ref b] below meth c H locs 600000 7302250 (lw_Z below #[Value.ref b] s) (F0 m 528 ls []) := by
  obtain ⟨hx, hb, hr, hml, hown, hlk, hT, hK, hB⟩ := id M
  have hbA : ¬ (fun q : Nat => s.heap.size ≤ q) b := Nat.not_le.mpr hbl
  refine lv_aload_n hx hb dL_law_528 rfl (lv_at hl 1 rfl) ?_
  refine lv_aload_n hx hb dL_law_529 rfl (lv_at hl 0 rfl) ?_
  refine lv_iload_n hx hb dL_law_530 rfl (lv_at hl 3 rfl) ?_
  refine lv_iconst (v := 1) hx hb dL_law_531 (by decide) ?_
  refine lv_iadd hx hb dL_law_532 ?_
  refine va_sld hx hb hX hbl hbA hw.2.2 (at_i hL hi 1 (by decide)) dL_law_533 ?_
  refine lv_aload_n hx hb dL_law_534 rfl (lv_at hl 0 rfl) ?_
  refine lv_iload_n hx hb dL_law_535 rfl (lv_at hl 3 rfl) ?_
  refine lv_iconst (v := 2) hx hb dL_law_536 (by decide) ?_
  refine lv_iadd hx hb dL_law_537 ?_
  refine va_sld hx hb hX hbl hbA hw.2.2 (at_i hL hi 2 (by decide)) dL_law_538 ?_
  refine lv_aload_n hx hb dL_law_539 rfl (lv_at hl 0 rfl) ?_
  refine lv_iload_n hx hb dL_law_540 rfl (lv_at hl 3 rfl) ?_
  refine lv_iconst (v := 3) hx hb dL_law_541 (by decide) ?_
  refine lv_iadd hx hb dL_law_542 ?_
  refine va_sld hx hb hX hbl hbA hw.2.2 (at_i hL hi 3 (by decide)) dL_law_543 ?_
  have h := t_soonest hI (xs (nI i + 1).toNatClampNeg) (xs (nI i + 2).toNatClampNeg) (xs (nI i + 3).toNatClampNeg)
  refine q_goI hw (q_runV (rest := []) M hw (ctX6_soonest l hB hN h0 (xs (nI i + 1).toNatClampNeg) (xs (nI i + 2).toNatClampNeg) (xs (nI i + 3).toNatClampNeg) σ _ h) mbX6_soonest (ob_0 hN h0) rfl tw_518 rfl hl.1 rfl (Nat.le_of_ble_eq_true rfl) ⟨Nat.le_of_ble_eq_true rfl, Nat.le_of_ble_eq_true rfl⟩ ⟨Nat.le_refl _, Nat.le_refl _⟩ dL_law_544) (fun r σ1 H locs h hw => ?_)
  refine lv_aload_n hx hb dL_law_547 rfl (lv_at hl 2 rfl) ?_
  refine lv_aload_n hx hb dL_law_548 rfl (lv_at hl 0 rfl) ?_
  refine lv_iload_n hx hb dL_law_549 rfl (lv_at hl 3 rfl) ?_
  refine lv_iconst (v := 1) hx hb dL_law_550 (by decide) ?_
  refine lv_iadd hx hb dL_law_551 ?_
  refine va_sld hx hb hX hbl hbA hw.2.2 (at_i hL hi 1 (by decide)) dL_law_552 ?_
  refine lv_aload_n hx hb dL_law_553 rfl (lv_at hl 0 rfl) ?_
  refine lv_iload_n hx hb dL_law_554 rfl (lv_at hl 3 rfl) ?_
  refine lv_iconst (v := 2) hx hb dL_law_555 (by decide) ?_
  refine lv_iadd hx hb dL_law_556 ?_
  refine va_sld hx hb hX hbl hbA hw.2.2 (at_i hL hi 2 (by decide)) dL_law_557 ?_
  refine lv_aload_n hx hb dL_law_558 rfl (lv_at hl 0 rfl) ?_
  refine lv_iload_n hx hb dL_law_559 rfl (lv_at hl 3 rfl) ?_
  refine lv_iconst (v := 3) hx hb dL_law_560 (by decide) ?_
  refine lv_iadd hx hb dL_law_561 ?_
  refine va_sld hx hb hX hbl hbA hw.2.2 (at_i hL hi 3 (by decide)) dL_law_562 ?_
  refine q_goI hw (q_runV (rest := [.int r]) M hw (ctX7_soonest l hB hN (xs (nI i + 1).toNatClampNeg) (xs (nI i + 2).toNatClampNeg) (xs (nI i + 3).toNatClampNeg) σ1 _ h) mbX7_soonest (ob_92 hN) rfl tw_841 rfl hl.1 rfl (Nat.le_of_ble_eq_true rfl) ⟨Nat.le_of_ble_eq_true rfl, Nat.le_of_ble_eq_true rfl⟩ ⟨Nat.le_refl _, Nat.le_refl _⟩ dL_law_563) (fun r2 σ2 H locs h hw => ?_)
  obtain ⟨rfl, hI2⟩ := h
  refine lv_icmp_eq (tgt := 868) hx hb dL_law_566 (by decide) (fun _ => ?_) (fun c1 => absurd rfl c1)
  exact con Y σ2 H locs ls M hN h0 hI2 hw hl
set_option maxHeartbeats 4000000 in
set_option maxRecDepth 100000 in
theorem lawc_15 {Y : LY} (M : MC p s m #[Value.ref b] meth c cL_law 4 (some .boolean) R_law Y) (hN : yN Y = 108) (h0 : c0s Y 3 9) (hX : va_X b L xs s s.heap) (hbl : b < s.heap.size) (hL : L ≤ 256) (hi : i + 4 ≤ L) {σ : St} (hI : INV σ) {H : Heap} {locs : List Loc} {ls : Array Slot} (hw : WS Y (fun q : Nat => s.heap.size ≤ q) s.heap σ H locs) (hl : lv_has ls 4 [(0, .ref b), (1, .ref (yA Y 0)), (2, .ref (yA Y 92)), (3, .int (nI i))]) (con : CON p l e s m below meth c b i) : W p l e room_1 s m #[Value.ref b] below meth c H locs 600000 7302250 (lw_Z below #[Value.ref b] s) (F0 m 571 ls []) := by
  obtain ⟨hx, hb, hr, hml, hown, hlk, hT, hK, hB⟩ := id M
  have hbA : ¬ (fun q : Nat => s.heap.size ≤ q) b := Nat.not_le.mpr hbl
  refine lv_aload_n hx hb dL_law_571 rfl (lv_at hl 1 rfl) ?_
  refine lv_aload_n hx hb dL_law_572 rfl (lv_at hl 0 rfl) ?_
  refine lv_iload_n hx hb dL_law_573 rfl (lv_at hl 3 rfl) ?_
  refine lv_iconst (v := 1) hx hb dL_law_574 (by decide) ?_
  refine lv_iadd hx hb dL_law_575 ?_
  refine va_sld hx hb hX hbl hbA hw.2.2 (at_i hL hi 1 (by decide)) dL_law_576 ?_
  have h := t_need hI (xs (nI i + 1).toNatClampNeg)
  refine q_goI hw (q_runV (rest := []) M hw (ctX6_need l hB hN h0 (xs (nI i + 1).toNatClampNeg) σ _ h) mbX6_need (ob_0 hN h0) rfl tw_522 rfl hl.1 rfl (Nat.le_of_ble_eq_true rfl) ⟨Nat.le_of_ble_eq_true rfl, Nat.le_of_ble_eq_true rfl⟩ ⟨Nat.le_refl _, Nat.le_refl _⟩ dL_law_577) (fun r σ1 H locs h hw => ?_)
  refine lv_aload_n hx hb dL_law_580 rfl (lv_at hl 2 rfl) ?_
  refine lv_aload_n hx hb dL_law_581 rfl (lv_at hl 0 rfl) ?_
  refine lv_iload_n hx hb dL_law_582 rfl (lv_at hl 3 rfl) ?_
  refine lv_iconst (v := 1) hx hb dL_law_583 (by decide) ?_
  refine lv_iadd hx hb dL_law_584 ?_
  refine va_sld hx hb hX hbl hbA hw.2.2 (at_i hL hi 1 (by decide)) dL_law_585 ?_
  refine q_goI hw (q_runV (rest := [.int r]) M hw (ctX7_need l hB hN (xs (nI i + 1).toNatClampNeg) σ1 _ h) mbX7_need (ob_92 hN) rfl tw_845 rfl hl.1 rfl (Nat.le_of_ble_eq_true rfl) ⟨Nat.le_of_ble_eq_true rfl, Nat.le_of_ble_eq_true rfl⟩ ⟨Nat.le_refl _, Nat.le_refl _⟩ dL_law_586) (fun r2 σ2 H locs h hw => ?_)
  obtain ⟨rfl, hI2⟩ := h
  refine lv_icmp_eq (tgt := 868) hx hb dL_law_589 (by decide) (fun _ => ?_) (fun c1 => absurd rfl c1)
  exact con Y σ2 H locs ls M hN h0 hI2 hw hl
set_option maxHeartbeats 4000000 in
set_option maxRecDepth 100000 in
theorem lawc_16 {Y : LY} (M : MC p s m #[Value.ref b] meth c cL_law 4 (some .boolean) R_law Y) (hN : yN Y = 108) (h0 : c0s Y 3 9) (hX : va_X b L xs s s.heap) (hbl : b < s.heap.size) (hL : L ≤ 256) (hi : i + 4 ≤ L) {σ : St} (hI : INV σ) {H : Heap} {locs : List Loc} {ls : Array Slot} (hw : WS Y (fun q : Nat => s.heap.size ≤ q) s.heap σ H locs) (hl : lv_has ls 4 [(0, .ref b), (1, .ref (yA Y 0)), (2, .ref (yA Y 92)), (3, .int (nI i))]) (con : CON p l e s m below meth c b i) : W p l e room_1 s m #[Value.ref b] below meth c H locs 600000 7302250 (lw_Z below #[Value.ref b] s) (F0 m 594 ls []) := by
  obtain ⟨hx, hb, hr, hml, hown, hlk, hT, hK, hB⟩ := id M
  have hbA : ¬ (fun q : Nat => s.heap.size ≤ q) b := Nat.not_le.mpr hbl
  refine lv_aload_n hx hb dL_law_594 rfl (lv_at hl 1 rfl) ?_
  refine lv_aload_n hx hb dL_law_595 rfl (lv_at hl 0 rfl) ?_
  refine lv_iload_n hx hb dL_law_596 rfl (lv_at hl 3 rfl) ?_
  refine lv_iconst (v := 1) hx hb dL_law_597 (by decide) ?_
  refine lv_iadd hx hb dL_law_598 ?_
  refine va_sld hx hb hX hbl hbA hw.2.2 (at_i hL hi 1 (by decide)) dL_law_599 ?_
  have h := t_lacks hI (xs (nI i + 1).toNatClampNeg)
  refine q_goI hw (q_runV (rest := []) M hw (ctX6_lacks l hB hN h0 (xs (nI i + 1).toNatClampNeg) σ _ h) mbX6_lacks (ob_0 hN h0) rfl tw_530 rfl hl.1 rfl (Nat.le_of_ble_eq_true rfl) ⟨Nat.le_of_ble_eq_true rfl, Nat.le_of_ble_eq_true rfl⟩ ⟨Nat.le_refl _, Nat.le_refl _⟩ dL_law_600) (fun r σ1 H locs h hw => ?_)
  refine lv_aload_n hx hb dL_law_603 rfl (lv_at hl 2 rfl) ?_
  refine lv_aload_n hx hb dL_law_604 rfl (lv_at hl 0 rfl) ?_
  refine lv_iload_n hx hb dL_law_605 rfl (lv_at hl 3 rfl) ?_
  refine lv_iconst (v := 1) hx hb dL_law_606 (by decide) ?_
  refine lv_iadd hx hb dL_law_607 ?_
  refine va_sld hx hb hX hbl hbA hw.2.2 (at_i hL hi 1 (by decide)) dL_law_608 ?_
  refine q_goI hw (q_runV (rest := [.int r]) M hw (ctX7_lacks l hB hN (xs (nI i + 1).toNatClampNeg) σ1 _ h) mbX7_lacks (ob_92 hN) rfl tw_853 rfl hl.1 rfl (Nat.le_of_ble_eq_true rfl) ⟨Nat.le_of_ble_eq_true rfl, Nat.le_of_ble_eq_true rfl⟩ ⟨Nat.le_refl _, Nat.le_refl _⟩ dL_law_609) (fun r2 σ2 H locs h hw => ?_)
  obtain ⟨rfl, hI2⟩ := h
  refine lv_icmp_eq (tgt := 868) hx hb dL_law_612 (by decide) (fun _ => ?_) (fun c1 => absurd rfl c1)
  exact con Y σ2 H locs ls M hN h0 hI2 hw hl
set_option maxHeartbeats 4000000 in
set_option maxRecDepth 100000 in
theorem lawc_17 {Y : LY} (M : MC p s m #[Value.ref b] meth c cL_law 4 (some .boolean) R_law Y) (hN : yN Y = 108) (h0 : c0s Y 3 9) (hX : va_X b L xs s s.heap) (hbl : b < s.heap.size) (hL : L ≤ 256) (hi : i + 4 ≤ L) {σ : St} (hI : INV σ) {H : Heap} {locs : List Loc} {ls : Array Slot} (hw : WS Y (fun q : Nat => s.heap.size ≤ q) s.heap σ H locs) (hl : lv_has ls 4 [(0, .ref b), (1, .ref (yA Y 0)), (2, .ref (yA Y 92)), (3, .int (nI i))]) (con : CON p l e s m below meth c b i) : W p l e room_1 s m #[Value.ref b] below meth c H locs 600000 7302250 (lw_Z below #[Value.ref b] s) (F0 m 617 ls []) := by
  obtain ⟨hx, hb, hr, hml, hown, hlk, hT, hK, hB⟩ := id M
  have hbA : ¬ (fun q : Nat => s.heap.size ≤ q) b := Nat.not_le.mpr hbl
  refine lv_aload_n hx hb dL_law_617 rfl (lv_at hl 1 rfl) ?_
  refine lv_aload_n hx hb dL_law_618 rfl (lv_at hl 0 rfl) ?_
  refine lv_iload_n hx hb dL_law_619 rfl (lv_at hl 3 rfl) ?_
  refine lv_iconst (v := 1) hx hb dL_law_620 (by decide) ?_
  refine lv_iadd hx hb dL_law_621 ?_
  refine va_sld hx hb hX hbl hbA hw.2.2 (at_i hL hi 1 (by decide)) dL_law_622 ?_
  have h := t_match hI (xs (nI i + 1).toNatClampNeg)
  refine q_goI hw (q_runV (rest := []) M hw (ctX6_match l hB hN h0 (xs (nI i + 1).toNatClampNeg) σ _ h) mbX6_match (ob_0 hN h0) rfl tw_535 rfl hl.1 rfl (Nat.le_of_ble_eq_true rfl) ⟨Nat.le_of_ble_eq_true rfl, Nat.le_of_ble_eq_true rfl⟩ ⟨Nat.le_refl _, Nat.le_refl _⟩ dL_law_623) (fun r σ1 H locs h hw => ?_)
  refine lv_aload_n hx hb dL_law_626 rfl (lv_at hl 2 rfl) ?_
  refine lv_aload_n hx hb dL_law_627 rfl (lv_at hl 0 rfl) ?_
  refine lv_iload_n hx hb dL_law_628 rfl (lv_at hl 3 rfl) ?_
  refine lv_iconst (v := 1) hx hb dL_law_629 (by decide) ?_
  refine lv_iadd hx hb dL_law_630 ?_
  refine va_sld hx hb hX hbl hbA hw.2.2 (at_i hL hi 1 (by decide)) dL_law_631 ?_
  refine q_goI hw (q_runV (rest := [.int r]) M hw (ctX7_match l hB hN (xs (nI i + 1).toNatClampNeg) σ1 _ h) mbX7_match (ob_92 hN) rfl tw_861 rfl hl.1 rfl (Nat.le_of_ble_eq_true rfl) ⟨Nat.le_of_ble_eq_true rfl, Nat.le_of_ble_eq_true rfl⟩ ⟨Nat.le_refl _, Nat.le_refl _⟩ dL_law_632) (fun r2 σ2 H locs h hw => ?_)
  obtain ⟨rfl, hI2⟩ := h
  refine lv_icmp_eq (tgt := 868) hx hb dL_law_635 (by decide) (fun _ => ?_) (fun c1 => absurd rfl c1)
  exact con Y σ2 H locs ls M hN h0 hI2 hw hl
set_option maxHeartbeats 4000000 in
set_option maxRecDepth 100000 in
theorem lawc_18 {Y : LY} (M : MC p s m #[Value.ref b] meth c cL_law 4 (some .boolean) R_law Y) (hN : yN Y = 108) (h0 : c0s Y 3 9) (hX : va_X b L xs s s.heap) (hbl : b < s.heap.size) (hL : L ≤ 256) (hi : i + 4 ≤ L) {σ : St} (hI : INV σ) {H : Heap} {locs : List Loc} {ls : Array Slot} (hw : WS Y (fun q : Nat => s.heap.size ≤ q) s.heap σ H locs) (hl : lv_has ls 4 [(0, .ref b), (1, .ref (yA Y 0)), (2, .ref (yA Y 92)), (3, .int (nI i))]) (con : CON p l e s m below meth c b i) : W p l e room_1 s m #[Value.ref b] below meth c H locs 600000 7302250 (lw_Z below #[Value.ref b] s) (F0 m 640 ls []) := by
  obtain ⟨hx, hb, hr, hml, hown, hlk, hT, hK, hB⟩ := id M
  have hbA : ¬ (fun q : Nat => s.heap.size ≤ q) b := Nat.not_le.mpr hbl
  refine lv_aload_n hx hb dL_law_640 rfl (lv_at hl 1 rfl) ?_
  refine lv_aload_n hx hb dL_law_641 rfl (lv_at hl 0 rfl) ?_
  refine lv_iload_n hx hb dL_law_642 rfl (lv_at hl 3 rfl) ?_
  refine lv_iconst (v := 1) hx hb dL_law_643 (by decide) ?_
  refine lv_iadd hx hb dL_law_644 ?_
  refine va_sld hx hb hX hbl hbA hw.2.2 (at_i hL hi 1 (by decide)) dL_law_645 ?_
  refine lv_aload_n hx hb dL_law_646 rfl (lv_at hl 0 rfl) ?_
  refine lv_iload_n hx hb dL_law_647 rfl (lv_at hl 3 rfl) ?_
  refine lv_iconst (v := 2) hx hb dL_law_648 (by decide) ?_
  refine lv_iadd hx hb dL_law_649 ?_
  refine va_sld hx hb hX hbl hbA hw.2.2 (at_i hL hi 2 (by decide)) dL_law_650 ?_
  refine lv_aload_n hx hb dL_law_651 rfl (lv_at hl 0 rfl) ?_
  refine lv_iload_n hx hb dL_law_652 rfl (lv_at hl 3 rfl) ?_
  refine lv_iconst (v := 3) hx hb dL_law_653 (by decide) ?_
  refine lv_iadd hx hb dL_law_654 ?_
  refine va_sld hx hb hX hbl hbA hw.2.2 (at_i hL hi 3 (by decide)) dL_law_655 ?_
  have h := t_cuts hI (xs (nI i + 1).toNatClampNeg) (xs (nI i + 2).toNatClampNeg) (xs (nI i + 3).toNatClampNeg)
  refine q_goI hw (q_runV (rest := []) M hw (ctX6_cuts l hB hN h0 (xs (nI i + 1).toNatClampNeg) (xs (nI i + 2).toNatClampNeg) (xs (nI i + 3).toNatClampNeg) σ _ h) mbX6_cuts (ob_0 hN h0) rfl tw_544 rfl hl.1 rfl (Nat.le_of_ble_eq_true rfl) ⟨Nat.le_of_ble_eq_true rfl, Nat.le_of_ble_eq_true rfl⟩ ⟨Nat.le_refl _, Nat.le_refl _⟩ dL_law_656) (fun r σ1 H locs h hw => ?_)
  refine lv_aload_n hx hb dL_law_659 rfl (lv_at hl 2 rfl) ?_
  refine lv_aload_n hx hb dL_law_660 rfl (lv_at hl 0 rfl) ?_
  refine lv_iload_n hx hb dL_law_661 rfl (lv_at hl 3 rfl) ?_
  refine lv_iconst (v := 1) hx hb dL_law_662 (by decide) ?_
  refine lv_iadd hx hb dL_law_663 ?_
  refine va_sld hx hb hX hbl hbA hw.2.2 (at_i hL hi 1 (by decide)) dL_law_664 ?_
  refine lv_aload_n hx hb dL_law_665 rfl (lv_at hl 0 rfl) ?_
  refine lv_iload_n hx hb dL_law_666 rfl (lv_at hl 3 rfl) ?_
  refine lv_iconst (v := 2) hx hb dL_law_667 (by decide) ?_
  refine lv_iadd hx hb dL_law_668 ?_
  refine va_sld hx hb hX hbl hbA hw.2.2 (at_i hL hi 2 (by decide)) dL_law_669 ?_
  refine lv_aload_n hx hb dL_law_670 rfl (lv_at hl 0 rfl) ?_
  refine lv_iload_n hx hb dL_law_671 rfl (lv_at hl 3 rfl) ?_
  refine lv_iconst (v := 3) hx hb dL_law_672 (by decide) ?_
  refine lv_iadd hx hb dL_law_673 ?_
  refine va_sld hx hb hX hbl hbA hw.2.2 (at_i hL hi 3 (by decide)) dL_law_674 ?_
  refine q_goI hw (q_runV (rest := [.int r]) M hw (ctX7_cuts l hB hN (xs (nI i + 1).toNatClampNeg) (xs (nI i + 2).toNatClampNeg) (xs (nI i + 3).toNatClampNeg) σ1 _ h) mbX7_cuts (ob_92 hN) rfl tw_865 rfl hl.1 rfl (Nat.le_of_ble_eq_true rfl) ⟨Nat.le_of_ble_eq_true rfl, Nat.le_of_ble_eq_true rfl⟩ ⟨Nat.le_refl _, Nat.le_refl _⟩ dL_law_675) (fun r2 σ2 H locs h hw => ?_)
  obtain ⟨rfl, hI2⟩ := h
  refine lv_icmp_eq (tgt := 868) hx hb dL_law_678 (by decide) (fun _ => ?_) (fun c1 => absurd rfl c1)
  exact con Y σ2 H locs ls M hN h0 hI2 hw hl
set_option maxHeartbeats 4000000 in
set_option maxRecDepth 100000 in
theorem lawc_19 {Y : LY} (M : MC p s m #[Value.ref b] meth c cL_law 4 (some .boolean) R_law Y) (hN : yN Y = 108) (h0 : c0s Y 3 9) (hX : va_X b L xs s s.heap) (hbl : b < s.heap.size) (hL : L ≤ 256) (hi : i + 4 ≤ L) {σ : St} (hI : INV σ) {H : Heap} {locs : List Loc} {ls : Array Slot} (hw : WS Y (fun q : Nat => s.heap.size ≤ q) s.heap σ H locs) (hl : lv_has ls 4 [(0, .ref b), (1, .ref (yA Y 0)), (2, .ref (yA Y 92)), (3, .int (nI i))]) (con : CON p l e s m below meth c b i) : W p l e room_1 s m #[Value.ref b] below meth c H locs 600000 7302250 (lw_Z below #[Value.ref b] s) (F0 m 683 ls []) := by
  obtain ⟨hx, hb, hr, hml, hown, hlk, hT, hK, hB⟩ := id M
  have hbA : ¬ (fun q : Nat => s.heap.size ≤ q) b := Nat.not_le.mpr hbl
  refine lv_aload_n hx hb dL_law_683 rfl (lv_at hl 1 rfl) ?_
  have h := t_forget hI 
  refine q_goI hw (q_runV (rest := []) M hw (ctX6_forget l hB hN h0  σ _ h) mbX6_forget (ob_0 hN h0) rfl tw_552 rfl hl.1 rfl (Nat.le_of_ble_eq_true rfl) ⟨Nat.le_of_ble_eq_true rfl, Nat.le_of_ble_eq_true rfl⟩ ⟨Nat.le_refl _, Nat.le_refl _⟩ dL_law_684) (fun r σ1 H locs h hw => ?_)
  refine lv_aload_n hx hb dL_law_687 rfl (lv_at hl 2 rfl) ?_
  refine q_goI hw (q_runV (rest := [.int r]) M hw (ctX7_forget l hB hN  σ1 _ h) mbX7_forget (ob_92 hN) rfl tw_869 rfl hl.1 rfl (Nat.le_of_ble_eq_true rfl) ⟨Nat.le_of_ble_eq_true rfl, Nat.le_of_ble_eq_true rfl⟩ ⟨Nat.le_refl _, Nat.le_refl _⟩ dL_law_688) (fun r2 σ2 H locs h hw => ?_)
  obtain ⟨rfl, hI2⟩ := h
  refine lv_icmp_eq (tgt := 868) hx hb dL_law_691 (by decide) (fun _ => ?_) (fun c1 => absurd rfl c1)
  exact con Y σ2 H locs ls M hN h0 hI2 hw hl
set_option maxHeartbeats 4000000 in
set_option maxRecDepth 100000 in
theorem lawc_20 {Y : LY} (M : MC p s m #[Value.ref b] meth c cL_law 4 (some .boolean) R_law Y) (hN : yN Y = 108) (h0 : c0s Y 3 9) (hX : va_X b L xs s s.heap) (hbl : b < s.heap.size) (hL : L ≤ 256) (hi : i + 4 ≤ L) {σ : St} (hI : INV σ) {H : Heap} {locs : List Loc} {ls : Array Slot} (hw : WS Y (fun q : Nat => s.heap.size ≤ q) s.heap σ H locs) (hl : lv_has ls 4 [(0, .ref b), (1, .ref (yA Y 0)), (2, .ref (yA Y 92)), (3, .int (nI i))]) (con : CON p l e s m below meth c b i) : W p l e room_1 s m #[Value.ref b] below meth c H locs 600000 7302250 (lw_Z below #[Value.ref b] s) (F0 m 696 ls []) := by
  obtain ⟨hx, hb, hr, hml, hown, hlk, hT, hK, hB⟩ := id M
  have hbA : ¬ (fun q : Nat => s.heap.size ≤ q) b := Nat.not_le.mpr hbl
  refine lv_aload_n hx hb dL_law_696 rfl (lv_at hl 1 rfl) ?_
  have h := t_lit hI 
  refine q_goI hw (q_runV (rest := []) M hw (ctX6_lit l hB hN h0  σ _ h) mbX6_lit (ob_0 hN h0) rfl tw_556 rfl hl.1 rfl (Nat.le_of_ble_eq_true rfl) ⟨Nat.le_of_ble_eq_true rfl, Nat.le_of_ble_eq_true rfl⟩ ⟨Nat.le_refl _, Nat.le_refl _⟩ dL_law_697) (fun r σ1 H locs h hw => ?_)
  refine lv_aload_n hx hb dL_law_700 rfl (lv_at hl 2 rfl) ?_
  refine q_goI hw (q_runV (rest := [.int r]) M hw (ctX7_lit l hB hN  σ1 _ h) mbX7_lit (ob_92 hN) rfl tw_873 rfl hl.1 rfl (Nat.le_of_ble_eq_true rfl) ⟨Nat.le_of_ble_eq_true rfl, Nat.le_of_ble_eq_true rfl⟩ ⟨Nat.le_refl _, Nat.le_refl _⟩ dL_law_701) (fun r2 σ2 H locs h hw => ?_)
  obtain ⟨rfl, hI2⟩ := h
  refine lv_icmp_eq (tgt := 868) hx hb dL_law_704 (by decide) (fun _ => ?_) (fun c1 => absurd rfl c1)
  exact con Y σ2 H locs ls M hN h0 hI2 hw hl
set_option maxHeartbeats 4000000 in
set_option maxRecDepth 100000 in
theorem lawc_21 {Y : LY} (M : MC p s m #[Value.ref b] meth c cL_law 4 (some .boolean) R_law Y) (hN : yN Y = 108) (h0 : c0s Y 3 9) (hX : va_X b L xs s s.heap) (hbl : b < s.heap.size) (hL : L ≤ 256) (hi : i + 4 ≤ L) {σ : St} (hI : INV σ) {H : Heap} {locs : List Loc} {ls : Array Slot} (hw : WS Y (fun q : Nat => s.heap.size ≤ q) s.heap σ H locs) (hl : lv_has ls 4 [(0, .ref b), (1, .ref (yA Y 0)), (2, .ref (yA Y 92)), (3, .int (nI i))]) (con : CON p l e s m below meth c b i) : W p l e room_1 s m #[Value.ref b] below meth c H locs 600000 7302250 (lw_Z below #[Value.ref b] s) (F0 m 709 ls []) := by
  obtain ⟨hx, hb, hr, hml, hown, hlk, hT, hK, hB⟩ := id M
  have hbA : ¬ (fun q : Nat => s.heap.size ≤ q) b := Nat.not_le.mpr hbl
  refine lv_aload_n hx hb dL_law_709 rfl (lv_at hl 1 rfl) ?_
  refine lv_aload_n hx hb dL_law_710 rfl (lv_at hl 0 rfl) ?_
  refine lv_iload_n hx hb dL_law_711 rfl (lv_at hl 3 rfl) ?_
  refine lv_iconst (v := 1) hx hb dL_law_712 (by decide) ?_
  refine lv_iadd hx hb dL_law_713 ?_
  refine va_sld hx hb hX hbl hbA hw.2.2 (at_i hL hi 1 (by decide)) dL_law_714 ?_
  refine lv_aload_n hx hb dL_law_715 rfl (lv_at hl 0 rfl) ?_
  refine lv_iload_n hx hb dL_law_716 rfl (lv_at hl 3 rfl) ?_
  refine lv_iconst (v := 2) hx hb dL_law_717 (by decide) ?_
  refine lv_iadd hx hb dL_law_718 ?_
  refine va_sld hx hb hX hbl hbA hw.2.2 (at_i hL hi 2 (by decide)) dL_law_719 ?_
  refine lv_aload_n hx hb dL_law_720 rfl (lv_at hl 0 rfl) ?_
  refine lv_iload_n hx hb dL_law_721 rfl (lv_at hl 3 rfl) ?_
  refine lv_iconst (v := 3) hx hb dL_law_722 (by decide) ?_
  refine lv_iadd hx hb dL_law_723 ?_
  refine va_sld hx hb hX hbl hbA hw.2.2 (at_i hL hi 3 (by decide)) dL_law_724 ?_
  have h := t_mean hI (xs (nI i + 1).toNatClampNeg) (xs (nI i + 2).toNatClampNeg) (xs (nI i + 3).toNatClampNeg)
  refine q_goI hw (q_runV (rest := []) M hw (ctX6_mean l hB hN h0 (xs (nI i + 1).toNatClampNeg) (xs (nI i + 2).toNatClampNeg) (xs (nI i + 3).toNatClampNeg) σ _ h) mbX6_mean (ob_0 hN h0) rfl tw_560 rfl hl.1 rfl (Nat.le_of_ble_eq_true rfl) ⟨Nat.le_of_ble_eq_true rfl, Nat.le_of_ble_eq_true rfl⟩ ⟨Nat.le_refl _, Nat.le_refl _⟩ dL_law_725) (fun r σ1 H locs h hw => ?_)
  refine lv_aload_n hx hb dL_law_728 rfl (lv_at hl 2 rfl) ?_
  refine lv_aload_n hx hb dL_law_729 rfl (lv_at hl 0 rfl) ?_
  refine lv_iload_n hx hb dL_law_730 rfl (lv_at hl 3 rfl) ?_
  refine lv_iconst (v := 1) hx hb dL_law_731 (by decide) ?_
  refine lv_iadd hx hb dL_law_732 ?_
  refine va_sld hx hb hX hbl hbA hw.2.2 (at_i hL hi 1 (by decide)) dL_law_733 ?_
  refine lv_aload_n hx hb dL_law_734 rfl (lv_at hl 0 rfl) ?_
  refine lv_iload_n hx hb dL_law_735 rfl (lv_at hl 3 rfl) ?_
  refine lv_iconst (v := 2) hx hb dL_law_736 (by decide) ?_
  refine lv_iadd hx hb dL_law_737 ?_
  refine va_sld hx hb hX hbl hbA hw.2.2 (at_i hL hi 2 (by decide)) dL_law_738 ?_
  refine lv_aload_n hx hb dL_law_739 rfl (lv_at hl 0 rfl) ?_
  refine lv_iload_n hx hb dL_law_740 rfl (lv_at hl 3 rfl) ?_
  refine lv_iconst (v := 3) hx hb dL_law_741 (by decide) ?_
  refine lv_iadd hx hb dL_law_742 ?_
  refine va_sld hx hb hX hbl hbA hw.2.2 (at_i hL hi 3 (by decide)) dL_law_743 ?_
  refine q_goI hw (q_runV (rest := [.int r]) M hw (ctX7_mean l hB hN (xs (nI i + 1).toNatClampNeg) (xs (nI i + 2).toNatClampNeg) (xs (nI i + 3).toNatClampNeg) σ1 _ h) mbX7_mean (ob_92 hN) rfl tw_877 rfl hl.1 rfl (Nat.le_of_ble_eq_true rfl) ⟨Nat.le_of_ble_eq_true rfl, Nat.le_of_ble_eq_true rfl⟩ ⟨Nat.le_refl _, Nat.le_refl _⟩ dL_law_744) (fun r2 σ2 H locs h hw => ?_)
  obtain ⟨rfl, hI2⟩ := h
  refine lv_icmp_eq (tgt := 868) hx hb dL_law_747 (by decide) (fun _ => ?_) (fun c1 => absurd rfl c1)
  exact con Y σ2 H locs ls M hN h0 hI2 hw hl
set_option maxHeartbeats 4000000 in
set_option maxRecDepth 100000 in
theorem lawc_22 {Y : LY} (M : MC p s m #[Value.ref b] meth c cL_law 4 (some .boolean) R_law Y) (hN : yN Y = 108) (h0 : c0s Y 3 9) (hX : va_X b L xs s s.heap) (hbl : b < s.heap.size) (hL : L ≤ 256) (hi : i + 4 ≤ L) {σ : St} (hI : INV σ) {H : Heap} {locs : List Loc} {ls : Array Slot} (hw : WS Y (fun q : Nat => s.heap.size ≤ q) s.heap σ H locs) (hl : lv_has ls 4 [(0, .ref b), (1, .ref (yA Y 0)), (2, .ref (yA Y 92)), (3, .int (nI i))]) (con : CON p l e s m below meth c b i) : W p l e room_1 s m #[Value.ref b] below meth c H locs 600000 7302250 (lw_Z below #[Value.ref b] s) (F0 m 752 ls []) := by
  obtain ⟨hx, hb, hr, hml, hown, hlk, hT, hK, hB⟩ := id M
  have hbA : ¬ (fun q : Nat => s.heap.size ≤ q) b := Nat.not_le.mpr hbl
  refine lv_aload_n hx hb dL_law_752 rfl (lv_at hl 1 rfl) ?_
  refine lv_aload_n hx hb dL_law_753 rfl (lv_at hl 0 rfl) ?_
  refine lv_iload_n hx hb dL_law_754 rfl (lv_at hl 3 rfl) ?_
  refine lv_iconst (v := 1) hx hb dL_law_755 (by decide) ?_
  refine lv_iadd hx hb dL_law_756 ?_
  refine va_sld hx hb hX hbl hbA hw.2.2 (at_i hL hi 1 (by decide)) dL_law_757 ?_
  refine lv_aload_n hx hb dL_law_758 rfl (lv_at hl 0 rfl) ?_
  refine lv_iload_n hx hb dL_law_759 rfl (lv_at hl 3 rfl) ?_
  refine lv_iconst (v := 2) hx hb dL_law_760 (by decide) ?_
  refine lv_iadd hx hb dL_law_761 ?_
  refine va_sld hx hb hX hbl hbA hw.2.2 (at_i hL hi 2 (by decide)) dL_law_762 ?_
  have h := t_rate hI (xs (nI i + 1).toNatClampNeg) (xs (nI i + 2).toNatClampNeg)
  refine q_goI hw (q_runV (rest := []) M hw (ctX6_rate l hB hN h0 (xs (nI i + 1).toNatClampNeg) (xs (nI i + 2).toNatClampNeg) σ _ h) mbX6_rate (ob_0 hN h0) rfl tw_567 rfl hl.1 rfl (Nat.le_of_ble_eq_true rfl) ⟨Nat.le_of_ble_eq_true rfl, Nat.le_of_ble_eq_true rfl⟩ ⟨Nat.le_refl _, Nat.le_refl _⟩ dL_law_763) (fun r σ1 H locs h hw => ?_)
  refine lv_aload_n hx hb dL_law_766 rfl (lv_at hl 2 rfl) ?_
  refine lv_aload_n hx hb dL_law_767 rfl (lv_at hl 0 rfl) ?_
  refine lv_iload_n hx hb dL_law_768 rfl (lv_at hl 3 rfl) ?_
  refine lv_iconst (v := 1) hx hb dL_law_769 (by decide) ?_
  refine lv_iadd hx hb dL_law_770 ?_
  refine va_sld hx hb hX hbl hbA hw.2.2 (at_i hL hi 1 (by decide)) dL_law_771 ?_
  refine lv_aload_n hx hb dL_law_772 rfl (lv_at hl 0 rfl) ?_
  refine lv_iload_n hx hb dL_law_773 rfl (lv_at hl 3 rfl) ?_
  refine lv_iconst (v := 2) hx hb dL_law_774 (by decide) ?_
  refine lv_iadd hx hb dL_law_775 ?_
  refine va_sld hx hb hX hbl hbA hw.2.2 (at_i hL hi 2 (by decide)) dL_law_776 ?_
  refine q_goI hw (q_runV (rest := [.int r]) M hw (ctX7_rate l hB hN (xs (nI i + 1).toNatClampNeg) (xs (nI i + 2).toNatClampNeg) σ1 _ h) mbX7_rate (ob_92 hN) rfl tw_884 rfl hl.1 rfl (Nat.le_of_ble_eq_true rfl) ⟨Nat.le_of_ble_eq_true rfl, Nat.le_of_ble_eq_true rfl⟩ ⟨Nat.le_refl _, Nat.le_refl _⟩ dL_law_777) (fun r2 σ2 H locs h hw => ?_)
  obtain ⟨rfl, hI2⟩ := h
  refine lv_icmp_eq (tgt := 868) hx hb dL_law_780 (by decide) (fun _ => ?_) (fun c1 => absurd rfl c1)
  exact con Y σ2 H locs ls M hN h0 hI2 hw hl
set_option maxHeartbeats 4000000 in
set_option maxRecDepth 100000 in
theorem lawc_23 {Y : LY} (M : MC p s m #[Value.ref b] meth c cL_law 4 (some .boolean) R_law Y) (hN : yN Y = 108) (h0 : c0s Y 3 9) (hX : va_X b L xs s s.heap) (hbl : b < s.heap.size) (hL : L ≤ 256) (hi : i + 4 ≤ L) {σ : St} (hI : INV σ) {H : Heap} {locs : List Loc} {ls : Array Slot} (hw : WS Y (fun q : Nat => s.heap.size ≤ q) s.heap σ H locs) (hl : lv_has ls 4 [(0, .ref b), (1, .ref (yA Y 0)), (2, .ref (yA Y 92)), (3, .int (nI i))]) (con : CON p l e s m below meth c b i) : W p l e room_1 s m #[Value.ref b] below meth c H locs 600000 7302250 (lw_Z below #[Value.ref b] s) (F0 m 785 ls []) := by
  obtain ⟨hx, hb, hr, hml, hown, hlk, hT, hK, hB⟩ := id M
  have hbA : ¬ (fun q : Nat => s.heap.size ≤ q) b := Nat.not_le.mpr hbl
  refine lv_aload_n hx hb dL_law_785 rfl (lv_at hl 1 rfl) ?_
  refine lv_aload_n hx hb dL_law_786 rfl (lv_at hl 0 rfl) ?_
  refine lv_iload_n hx hb dL_law_787 rfl (lv_at hl 3 rfl) ?_
  refine lv_iconst (v := 1) hx hb dL_law_788 (by decide) ?_
  refine lv_iadd hx hb dL_law_789 ?_
  refine va_sld hx hb hX hbl hbA hw.2.2 (at_i hL hi 1 (by decide)) dL_law_790 ?_
  have h := t_keep hI (xs (nI i + 1).toNatClampNeg)
  refine q_goI hw (q_runV (rest := []) M hw (ctX6_keep l hB hN h0 (xs (nI i + 1).toNatClampNeg) σ _ h) mbX6_keep (ob_0 hN h0) rfl tw_601 rfl hl.1 rfl (Nat.le_of_ble_eq_true rfl) ⟨Nat.le_of_ble_eq_true rfl, Nat.le_of_ble_eq_true rfl⟩ ⟨Nat.le_refl _, Nat.le_refl _⟩ dL_law_791) (fun r σ1 H locs h hw => ?_)
  refine lv_aload_n hx hb dL_law_794 rfl (lv_at hl 2 rfl) ?_
  refine lv_aload_n hx hb dL_law_795 rfl (lv_at hl 0 rfl) ?_
  refine lv_iload_n hx hb dL_law_796 rfl (lv_at hl 3 rfl) ?_
  refine lv_iconst (v := 1) hx hb dL_law_797 (by decide) ?_
  refine lv_iadd hx hb dL_law_798 ?_
  refine va_sld hx hb hX hbl hbA hw.2.2 (at_i hL hi 1 (by decide)) dL_law_799 ?_
  refine q_goI hw (q_runV (rest := [.int r]) M hw (ctX7_keep l hB hN (xs (nI i + 1).toNatClampNeg) σ1 _ h) mbX7_keep (ob_92 hN) rfl tw_894 rfl hl.1 rfl (Nat.le_of_ble_eq_true rfl) ⟨Nat.le_of_ble_eq_true rfl, Nat.le_of_ble_eq_true rfl⟩ ⟨Nat.le_refl _, Nat.le_refl _⟩ dL_law_800) (fun r2 σ2 H locs h hw => ?_)
  obtain ⟨rfl, hI2⟩ := h
  refine lv_icmp_eq (tgt := 868) hx hb dL_law_803 (by decide) (fun _ => ?_) (fun c1 => absurd rfl c1)
  exact con Y σ2 H locs ls M hN h0 hI2 hw hl
set_option maxHeartbeats 4000000 in
set_option maxRecDepth 100000 in
theorem lawc_24 {Y : LY} (M : MC p s m #[Value.ref b] meth c cL_law 4 (some .boolean) R_law Y) (hN : yN Y = 108) (h0 : c0s Y 3 9) (hX : va_X b L xs s s.heap) (hbl : b < s.heap.size) (hL : L ≤ 256) (hi : i + 4 ≤ L) {σ : St} (hI : INV σ) {H : Heap} {locs : List Loc} {ls : Array Slot} (hw : WS Y (fun q : Nat => s.heap.size ≤ q) s.heap σ H locs) (hl : lv_has ls 4 [(0, .ref b), (1, .ref (yA Y 0)), (2, .ref (yA Y 92)), (3, .int (nI i))]) (con : CON p l e s m below meth c b i) : W p l e room_1 s m #[Value.ref b] below meth c H locs 600000 7302250 (lw_Z below #[Value.ref b] s) (F0 m 808 ls []) := by
  obtain ⟨hx, hb, hr, hml, hown, hlk, hT, hK, hB⟩ := id M
  have hbA : ¬ (fun q : Nat => s.heap.size ≤ q) b := Nat.not_le.mpr hbl
  refine lv_aload_n hx hb dL_law_808 rfl (lv_at hl 1 rfl) ?_
  refine lv_aload_n hx hb dL_law_809 rfl (lv_at hl 0 rfl) ?_
  refine lv_iload_n hx hb dL_law_810 rfl (lv_at hl 3 rfl) ?_
  refine lv_iconst (v := 1) hx hb dL_law_811 (by decide) ?_
  refine lv_iadd hx hb dL_law_812 ?_
  refine va_sld hx hb hX hbl hbA hw.2.2 (at_i hL hi 1 (by decide)) dL_law_813 ?_
  have h := t_back hI (xs (nI i + 1).toNatClampNeg)
  refine q_goI hw (q_runV (rest := []) M hw (ctX6_back l hB hN h0 (xs (nI i + 1).toNatClampNeg) σ _ h) mbX6_back (ob_0 hN h0) rfl tw_609 rfl hl.1 rfl (Nat.le_of_ble_eq_true rfl) ⟨Nat.le_of_ble_eq_true rfl, Nat.le_of_ble_eq_true rfl⟩ ⟨Nat.le_refl _, Nat.le_refl _⟩ dL_law_814) (fun r σ1 H locs h hw => ?_)
  refine lv_aload_n hx hb dL_law_817 rfl (lv_at hl 2 rfl) ?_
  refine lv_aload_n hx hb dL_law_818 rfl (lv_at hl 0 rfl) ?_
  refine lv_iload_n hx hb dL_law_819 rfl (lv_at hl 3 rfl) ?_
  refine lv_iconst (v := 1) hx hb dL_law_820 (by decide) ?_
  refine lv_iadd hx hb dL_law_821 ?_
  refine va_sld hx hb hX hbl hbA hw.2.2 (at_i hL hi 1 (by decide)) dL_law_822 ?_
  refine q_goI hw (q_runV (rest := [.int r]) M hw (ctX7_back l hB hN (xs (nI i + 1).toNatClampNeg) σ1 _ h) mbX7_back (ob_92 hN) rfl tw_898 rfl hl.1 rfl (Nat.le_of_ble_eq_true rfl) ⟨Nat.le_of_ble_eq_true rfl, Nat.le_of_ble_eq_true rfl⟩ ⟨Nat.le_refl _, Nat.le_refl _⟩ dL_law_823) (fun r2 σ2 H locs h hw => ?_)
  obtain ⟨rfl, hI2⟩ := h
  refine lv_icmp_eq (tgt := 868) hx hb dL_law_826 (by decide) (fun _ => ?_) (fun c1 => absurd rfl c1)
  exact con Y σ2 H locs ls M hN h0 hI2 hw hl
set_option maxHeartbeats 4000000 in
set_option maxRecDepth 100000 in
theorem lawc_25 {Y : LY} (M : MC p s m #[Value.ref b] meth c cL_law 4 (some .boolean) R_law Y) (hN : yN Y = 108) (h0 : c0s Y 3 9) (hX : va_X b L xs s s.heap) (hbl : b < s.heap.size) (hL : L ≤ 256) (hi : i + 4 ≤ L) {σ : St} (hI : INV σ) {H : Heap} {locs : List Loc} {ls : Array Slot} (hw : WS Y (fun q : Nat => s.heap.size ≤ q) s.heap σ H locs) (hl : lv_has ls 4 [(0, .ref b), (1, .ref (yA Y 0)), (2, .ref (yA Y 92)), (3, .int (nI i))]) (con : CON p l e s m below meth c b i) : W p l e room_1 s m #[Value.ref b] below meth c H locs 600000 7302250 (lw_Z below #[Value.ref b] s) (F0 m 831 ls []) := by
  obtain ⟨hx, hb, hr, hml, hown, hlk, hT, hK, hB⟩ := id M
  have hbA : ¬ (fun q : Nat => s.heap.size ≤ q) b := Nat.not_le.mpr hbl
  refine lv_aload_n hx hb dL_law_831 rfl (lv_at hl 1 rfl) ?_
  refine lv_aload_n hx hb dL_law_832 rfl (lv_at hl 0 rfl) ?_
  refine lv_iload_n hx hb dL_law_833 rfl (lv_at hl 3 rfl) ?_
  refine lv_iconst (v := 1) hx hb dL_law_834 (by decide) ?_
  refine lv_iadd hx hb dL_law_835 ?_
  refine va_sld hx hb hX hbl hbA hw.2.2 (at_i hL hi 1 (by decide)) dL_law_836 ?_
  have h := t_count hI (xs (nI i + 1).toNatClampNeg)
  refine q_goI hw (q_runV (rest := []) M hw (ctX6_count l hB hN h0 (xs (nI i + 1).toNatClampNeg) σ _ h) mbX6_count (ob_0 hN h0) rfl tw_613 rfl hl.1 rfl (Nat.le_of_ble_eq_true rfl) ⟨Nat.le_of_ble_eq_true rfl, Nat.le_of_ble_eq_true rfl⟩ ⟨Nat.le_refl _, Nat.le_refl _⟩ dL_law_837) (fun r σ1 H locs h hw => ?_)
  refine lv_aload_n hx hb dL_law_840 rfl (lv_at hl 2 rfl) ?_
  refine lv_aload_n hx hb dL_law_841 rfl (lv_at hl 0 rfl) ?_
  refine lv_iload_n hx hb dL_law_842 rfl (lv_at hl 3 rfl) ?_
  refine lv_iconst (v := 1) hx hb dL_law_843 (by decide) ?_
  refine lv_iadd hx hb dL_law_844 ?_
  refine va_sld hx hb hX hbl hbA hw.2.2 (at_i hL hi 1 (by decide)) dL_law_845 ?_
  refine q_goI hw (q_runV (rest := [.int r]) M hw (ctX7_count l hB hN (xs (nI i + 1).toNatClampNeg) σ1 _ h) mbX7_count (ob_92 hN) rfl tw_902 rfl hl.1 rfl (Nat.le_of_ble_eq_true rfl) ⟨Nat.le_of_ble_eq_true rfl, Nat.le_of_ble_eq_true rfl⟩ ⟨Nat.le_refl _, Nat.le_refl _⟩ dL_law_846) (fun r2 σ2 H locs h hw => ?_)
  obtain ⟨rfl, hI2⟩ := h
  refine lv_icmp_eq (tgt := 868) hx hb dL_law_849 (by decide) (fun _ => ?_) (fun c1 => absurd rfl c1)
  exact con Y σ2 H locs ls M hN h0 hI2 hw hl
set_option maxHeartbeats 4000000 in
set_option maxRecDepth 100000 in
theorem lawc_26 {Y : LY} (M : MC p s m #[Value.ref b] meth c cL_law 4 (some .boolean) R_law Y) (hN : yN Y = 108) (h0 : c0s Y 3 9) (hX : va_X b L xs s s.heap) (hbl : b < s.heap.size) (hL : L ≤ 256) (hi : i + 4 ≤ L) {σ : St} (hI : INV σ) {H : Heap} {locs : List Loc} {ls : Array Slot} (hw : WS Y (fun q : Nat => s.heap.size ≤ q) s.heap σ H locs) (hl : lv_has ls 4 [(0, .ref b), (1, .ref (yA Y 0)), (2, .ref (yA Y 92)), (3, .int (nI i))]) (con : CON p l e s m below meth c b i) : W p l e room_1 s m #[Value.ref b] below meth c H locs 600000 7302250 (lw_Z below #[Value.ref b] s) (F0 m 854 ls []) := by
  obtain ⟨hx, hb, hr, hml, hown, hlk, hT, hK, hB⟩ := id M
  have hbA : ¬ (fun q : Nat => s.heap.size ≤ q) b := Nat.not_le.mpr hbl
  refine lv_aload_n hx hb dL_law_854 rfl (lv_at hl 1 rfl) ?_
  have h := t_trace hI 
  refine q_goL hw (q_runV (rest := []) M hw (ctX6_trace l hB hN h0  σ _ h) mbX6_trace (ob_0 hN h0) rfl tw_617 rfl hl.1 rfl (Nat.le_of_ble_eq_true rfl) ⟨Nat.le_of_ble_eq_true rfl, Nat.le_of_ble_eq_true rfl⟩ ⟨Nat.le_refl _, Nat.le_refl _⟩ dL_law_855) (fun r σ1 H locs h hw => ?_)
  refine lv_aload_n hx hb dL_law_858 rfl (lv_at hl 2 rfl) ?_
  refine q_goL hw (q_runV (rest := [.long r]) M hw (ctX7_trace l hB hN  σ1 _ h) mbX7_trace (ob_92 hN) rfl tw_906 rfl hl.1 rfl (Nat.le_of_ble_eq_true rfl) ⟨Nat.le_of_ble_eq_true rfl, Nat.le_of_ble_eq_true rfl⟩ ⟨Nat.le_refl _, Nat.le_refl _⟩ dL_law_859) (fun r2 σ2 H locs h hw => ?_)
  obtain ⟨rfl, hI2⟩ := h
  refine W.lcmp hx hb dL_law_862 ?_
  refine lv_if_eq (tgt := 868) hx hb dL_law_863 (by decide) (fun _ => ?_) (fun c1 => absurd (by simp [lg_cmp]) c1)
  exact con Y σ2 H locs ls M hN h0 hI2 hw hl
set_option maxHeartbeats 4000000 in
set_option maxRecDepth 100000 in
theorem law_step {Y : LY} (M : MC p s m #[Value.ref b] meth c cL_law 4 (some .boolean) R_law Y) (hN : yN Y = 108) (h0 : c0s Y 3 9) (hX : va_X b L xs s s.heap) (hbl : b < s.heap.size) (hL : L ≤ 256) (hi : i + 4 ≤ L) {σ : St} (hI : INV σ) {H : Heap} {locs : List Loc} {ls : Array Slot} (hw : WS Y (fun q : Nat => s.heap.size ≤ q) s.heap σ H locs) (hl : lv_has ls 4 [(0, .ref b), (1, .ref (yA Y 0)), (2, .ref (yA Y 92)), (3, .int (nI i))]) (con : CON p l e s m below meth c b i) : W p l e room_1 s m #[Value.ref b] below meth c H locs 600000 7302250 (lw_Z below #[Value.ref b] s) (F0 m 26 ls []) := by
  obtain ⟨hx, hb, hr, hml, hown, hlk, hT, hK, hB⟩ := id M
  have hbA : ¬ (fun q : Nat => s.heap.size ≤ q) b := Nat.not_le.mpr hbl
  refine lv_aload_n hx hb dL_law_26 rfl (lv_at hl 0 rfl) ?_
  refine lv_iload_n hx hb dL_law_27 rfl (lv_at hl 3 rfl) ?_
  refine va_sld hx hb hX hbl hbA hw.2.2 (i := nI i) (nI_in (by omega) (by omega)) dL_law_28 ?_
  refine lv_bipush (v := 31) hx hb dL_law_29 (by decide) ?_
  refine lv_iand hx hb dL_law_31 ?_
  refine lv_topi (fun x ex => ?_)
  clear ex
  by_cases c0 : x = 0
  · refine lv_tableIn (tgt := 156) hx hb dL_law_32 (by rw [c0]; decide) (by rw [c0]; decide) (by rw [c0]; first | done | rfl) (by decide) ?_
    exact lawc_0 M hN h0 hX hbl hL hi hI hw hl con
  by_cases c1 : x = 1
  · refine lv_tableIn (tgt := 179) hx hb dL_law_32 (by rw [c1]; decide) (by rw [c1]; decide) (by rw [c1]; first | done | rfl) (by decide) ?_
    exact lawc_1 M hN h0 hX hbl hL hi hI hw hl con
  by_cases c2 : x = 2
  · refine lv_tableIn (tgt := 192) hx hb dL_law_32 (by rw [c2]; decide) (by rw [c2]; decide) (by rw [c2]; first | done | rfl) (by decide) ?_
    exact lawc_2 M hN h0 hX hbl hL hi hI hw hl con
  by_cases c3 : x = 3
  · refine lv_tableIn (tgt := 205) hx hb dL_law_32 (by rw [c3]; decide) (by rw [c3]; decide) (by rw [c3]; first | done | rfl) (by decide) ?_
    exact lawc_3 M hN h0 hX hbl hL hi hI hw hl con
  by_cases c4 : x = 4
  · refine lv_tableIn (tgt := 238) hx hb dL_law_32 (by rw [c4]; decide) (by rw [c4]; decide) (by rw [c4]; first | done | rfl) (by decide) ?_
    exact lawc_4 M hN h0 hX hbl hL hi hI hw hl con
  by_cases c5 : x = 5
  · refine lv_tableIn (tgt := 271) hx hb dL_law_32 (by rw [c5]; decide) (by rw [c5]; decide) (by rw [c5]; first | done | rfl) (by decide) ?_
    exact lawc_5 M hN h0 hX hbl hL hi hI hw hl con
  by_cases c6 : x = 6
  · refine lv_tableIn (tgt := 304) hx hb dL_law_32 (by rw [c6]; decide) (by rw [c6]; decide) (by rw [c6]; first | done | rfl) (by decide) ?_
    exact lawc_6 M hN h0 hX hbl hL hi hI hw hl con
  by_cases c7 : x = 7
  · refine lv_tableIn (tgt := 327) hx hb dL_law_32 (by rw [c7]; decide) (by rw [c7]; decide) (by rw [c7]; first | done | rfl) (by decide) ?_
    exact lawc_7 M hN h0 hX hbl hL hi hI hw hl con
  by_cases c8 : x = 8
  · refine lv_tableIn (tgt := 360) hx hb dL_law_32 (by rw [c8]; decide) (by rw [c8]; decide) (by rw [c8]; first | done | rfl) (by decide) ?_
    exact lawc_8 M hN h0 hX hbl hL hi hI hw hl con
  by_cases c9 : x = 9
  · refine lv_tableIn (tgt := 373) hx hb dL_law_32 (by rw [c9]; decide) (by rw [c9]; decide) (by rw [c9]; first | done | rfl) (by decide) ?_
    exact lawc_9 M hN h0 hX hbl hL hi hI hw hl con
  by_cases c10 : x = 10
  · refine lv_tableIn (tgt := 416) hx hb dL_law_32 (by rw [c10]; decide) (by rw [c10]; decide) (by rw [c10]; first | done | rfl) (by decide) ?_
    exact lawc_10 M hN h0 hX hbl hL hi hI hw hl con
  by_cases c11 : x = 11
  · refine lv_tableIn (tgt := 449) hx hb dL_law_32 (by rw [c11]; decide) (by rw [c11]; decide) (by rw [c11]; first | done | rfl) (by decide) ?_
    exact lawc_11 M hN h0 hX hbl hL hi hI hw hl con
  by_cases c12 : x = 12
  · refine lv_tableIn (tgt := 472) hx hb dL_law_32 (by rw [c12]; decide) (by rw [c12]; decide) (by rw [c12]; first | done | rfl) (by decide) ?_
    exact lawc_12 M hN h0 hX hbl hL hi hI hw hl con
  by_cases c13 : x = 13
  · refine lv_tableIn (tgt := 485) hx hb dL_law_32 (by rw [c13]; decide) (by rw [c13]; decide) (by rw [c13]; first | done | rfl) (by decide) ?_
    exact lawc_13 M hN h0 hX hbl hL hi hI hw hl con
  by_cases c14 : x = 14
  · refine lv_tableIn (tgt := 528) hx hb dL_law_32 (by rw [c14]; decide) (by rw [c14]; decide) (by rw [c14]; first | done | rfl) (by decide) ?_
    exact lawc_14 M hN h0 hX hbl hL hi hI hw hl con
  by_cases c15 : x = 15
  · refine lv_tableIn (tgt := 571) hx hb dL_law_32 (by rw [c15]; decide) (by rw [c15]; decide) (by rw [c15]; first | done | rfl) (by decide) ?_
    exact lawc_15 M hN h0 hX hbl hL hi hI hw hl con
  by_cases c16 : x = 16
  · refine lv_tableIn (tgt := 594) hx hb dL_law_32 (by rw [c16]; decide) (by rw [c16]; decide) (by rw [c16]; first | done | rfl) (by decide) ?_
    exact lawc_16 M hN h0 hX hbl hL hi hI hw hl con
  by_cases c17 : x = 17
  · refine lv_tableIn (tgt := 617) hx hb dL_law_32 (by rw [c17]; decide) (by rw [c17]; decide) (by rw [c17]; first | done | rfl) (by decide) ?_
    exact lawc_17 M hN h0 hX hbl hL hi hI hw hl con
  by_cases c18 : x = 18
  · refine lv_tableIn (tgt := 640) hx hb dL_law_32 (by rw [c18]; decide) (by rw [c18]; decide) (by rw [c18]; first | done | rfl) (by decide) ?_
    exact lawc_18 M hN h0 hX hbl hL hi hI hw hl con
  by_cases c19 : x = 19
  · refine lv_tableIn (tgt := 683) hx hb dL_law_32 (by rw [c19]; decide) (by rw [c19]; decide) (by rw [c19]; first | done | rfl) (by decide) ?_
    exact lawc_19 M hN h0 hX hbl hL hi hI hw hl con
  by_cases c20 : x = 20
  · refine lv_tableIn (tgt := 696) hx hb dL_law_32 (by rw [c20]; decide) (by rw [c20]; decide) (by rw [c20]; first | done | rfl) (by decide) ?_
    exact lawc_20 M hN h0 hX hbl hL hi hI hw hl con
  by_cases c21 : x = 21
  · refine lv_tableIn (tgt := 709) hx hb dL_law_32 (by rw [c21]; decide) (by rw [c21]; decide) (by rw [c21]; first | done | rfl) (by decide) ?_
    exact lawc_21 M hN h0 hX hbl hL hi hI hw hl con
  by_cases c22 : x = 22
  · refine lv_tableIn (tgt := 752) hx hb dL_law_32 (by rw [c22]; decide) (by rw [c22]; decide) (by rw [c22]; first | done | rfl) (by decide) ?_
    exact lawc_22 M hN h0 hX hbl hL hi hI hw hl con
  by_cases c23 : x = 23
  · refine lv_tableIn (tgt := 785) hx hb dL_law_32 (by rw [c23]; decide) (by rw [c23]; decide) (by rw [c23]; first | done | rfl) (by decide) ?_
    exact lawc_23 M hN h0 hX hbl hL hi hI hw hl con
  by_cases c24 : x = 24
  · refine lv_tableIn (tgt := 808) hx hb dL_law_32 (by rw [c24]; decide) (by rw [c24]; decide) (by rw [c24]; first | done | rfl) (by decide) ?_
    exact lawc_24 M hN h0 hX hbl hL hi hI hw hl con
  by_cases c25 : x = 25
  · refine lv_tableIn (tgt := 831) hx hb dL_law_32 (by rw [c25]; decide) (by rw [c25]; decide) (by rw [c25]; first | done | rfl) (by decide) ?_
    exact lawc_25 M hN h0 hX hbl hL hi hI hw hl con
  by_cases c26 : x = 26
  · refine lv_tableIn (tgt := 854) hx hb dL_law_32 (by rw [c26]; decide) (by rw [c26]; decide) (by rw [c26]; first | done | rfl) (by decide) ?_
    exact lawc_26 M hN h0 hX hbl hL hi hI hw hl con
  refine lv_tableOut (tgt := 868) hx hb dL_law_32 (sw_out 26 (by decide) (fun k hk => ?_)) (by decide) ?_
  · have : k = 0 ∨ k = 1 ∨ k = 2 ∨ k = 3 ∨ k = 4 ∨ k = 5 ∨ k = 6 ∨ k = 7 ∨ k = 8 ∨ k = 9 ∨ k = 10 ∨ k = 11 ∨ k = 12 ∨ k = 13 ∨ k = 14 ∨ k = 15 ∨ k = 16 ∨ k = 17 ∨ k = 18 ∨ k = 19 ∨ k = 20 ∨ k = 21 ∨ k = 22 ∨ k = 23 ∨ k = 24 ∨ k = 25 ∨ k = 26 := by omega
    rcases this with rfl | rfl | rfl | rfl | rfl | rfl | rfl | rfl | rfl | rfl | rfl | rfl | rfl | rfl | rfl | rfl | rfl | rfl | rfl | rfl | rfl | rfl | rfl | rfl | rfl | rfl | rfl
    · exact c0
    · exact c1
    · exact c2
    · exact c3
    · exact c4
    · exact c5
    · exact c6
    · exact c7
    · exact c8
    · exact c9
    · exact c10
    · exact c11
    · exact c12
    · exact c13
    · exact c14
    · exact c15
    · exact c16
    · exact c17
    · exact c18
    · exact c19
    · exact c20
    · exact c21
    · exact c22
    · exact c23
    · exact c24
    · exact c25
    · exact c26
  · exact con Y σ H locs ls M hN h0 hI hw hl
set_option maxHeartbeats 4000000 in
set_option maxRecDepth 100000 in
theorem law_loop (hX : va_X b L xs s s.heap) (hbl : b < s.heap.size) (hL : L ≤ 256) : ∀ (n i : Nat), i ≤ L → L + 1 ≤ i + n → ∀ (Y : LY) (σ : St) (H : Heap) (locs : List Loc) (ls : Array Slot), MC p s m #[Value.ref b] meth c cL_law 4 (some .boolean) R_law Y → yN Y = 108 → c0s Y 3 9 → INV σ → WS Y (fun q : Nat => s.heap.size ≤ q) s.heap σ H locs → lv_has ls 4 [(0, .ref b), (1, .ref (yA Y 0)), (2, .ref (yA Y 92)), (3, .int (nI i))] → W p l e room_1 s m #[Value.ref b] below meth c H locs 600000 7302250 (lw_Z below #[Value.ref b] s) (F0 m 18 ls []) := by
  intro n
  induction n with
  | zero =>
    intro i h1 h2
    omega
  | succ n ih =>
    intro i h1 h2 Y σ H locs ls M hN h0 hI hw hl
    obtain ⟨hx, hb, hr, hml, hown, hlk, hT, hK, hB⟩ := id M
    have hbA : ¬ (fun q : Nat => s.heap.size ≤ q) b := Nat.not_le.mpr hbl
    refine lv_iload_n hx hb dL_law_18 rfl (lv_at hl 3 rfl) ?_
    refine lv_aload_n hx hb dL_law_19 rfl (lv_at hl 0 rfl) ?_
    refine va_slen hx hb hX hbl hbA hw.2.2 dL_law_20 ?_
    refine lv_iconst (v := 4) hx hb dL_law_21 (by decide) ?_
    refine lv_isub hx hb dL_law_22 ?_
    have key : ∀ z : Int32, z = nI L → ((z - 4 < nI i) ↔ L < i + 4) := by
      rintro z rfl
      rw [Int32.lt_iff_toInt_lt, Int32.toInt_sub, nI_toInt (by omega), nI_toInt (by omega), show ((4 : Int32)).toInt = 4 from by decide, Int.bmod_eq_of_le (by omega) (by omega)]
      omega
    refine lv_icmp_gt (tgt := 874) hx hb dL_law_23 (by decide) (fun c1 => ?_) (fun c1 => ?_)
    · refine lv_iconst (v := 1) hx hb dL_law_874 (by decide) ?_
      refine va_forget (fun q hq => hw.2.2.2.2 q hq) ?_
      exact lw_ret hx hb hr hlk dL_law_875
    · have hi : i + 4 ≤ L := Nat.le_of_not_lt (fun f => c1 ((key _ rfl).mpr f))
      refine law_step M hN h0 hX hbl hL hi hI hw hl ?_
      intro Y σ H locs ls M hN h0 hI hw hl
      refine lv_iinc (v := nI (i + 4)) (lv' := [(3, .int (nI (i + 4))), (0, .ref b), (1, .ref (yA Y 0)), (2, .ref (yA Y 92))]) hx hb dL_law_868 hl (k := 3) rfl (by rw [← nI_add]; rfl) (by decide) rfl (fun ls hl => ?_)
      refine lv_goto (tgt := 18) hx hb dL_law_871 (by decide) ?_
      exact ih (i + 4) (by omega) (by omega) Y σ H locs ls M hN h0 hI hw (lv_sub hl [1, 2, 3, 0] rfl)
end
