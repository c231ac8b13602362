/-! the law: its loop, its start -/
/-! THE CLAIM OUT OF ONE WALK OF THE LAW'S BODY. Your part is whole_start (and what it stands on); all else here is the same for every law, but numbers. -/
def R_law : String := "GlebeVowelsLaw"
def lw_P (b : Addr) (xs : List Int32) (args : Array Value) (s : State) : Prop := args = #[.ref b] ∧ s.IntsAt b xs ∧ xs.length ≤ 3072 ∧ (Jvm.Cond.and given_1 narrow_1).before args s = true
def lw_Q (_ : Array Value) (s : State) (o : Outcome) (t : State) : Prop := o = .returned (some (.int 1)) ∧ Framed s o t [] room_1.cells room_1.slots
def lw_Z (below : List Frame) (a : Array Value) (s : State) : State → Prop := fun t => ∃ o, t.status = .running ∧ Ended t below o ∧ lw_Q a s o t
/-- the law's own end, with 1 on the stack, nothing written that was there before, its room as the claim has it -/
theorem lw_ret {p : Program} {l : Launch} {e : Env} {s : State} {m : MethodId} {below : List Frame} {meth : Method} {c : Code} {b : Nat} (hx : p.tables.exec = Jvm.exec) (hb : c.code = code) (hr : meth.sig.returnType = ret) (hlocks : meth.locks = false) {pc : Nat} {H : Heap} {ls : Array Slot} (hdg : decode code pc = .ok (.ireturn, 1)) : W p l e room_1 s m #[Value.ref b] below meth c H [] room_1.cells room_1.slots (lw_Z below #[Value.ref b] s) (F0 m pc ls [.int 1]) := by
  intro T hT X
  obtain ⟨fs, hret, hrun, hended, hW, hframe⟩ := X.leave (v := some (.int 1)) (hlocks := hlocks) (fun h => by rw [hr] at h; cases h)
  have hmeth' : T.vm.method? m = some meth := X.method'
  refine ⟨T.setFrames fs, ?_, .returned (some (.int 1)), hrun, hended, rfl, ⟨_, rfl⟩, hW, hframe⟩
  jvm_step X.here [X.here.top, hx, hb, hdg, hmeth', hr, ret, narrow_b1]
  (try refine ⟨rfl, ?_⟩); (try refine ⟨rfl, ?_⟩)
  first | (intro acts; rw [hret _ acts rfl rfl rfl]) | rw [hret _ _ rfl rfl rfl]
  exact Steps.refl _
/-- what holds at the law's entry: the machine, the code, the tables' words (any of lw_tbl by 'hts w (by decide +kernel)'), the script of L ints xs at the cell b, what the Statement gives of the start (any of its parts by flat_of_before) -/
def lw_At (p : Program) (s : State) (m : MethodId) (meth : Method) (c : Code) (b L : Nat) (xs : Nat → Int32) : Prop :=
  p.tables.exec = Jvm.exec ∧ c.code = code ∧ meth.sig.returnType = ret ∧ c.maxLocals = 4 ∧ s.vm.findClass R_law = some m.cls ∧ (∀ w ∈ lw_tbl, w.before #[Value.ref b] s = true) ∧ va_X b L xs s s.heap ∧ b < s.heap.size ∧ meth.locks = false ∧ (Jvm.Cond.and given_1 narrow_1).before #[Value.ref b] s = true
theorem dL_law_0 : decode code 0 = .ok (.new 7, 3) := by decide +kernel
theorem dL_law_3 : decode code 3 = .ok (.dup, 1) := by decide +kernel
theorem dL_law_4 : decode code 4 = .ok (.invokespecial 9, 3) := by decide +kernel
theorem dL_law_7 : decode code 7 = .ok (.astore_n 1, 1) := by decide +kernel
theorem dL_law_8 : decode code 8 = .ok (.new 10, 3) := by decide +kernel
theorem dL_law_11 : decode code 11 = .ok (.dup, 1) := by decide +kernel
theorem dL_law_12 : decode code 12 = .ok (.invokespecial 12, 3) := by decide +kernel
theorem dL_law_15 : decode code 15 = .ok (.astore_n 2, 1) := by decide +kernel
theorem dL_law_16 : decode code 16 = .ok (.iconst 0, 1) := by decide +kernel
theorem dL_law_17 : decode code 17 = .ok (.istore_n 3, 1) := by decide +kernel
theorem dL_law_18 : decode code 18 = .ok (.iload_n 3, 1) := by decide +kernel
theorem dL_law_19 : decode code 19 = .ok (.aload_n 0, 1) := by decide +kernel
theorem dL_law_20 : decode code 20 = .ok (.arraylength, 1) := by decide +kernel
theorem dL_law_21 : decode code 21 = .ok (.bipush 6, 2) := by decide +kernel
theorem dL_law_23 : decode code 23 = .ok (.isub, 1) := by decide +kernel
theorem dL_law_24 : decode code 24 = .ok (.if_icmp .gt 1288, 3) := by decide +kernel
theorem dL_law_27 : decode code 27 = .ok (.aload_n 0, 1) := by decide +kernel
theorem dL_law_28 : decode code 28 = .ok (.iload_n 3, 1) := by decide +kernel
theorem dL_law_29 : decode code 29 = .ok (.iaload, 1) := by decide +kernel
theorem dL_law_30 : decode code 30 = .ok (.bipush 31, 2) := by decide +kernel
theorem dL_law_32 : decode code 32 = .ok (.iand, 1) := by decide +kernel
theorem dL_law_33 : decode code 33 = .ok (.tableswitch 1273 0 30 #[139, 162, 175, 208, 241, 274, 307, 340, 373, 386, 399, 422, 445, 478, 511, 534, 577, 610, 643, 676, 719, 772, 815, 868, 911, 954, 977, 1061, 1124, 1187, 1250], 139) := by decide +kernel
theorem dL_law_172 : decode code 172 = .ok (.aload_n 1, 1) := by decide +kernel
theorem dL_law_173 : decode code 173 = .ok (.aload_n 0, 1) := by decide +kernel
theorem dL_law_174 : decode code 174 = .ok (.iload_n 3, 1) := by decide +kernel
theorem dL_law_175 : decode code 175 = .ok (.iconst 1, 1) := by decide +kernel
theorem dL_law_176 : decode code 176 = .ok (.iadd, 1) := by decide +kernel
theorem dL_law_177 : decode code 177 = .ok (.iaload, 1) := by decide +kernel
theorem dL_law_178 : decode code 178 = .ok (.invokevirtual 13, 3) := by decide +kernel
theorem dL_law_181 : decode code 181 = .ok (.aload_n 2, 1) := by decide +kernel
theorem dL_law_182 : decode code 182 = .ok (.aload_n 0, 1) := by decide +kernel
theorem dL_law_183 : decode code 183 = .ok (.iload_n 3, 1) := by decide +kernel
theorem dL_law_184 : decode code 184 = .ok (.iconst 1, 1) := by decide +kernel
theorem dL_law_185 : decode code 185 = .ok (.iadd, 1) := by decide +kernel
theorem dL_law_186 : decode code 186 = .ok (.iaload, 1) := by decide +kernel
theorem dL_law_187 : decode code 187 = .ok (.invokevirtual 17, 3) := by decide +kernel
theorem dL_law_190 : decode code 190 = .ok (.if_icmp .eq 1116, 3) := by decide +kernel
theorem dL_law_193 : decode code 193 = .ok (.iconst 0, 1) := by decide +kernel
theorem dL_law_194 : decode code 194 = .ok (.ireturn, 1) := by decide +kernel
theorem dL_law_195 : decode code 195 = .ok (.aload_n 1, 1) := by decide +kernel
theorem dL_law_196 : decode code 196 = .ok (.invokevirtual 18, 3) := by decide +kernel
theorem dL_law_199 : decode code 199 = .ok (.aload_n 2, 1) := by decide +kernel
theorem dL_law_200 : decode code 200 = .ok (.invokevirtual 22, 3) := by decide +kernel
theorem dL_law_203 : decode code 203 = .ok (.if_icmp .eq 1103, 3) := by decide +kernel
theorem dL_law_206 : decode code 206 = .ok (.iconst 0, 1) := by decide +kernel
theorem dL_law_207 : decode code 207 = .ok (.ireturn, 1) := by decide +kernel
theorem dL_law_208 : decode code 208 = .ok (.aload_n 1, 1) := by decide +kernel
theorem dL_law_209 : decode code 209 = .ok (.aload_n 0, 1) := by decide +kernel
theorem dL_law_210 : decode code 210 = .ok (.iload_n 3, 1) := by decide +kernel
theorem dL_law_211 : decode code 211 = .ok (.iconst 1, 1) := by decide +kernel
theorem dL_law_212 : decode code 212 = .ok (.iadd, 1) := by decide +kernel
theorem dL_law_213 : decode code 213 = .ok (.iaload, 1) := by decide +kernel
theorem dL_law_214 : decode code 214 = .ok (.aload_n 0, 1) := by decide +kernel
theorem dL_law_215 : decode code 215 = .ok (.iload_n 3, 1) := by decide +kernel
theorem dL_law_216 : decode code 216 = .ok (.iconst 2, 1) := by decide +kernel
theorem dL_law_217 : decode code 217 = .ok (.iadd, 1) := by decide +kernel
theorem dL_law_218 : decode code 218 = .ok (.iaload, 1) := by decide +kernel
theorem dL_law_219 : decode code 219 = .ok (.invokevirtual 23, 3) := by decide +kernel
theorem dL_law_222 : decode code 222 = .ok (.aload_n 2, 1) := by decide +kernel
theorem dL_law_223 : decode code 223 = .ok (.aload_n 0, 1) := by decide +kernel
theorem dL_law_224 : decode code 224 = .ok (.iload_n 3, 1) := by decide +kernel
theorem dL_law_225 : decode code 225 = .ok (.iconst 1, 1) := by decide +kernel
theorem dL_law_226 : decode code 226 = .ok (.iadd, 1) := by decide +kernel
theorem dL_law_227 : decode code 227 = .ok (.iaload, 1) := by decide +kernel
theorem dL_law_228 : decode code 228 = .ok (.aload_n 0, 1) := by decide +kernel
theorem dL_law_229 : decode code 229 = .ok (.iload_n 3, 1) := by decide +kernel
theorem dL_law_230 : decode code 230 = .ok (.iconst 2, 1) := by decide +kernel
theorem dL_law_231 : decode code 231 = .ok (.iadd, 1) := by decide +kernel
theorem dL_law_232 : decode code 232 = .ok (.iaload, 1) := by decide +kernel
theorem dL_law_233 : decode code 233 = .ok (.invokevirtual 27, 3) := by decide +kernel
theorem dL_law_236 : decode code 236 = .ok (.if_icmp .eq 1070, 3) := by decide +kernel
theorem dL_law_239 : decode code 239 = .ok (.iconst 0, 1) := by decide +kernel
theorem dL_law_240 : decode code 240 = .ok (.ireturn, 1) := by decide +kernel
theorem dL_law_241 : decode code 241 = .ok (.aload_n 1, 1) := by decide +kernel
theorem dL_law_242 : decode code 242 = .ok (.aload_n 0, 1) := by decide +kernel
theorem dL_law_243 : decode code 243 = .ok (.iload_n 3, 1) := by decide +kernel
theorem dL_law_244 : decode code 244 = .ok (.iconst 1, 1) := by decide +kernel
theorem dL_law_245 : decode code 245 = .ok (.iadd, 1) := by decide +kernel
theorem dL_law_246 : decode code 246 = .ok (.iaload, 1) := by decide +kernel
theorem dL_law_247 : decode code 247 = .ok (.aload_n 0, 1) := by decide +kernel
theorem dL_law_248 : decode code 248 = .ok (.iload_n 3, 1) := by decide +kernel
theorem dL_law_249 : decode code 249 = .ok (.iconst 2, 1) := by decide +kernel
theorem dL_law_250 : decode code 250 = .ok (.iadd, 1) := by decide +kernel
theorem dL_law_251 : decode code 251 = .ok (.iaload, 1) := by decide +kernel
theorem dL_law_252 : decode code 252 = .ok (.invokevirtual 28, 3) := by decide +kernel
theorem dL_law_255 : decode code 255 = .ok (.aload_n 2, 1) := by decide +kernel
theorem dL_law_256 : decode code 256 = .ok (.aload_n 0, 1) := by decide +kernel
theorem dL_law_257 : decode code 257 = .ok (.iload_n 3, 1) := by decide +kernel
theorem dL_law_258 : decode code 258 = .ok (.iconst 1, 1) := by decide +kernel
theorem dL_law_259 : decode code 259 = .ok (.iadd, 1) := by decide +kernel
theorem dL_law_260 : decode code 260 = .ok (.iaload, 1) := by decide +kernel
theorem dL_law_261 : decode code 261 = .ok (.aload_n 0, 1) := by decide +kernel
theorem dL_law_262 : decode code 262 = .ok (.iload_n 3, 1) := by decide +kernel
theorem dL_law_263 : decode code 263 = .ok (.iconst 2, 1) := by decide +kernel
theorem dL_law_264 : decode code 264 = .ok (.iadd, 1) := by decide +kernel
theorem dL_law_265 : decode code 265 = .ok (.iaload, 1) := by decide +kernel
theorem dL_law_266 : decode code 266 = .ok (.invokevirtual 31, 3) := by decide +kernel
theorem dL_law_269 : decode code 269 = .ok (.if_icmp .eq 1037, 3) := by decide +kernel
theorem dL_law_272 : decode code 272 = .ok (.iconst 0, 1) := by decide +kernel
theorem dL_law_273 : decode code 273 = .ok (.ireturn, 1) := by decide +kernel
theorem dL_law_274 : decode code 274 = .ok (.aload_n 1, 1) := by decide +kernel
theorem dL_law_275 : decode code 275 = .ok (.aload_n 0, 1) := by decide +kernel
theorem dL_law_276 : decode code 276 = .ok (.iload_n 3, 1) := by decide +kernel
theorem dL_law_277 : decode code 277 = .ok (.iconst 1, 1) := by decide +kernel
theorem dL_law_278 : decode code 278 = .ok (.iadd, 1) := by decide +kernel
theorem dL_law_279 : decode code 279 = .ok (.iaload, 1) := by decide +kernel
theorem dL_law_280 : decode code 280 = .ok (.aload_n 0, 1) := by decide +kernel
theorem dL_law_281 : decode code 281 = .ok (.iload_n 3, 1) := by decide +kernel
theorem dL_law_282 : decode code 282 = .ok (.iconst 2, 1) := by decide +kernel
theorem dL_law_283 : decode code 283 = .ok (.iadd, 1) := by decide +kernel
theorem dL_law_284 : decode code 284 = .ok (.iaload, 1) := by decide +kernel
theorem dL_law_285 : decode code 285 = .ok (.invokevirtual 32, 3) := by decide +kernel
theorem dL_law_288 : decode code 288 = .ok (.aload_n 2, 1) := by decide +kernel
theorem dL_law_289 : decode code 289 = .ok (.aload_n 0, 1) := by decide +kernel
theorem dL_law_290 : decode code 290 = .ok (.iload_n 3, 1) := by decide +kernel
theorem dL_law_291 : decode code 291 = .ok (.iconst 1, 1) := by decide +kernel
theorem dL_law_292 : decode code 292 = .ok (.iadd, 1) := by decide +kernel
theorem dL_law_293 : decode code 293 = .ok (.iaload, 1) := by decide +kernel
theorem dL_law_294 : decode code 294 = .ok (.aload_n 0, 1) := by decide +kernel
theorem dL_law_295 : decode code 295 = .ok (.iload_n 3, 1) := by decide +kernel
theorem dL_law_296 : decode code 296 = .ok (.iconst 2, 1) := by decide +kernel
theorem dL_law_297 : decode code 297 = .ok (.iadd, 1) := by decide +kernel
theorem dL_law_298 : decode code 298 = .ok (.iaload, 1) := by decide +kernel
theorem dL_law_299 : decode code 299 = .ok (.invokevirtual 35, 3) := by decide +kernel
theorem dL_law_302 : decode code 302 = .ok (.if_icmp .eq 1004, 3) := by decide +kernel
theorem dL_law_305 : decode code 305 = .ok (.iconst 0, 1) := by decide +kernel
theorem dL_law_306 : decode code 306 = .ok (.ireturn, 1) := by decide +kernel
theorem dL_law_307 : decode code 307 = .ok (.aload_n 1, 1) := by decide +kernel
theorem dL_law_308 : decode code 308 = .ok (.aload_n 0, 1) := by decide +kernel
theorem dL_law_309 : decode code 309 = .ok (.iload_n 3, 1) := by decide +kernel
theorem dL_law_310 : decode code 310 = .ok (.iconst 1, 1) := by decide +kernel
theorem dL_law_311 : decode code 311 = .ok (.iadd, 1) := by decide +kernel
theorem dL_law_312 : decode code 312 = .ok (.iaload, 1) := by decide +kernel
theorem dL_law_313 : decode code 313 = .ok (.aload_n 0, 1) := by decide +kernel
theorem dL_law_314 : decode code 314 = .ok (.iload_n 3, 1) := by decide +kernel
theorem dL_law_315 : decode code 315 = .ok (.iconst 2, 1) := by decide +kernel
theorem dL_law_316 : decode code 316 = .ok (.iadd, 1) := by decide +kernel
theorem dL_law_317 : decode code 317 = .ok (.iaload, 1) := by decide +kernel
theorem dL_law_318 : decode code 318 = .ok (.invokevirtual 36, 3) := by decide +kernel
theorem dL_law_321 : decode code 321 = .ok (.aload_n 2, 1) := by decide +kernel
theorem dL_law_322 : decode code 322 = .ok (.aload_n 0, 1) := by decide +kernel
theorem dL_law_323 : decode code 323 = .ok (.iload_n 3, 1) := by decide +kernel
theorem dL_law_324 : decode code 324 = .ok (.iconst 1, 1) := by decide +kernel
theorem dL_law_325 : decode code 325 = .ok (.iadd, 1) := by decide +kernel
theorem dL_law_326 : decode code 326 = .ok (.iaload, 1) := by decide +kernel
theorem dL_law_327 : decode code 327 = .ok (.aload_n 0, 1) := by decide +kernel
theorem dL_law_328 : decode code 328 = .ok (.iload_n 3, 1) := by decide +kernel
theorem dL_law_329 : decode code 329 = .ok (.iconst 2, 1) := by decide +kernel
theorem dL_law_330 : decode code 330 = .ok (.iadd, 1) := by decide +kernel
theorem dL_law_331 : decode code 331 = .ok (.iaload, 1) := by decide +kernel
theorem dL_law_332 : decode code 332 = .ok (.invokevirtual 39, 3) := by decide +kernel
theorem dL_law_335 : decode code 335 = .ok (.if_icmp .eq 971, 3) := by decide +kernel
theorem dL_law_338 : decode code 338 = .ok (.iconst 0, 1) := by decide +kernel
theorem dL_law_339 : decode code 339 = .ok (.ireturn, 1) := by decide +kernel
theorem dL_law_340 : decode code 340 = .ok (.aload_n 1, 1) := by decide +kernel
theorem dL_law_341 : decode code 341 = .ok (.aload_n 0, 1) := by decide +kernel
theorem dL_law_342 : decode code 342 = .ok (.iload_n 3, 1) := by decide +kernel
theorem dL_law_343 : decode code 343 = .ok (.iconst 1, 1) := by decide +kernel
theorem dL_law_344 : decode code 344 = .ok (.iadd, 1) := by decide +kernel
theorem dL_law_345 : decode code 345 = .ok (.iaload, 1) := by decide +kernel
theorem dL_law_346 : decode code 346 = .ok (.aload_n 0, 1) := by decide +kernel
theorem dL_law_347 : decode code 347 = .ok (.iload_n 3, 1) := by decide +kernel
theorem dL_law_348 : decode code 348 = .ok (.iconst 2, 1) := by decide +kernel
theorem dL_law_349 : decode code 349 = .ok (.iadd, 1) := by decide +kernel
theorem dL_law_350 : decode code 350 = .ok (.iaload, 1) := by decide +kernel
theorem dL_law_351 : decode code 351 = .ok (.invokevirtual 40, 3) := by decide +kernel
theorem dL_law_354 : decode code 354 = .ok (.aload_n 2, 1) := by decide +kernel
theorem dL_law_355 : decode code 355 = .ok (.aload_n 0, 1) := by decide +kernel
theorem dL_law_356 : decode code 356 = .ok (.iload_n 3, 1) := by decide +kernel
theorem dL_law_357 : decode code 357 = .ok (.iconst 1, 1) := by decide +kernel
theorem dL_law_358 : decode code 358 = .ok (.iadd, 1) := by decide +kernel
theorem dL_law_359 : decode code 359 = .ok (.iaload, 1) := by decide +kernel
theorem dL_law_360 : decode code 360 = .ok (.aload_n 0, 1) := by decide +kernel
theorem dL_law_361 : decode code 361 = .ok (.iload_n 3, 1) := by decide +kernel
theorem dL_law_362 : decode code 362 = .ok (.iconst 2, 1) := by decide +kernel
theorem dL_law_363 : decode code 363 = .ok (.iadd, 1) := by decide +kernel
theorem dL_law_364 : decode code 364 = .ok (.iaload, 1) := by decide +kernel
theorem dL_law_365 : decode code 365 = .ok (.invokevirtual 43, 3) := by decide +kernel
theorem dL_law_368 : decode code 368 = .ok (.if_icmp .eq 938, 3) := by decide +kernel
theorem dL_law_371 : decode code 371 = .ok (.iconst 0, 1) := by decide +kernel
theorem dL_law_372 : decode code 372 = .ok (.ireturn, 1) := by decide +kernel
theorem dL_law_373 : decode code 373 = .ok (.aload_n 1, 1) := by decide +kernel
theorem dL_law_374 : decode code 374 = .ok (.aload_n 0, 1) := by decide +kernel
theorem dL_law_375 : decode code 375 = .ok (.iload_n 3, 1) := by decide +kernel
theorem dL_law_376 : decode code 376 = .ok (.iconst 1, 1) := by decide +kernel
theorem dL_law_377 : decode code 377 = .ok (.iadd, 1) := by decide +kernel
theorem dL_law_378 : decode code 378 = .ok (.iaload, 1) := by decide +kernel
theorem dL_law_379 : decode code 379 = .ok (.aload_n 0, 1) := by decide +kernel
theorem dL_law_380 : decode code 380 = .ok (.iload_n 3, 1) := by decide +kernel
theorem dL_law_381 : decode code 381 = .ok (.iconst 2, 1) := by decide +kernel
theorem dL_law_382 : decode code 382 = .ok (.iadd, 1) := by decide +kernel
theorem dL_law_383 : decode code 383 = .ok (.iaload, 1) := by decide +kernel
theorem dL_law_384 : decode code 384 = .ok (.invokevirtual 44, 3) := by decide +kernel
theorem dL_law_387 : decode code 387 = .ok (.aload_n 2, 1) := by decide +kernel
theorem dL_law_388 : decode code 388 = .ok (.aload_n 0, 1) := by decide +kernel
theorem dL_law_389 : decode code 389 = .ok (.iload_n 3, 1) := by decide +kernel
theorem dL_law_390 : decode code 390 = .ok (.iconst 1, 1) := by decide +kernel
theorem dL_law_391 : decode code 391 = .ok (.iadd, 1) := by decide +kernel
theorem dL_law_392 : decode code 392 = .ok (.iaload, 1) := by decide +kernel
theorem dL_law_393 : decode code 393 = .ok (.aload_n 0, 1) := by decide +kernel
theorem dL_law_394 : decode code 394 = .ok (.iload_n 3, 1) := by decide +kernel
theorem dL_law_395 : decode code 395 = .ok (.iconst 2, 1) := by decide +kernel
theorem dL_law_396 : decode code 396 = .ok (.iadd, 1) := by decide +kernel
theorem dL_law_397 : decode code 397 = .ok (.iaload, 1) := by decide +kernel
theorem dL_law_398 : decode code 398 = .ok (.invokevirtual 47, 3) := by decide +kernel
theorem dL_law_401 : decode code 401 = .ok (.if_icmp .eq 905, 3) := by decide +kernel
theorem dL_law_404 : decode code 404 = .ok (.iconst 0, 1) := by decide +kernel
theorem dL_law_405 : decode code 405 = .ok (.ireturn, 1) := by decide +kernel
theorem dL_law_406 : decode code 406 = .ok (.aload_n 1, 1) := by decide +kernel
theorem dL_law_407 : decode code 407 = .ok (.invokevirtual 48, 3) := by decide +kernel
theorem dL_law_410 : decode code 410 = .ok (.aload_n 2, 1) := by decide +kernel
theorem dL_law_411 : decode code 411 = .ok (.invokevirtual 51, 3) := by decide +kernel
theorem dL_law_414 : decode code 414 = .ok (.if_icmp .eq 892, 3) := by decide +kernel
theorem dL_law_417 : decode code 417 = .ok (.iconst 0, 1) := by decide +kernel
theorem dL_law_418 : decode code 418 = .ok (.ireturn, 1) := by decide +kernel
theorem dL_law_419 : decode code 419 = .ok (.aload_n 1, 1) := by decide +kernel
theorem dL_law_420 : decode code 420 = .ok (.invokevirtual 52, 3) := by decide +kernel
theorem dL_law_423 : decode code 423 = .ok (.aload_n 2, 1) := by decide +kernel
theorem dL_law_424 : decode code 424 = .ok (.invokevirtual 55, 3) := by decide +kernel
theorem dL_law_427 : decode code 427 = .ok (.if_icmp .eq 879, 3) := by decide +kernel
theorem dL_law_430 : decode code 430 = .ok (.iconst 0, 1) := by decide +kernel
theorem dL_law_431 : decode code 431 = .ok (.ireturn, 1) := by decide +kernel
theorem dL_law_432 : decode code 432 = .ok (.aload_n 1, 1) := by decide +kernel
theorem dL_law_433 : decode code 433 = .ok (.aload_n 0, 1) := by decide +kernel
theorem dL_law_434 : decode code 434 = .ok (.iload_n 3, 1) := by decide +kernel
theorem dL_law_435 : decode code 435 = .ok (.iconst 1, 1) := by decide +kernel
theorem dL_law_436 : decode code 436 = .ok (.iadd, 1) := by decide +kernel
theorem dL_law_437 : decode code 437 = .ok (.iaload, 1) := by decide +kernel
theorem dL_law_438 : decode code 438 = .ok (.invokevirtual 56, 3) := by decide +kernel
theorem dL_law_441 : decode code 441 = .ok (.aload_n 2, 1) := by decide +kernel
theorem dL_law_442 : decode code 442 = .ok (.aload_n 0, 1) := by decide +kernel
theorem dL_law_443 : decode code 443 = .ok (.iload_n 3, 1) := by decide +kernel
theorem dL_law_444 : decode code 444 = .ok (.iconst 1, 1) := by decide +kernel
theorem dL_law_445 : decode code 445 = .ok (.iadd, 1) := by decide +kernel
theorem dL_law_446 : decode code 446 = .ok (.iaload, 1) := by decide +kernel
theorem dL_law_447 : decode code 447 = .ok (.invokevirtual 59, 3) := by decide +kernel
theorem dL_law_450 : decode code 450 = .ok (.if_icmp .eq 856, 3) := by decide +kernel
theorem dL_law_453 : decode code 453 = .ok (.iconst 0, 1) := by decide +kernel
theorem dL_law_454 : decode code 454 = .ok (.ireturn, 1) := by decide +kernel
theorem dL_law_455 : decode code 455 = .ok (.aload_n 1, 1) := by decide +kernel
theorem dL_law_456 : decode code 456 = .ok (.aload_n 0, 1) := by decide +kernel
theorem dL_law_457 : decode code 457 = .ok (.iload_n 3, 1) := by decide +kernel
theorem dL_law_458 : decode code 458 = .ok (.iconst 1, 1) := by decide +kernel
theorem dL_law_459 : decode code 459 = .ok (.iadd, 1) := by decide +kernel
theorem dL_law_460 : decode code 460 = .ok (.iaload, 1) := by decide +kernel
theorem dL_law_461 : decode code 461 = .ok (.invokevirtual 60, 3) := by decide +kernel
theorem dL_law_464 : decode code 464 = .ok (.aload_n 2, 1) := by decide +kernel
theorem dL_law_465 : decode code 465 = .ok (.aload_n 0, 1) := by decide +kernel
theorem dL_law_466 : decode code 466 = .ok (.iload_n 3, 1) := by decide +kernel
theorem dL_law_467 : decode code 467 = .ok (.iconst 1, 1) := by decide +kernel
theorem dL_law_468 : decode code 468 = .ok (.iadd, 1) := by decide +kernel
theorem dL_law_469 : decode code 469 = .ok (.iaload, 1) := by decide +kernel
theorem dL_law_470 : decode code 470 = .ok (.invokevirtual 63, 3) := by decide +kernel
theorem dL_law_473 : decode code 473 = .ok (.if_icmp .eq 833, 3) := by decide +kernel
theorem dL_law_476 : decode code 476 = .ok (.iconst 0, 1) := by decide +kernel
theorem dL_law_477 : decode code 477 = .ok (.ireturn, 1) := by decide +kernel
theorem dL_law_478 : decode code 478 = .ok (.aload_n 1, 1) := by decide +kernel
theorem dL_law_479 : decode code 479 = .ok (.aload_n 0, 1) := by decide +kernel
theorem dL_law_480 : decode code 480 = .ok (.iload_n 3, 1) := by decide +kernel
theorem dL_law_481 : decode code 481 = .ok (.iconst 1, 1) := by decide +kernel
theorem dL_law_482 : decode code 482 = .ok (.iadd, 1) := by decide +kernel
theorem dL_law_483 : decode code 483 = .ok (.iaload, 1) := by decide +kernel
theorem dL_law_484 : decode code 484 = .ok (.aload_n 0, 1) := by decide +kernel
theorem dL_law_485 : decode code 485 = .ok (.iload_n 3, 1) := by decide +kernel
theorem dL_law_486 : decode code 486 = .ok (.iconst 2, 1) := by decide +kernel
theorem dL_law_487 : decode code 487 = .ok (.iadd, 1) := by decide +kernel
theorem dL_law_488 : decode code 488 = .ok (.iaload, 1) := by decide +kernel
theorem dL_law_489 : decode code 489 = .ok (.invokevirtual 64, 3) := by decide +kernel
theorem dL_law_492 : decode code 492 = .ok (.aload_n 2, 1) := by decide +kernel
theorem dL_law_493 : decode code 493 = .ok (.aload_n 0, 1) := by decide +kernel
theorem dL_law_494 : decode code 494 = .ok (.iload_n 3, 1) := by decide +kernel
theorem dL_law_495 : decode code 495 = .ok (.iconst 1, 1) := by decide +kernel
theorem dL_law_496 : decode code 496 = .ok (.iadd, 1) := by decide +kernel
theorem dL_law_497 : decode code 497 = .ok (.iaload, 1) := by decide +kernel
theorem dL_law_498 : decode code 498 = .ok (.aload_n 0, 1) := by decide +kernel
theorem dL_law_499 : decode code 499 = .ok (.iload_n 3, 1) := by decide +kernel
theorem dL_law_500 : decode code 500 = .ok (.iconst 2, 1) := by decide +kernel
theorem dL_law_501 : decode code 501 = .ok (.iadd, 1) := by decide +kernel
theorem dL_law_502 : decode code 502 = .ok (.iaload, 1) := by decide +kernel
theorem dL_law_503 : decode code 503 = .ok (.invokevirtual 67, 3) := by decide +kernel
theorem dL_law_506 : decode code 506 = .ok (.if_icmp .eq 800, 3) := by decide +kernel
theorem dL_law_509 : decode code 509 = .ok (.iconst 0, 1) := by decide +kernel
theorem dL_law_510 : decode code 510 = .ok (.ireturn, 1) := by decide +kernel
theorem dL_law_511 : decode code 511 = .ok (.aload_n 1, 1) := by decide +kernel
theorem dL_law_512 : decode code 512 = .ok (.aload_n 0, 1) := by decide +kernel
theorem dL_law_513 : decode code 513 = .ok (.iload_n 3, 1) := by decide +kernel
theorem dL_law_514 : decode code 514 = .ok (.iconst 1, 1) := by decide +kernel
theorem dL_law_515 : decode code 515 = .ok (.iadd, 1) := by decide +kernel
theorem dL_law_516 : decode code 516 = .ok (.iaload, 1) := by decide +kernel
theorem dL_law_517 : decode code 517 = .ok (.aload_n 0, 1) := by decide +kernel
theorem dL_law_518 : decode code 518 = .ok (.iload_n 3, 1) := by decide +kernel
theorem dL_law_519 : decode code 519 = .ok (.iconst 2, 1) := by decide +kernel
theorem dL_law_520 : decode code 520 = .ok (.iadd, 1) := by decide +kernel
theorem dL_law_521 : decode code 521 = .ok (.iaload, 1) := by decide +kernel
theorem dL_law_522 : decode code 522 = .ok (.invokevirtual 68, 3) := by decide +kernel
theorem dL_law_525 : decode code 525 = .ok (.aload_n 2, 1) := by decide +kernel
theorem dL_law_526 : decode code 526 = .ok (.aload_n 0, 1) := by decide +kernel
theorem dL_law_527 : decode code 527 = .ok (.iload_n 3, 1) := by decide +kernel
theorem dL_law_528 : decode code 528 = .ok (.iconst 1, 1) := by decide +kernel
theorem dL_law_529 : decode code 529 = .ok (.iadd, 1) := by decide +kernel
theorem dL_law_530 : decode code 530 = .ok (.iaload, 1) := by decide +kernel
theorem dL_law_531 : decode code 531 = .ok (.aload_n 0, 1) := by decide +kernel
theorem dL_law_532 : decode code 532 = .ok (.iload_n 3, 1) := by decide +kernel
theorem dL_law_533 : decode code 533 = .ok (.iconst 2, 1) := by decide +kernel
theorem dL_law_534 : decode code 534 = .ok (.iadd, 1) := by decide +kernel
theorem dL_law_535 : decode code 535 = .ok (.iaload, 1) := by decide +kernel
theorem dL_law_536 : decode code 536 = .ok (.invokevirtual 71, 3) := by decide +kernel
theorem dL_law_539 : decode code 539 = .ok (.if_icmp .eq 767, 3) := by decide +kernel
theorem dL_law_542 : decode code 542 = .ok (.iconst 0, 1) := by decide +kernel
theorem dL_law_543 : decode code 543 = .ok (.ireturn, 1) := by decide +kernel
theorem dL_law_544 : decode code 544 = .ok (.aload_n 1, 1) := by decide +kernel
theorem dL_law_545 : decode code 545 = .ok (.aload_n 0, 1) := by decide +kernel
theorem dL_law_546 : decode code 546 = .ok (.iload_n 3, 1) := by decide +kernel
theorem dL_law_547 : decode code 547 = .ok (.iconst 1, 1) := by decide +kernel
theorem dL_law_548 : decode code 548 = .ok (.iadd, 1) := by decide +kernel
theorem dL_law_549 : decode code 549 = .ok (.iaload, 1) := by decide +kernel
theorem dL_law_550 : decode code 550 = .ok (.invokevirtual 72, 3) := by decide +kernel
theorem dL_law_553 : decode code 553 = .ok (.aload_n 2, 1) := by decide +kernel
theorem dL_law_554 : decode code 554 = .ok (.aload_n 0, 1) := by decide +kernel
theorem dL_law_555 : decode code 555 = .ok (.iload_n 3, 1) := by decide +kernel
theorem dL_law_556 : decode code 556 = .ok (.iconst 1, 1) := by decide +kernel
theorem dL_law_557 : decode code 557 = .ok (.iadd, 1) := by decide +kernel
theorem dL_law_558 : decode code 558 = .ok (.iaload, 1) := by decide +kernel
theorem dL_law_559 : decode code 559 = .ok (.invokevirtual 75, 3) := by decide +kernel
theorem dL_law_562 : decode code 562 = .ok (.if_icmp .eq 744, 3) := by decide +kernel
theorem dL_law_565 : decode code 565 = .ok (.iconst 0, 1) := by decide +kernel
theorem dL_law_566 : decode code 566 = .ok (.ireturn, 1) := by decide +kernel
theorem dL_law_567 : decode code 567 = .ok (.aload_n 1, 1) := by decide +kernel
theorem dL_law_568 : decode code 568 = .ok (.aload_n 0, 1) := by decide +kernel
theorem dL_law_569 : decode code 569 = .ok (.iload_n 3, 1) := by decide +kernel
theorem dL_law_570 : decode code 570 = .ok (.iconst 1, 1) := by decide +kernel
theorem dL_law_571 : decode code 571 = .ok (.iadd, 1) := by decide +kernel
theorem dL_law_572 : decode code 572 = .ok (.iaload, 1) := by decide +kernel
theorem dL_law_573 : decode code 573 = .ok (.aload_n 0, 1) := by decide +kernel
theorem dL_law_574 : decode code 574 = .ok (.iload_n 3, 1) := by decide +kernel
theorem dL_law_575 : decode code 575 = .ok (.iconst 2, 1) := by decide +kernel
theorem dL_law_576 : decode code 576 = .ok (.iadd, 1) := by decide +kernel
theorem dL_law_577 : decode code 577 = .ok (.iaload, 1) := by decide +kernel
theorem dL_law_578 : decode code 578 = .ok (.aload_n 0, 1) := by decide +kernel
theorem dL_law_579 : decode code 579 = .ok (.iload_n 3, 1) := by decide +kernel
theorem dL_law_580 : decode code 580 = .ok (.iconst 3, 1) := by decide +kernel
theorem dL_law_581 : decode code 581 = .ok (.iadd, 1) := by decide +kernel
theorem dL_law_582 : decode code 582 = .ok (.iaload, 1) := by decide +kernel
theorem dL_law_583 : decode code 583 = .ok (.invokevirtual 76, 3) := by decide +kernel
theorem dL_law_586 : decode code 586 = .ok (.aload_n 2, 1) := by decide +kernel
theorem dL_law_587 : decode code 587 = .ok (.aload_n 0, 1) := by decide +kernel
theorem dL_law_588 : decode code 588 = .ok (.iload_n 3, 1) := by decide +kernel
theorem dL_law_589 : decode code 589 = .ok (.iconst 1, 1) := by decide +kernel
theorem dL_law_590 : decode code 590 = .ok (.iadd, 1) := by decide +kernel
theorem dL_law_591 : decode code 591 = .ok (.iaload, 1) := by decide +kernel
theorem dL_law_592 : decode code 592 = .ok (.aload_n 0, 1) := by decide +kernel
theorem dL_law_593 : decode code 593 = .ok (.iload_n 3, 1) := by decide +kernel
theorem dL_law_594 : decode code 594 = .ok (.iconst 2, 1) := by decide +kernel
theorem dL_law_595 : decode code 595 = .ok (.iadd, 1) := by decide +kernel
theorem dL_law_596 : decode code 596 = .ok (.iaload, 1) := by decide +kernel
theorem dL_law_597 : decode code 597 = .ok (.aload_n 0, 1) := by decide +kernel
theorem dL_law_598 : decode code 598 = .ok (.iload_n 3, 1) := by decide +kernel
theorem dL_law_599 : decode code 599 = .ok (.iconst 3, 1) := by decide +kernel
theorem dL_law_600 : decode code 600 = .ok (.iadd, 1) := by decide +kernel
theorem dL_law_601 : decode code 601 = .ok (.iaload, 1) := by decide +kernel
theorem dL_law_602 : decode code 602 = .ok (.invokevirtual 80, 3) := by decide +kernel
theorem dL_law_605 : decode code 605 = .ok (.if_icmp .eq 701, 3) := by decide +kernel
theorem dL_law_608 : decode code 608 = .ok (.iconst 0, 1) := by decide +kernel
theorem dL_law_609 : decode code 609 = .ok (.ireturn, 1) := by decide +kernel
theorem dL_law_610 : decode code 610 = .ok (.aload_n 1, 1) := by decide +kernel
theorem dL_law_611 : decode code 611 = .ok (.aload_n 0, 1) := by decide +kernel
theorem dL_law_612 : decode code 612 = .ok (.iload_n 3, 1) := by decide +kernel
theorem dL_law_613 : decode code 613 = .ok (.iconst 1, 1) := by decide +kernel
theorem dL_law_614 : decode code 614 = .ok (.iadd, 1) := by decide +kernel
theorem dL_law_615 : decode code 615 = .ok (.iaload, 1) := by decide +kernel
theorem dL_law_616 : decode code 616 = .ok (.aload_n 0, 1) := by decide +kernel
theorem dL_law_617 : decode code 617 = .ok (.iload_n 3, 1) := by decide +kernel
theorem dL_law_618 : decode code 618 = .ok (.iconst 2, 1) := by decide +kernel
theorem dL_law_619 : decode code 619 = .ok (.iadd, 1) := by decide +kernel
theorem dL_law_620 : decode code 620 = .ok (.iaload, 1) := by decide +kernel
theorem dL_law_621 : decode code 621 = .ok (.invokevirtual 81, 3) := by decide +kernel
theorem dL_law_624 : decode code 624 = .ok (.aload_n 2, 1) := by decide +kernel
theorem dL_law_625 : decode code 625 = .ok (.aload_n 0, 1) := by decide +kernel
theorem dL_law_626 : decode code 626 = .ok (.iload_n 3, 1) := by decide +kernel
theorem dL_law_627 : decode code 627 = .ok (.iconst 1, 1) := by decide +kernel
theorem dL_law_628 : decode code 628 = .ok (.iadd, 1) := by decide +kernel
theorem dL_law_629 : decode code 629 = .ok (.iaload, 1) := by decide +kernel
theorem dL_law_630 : decode code 630 = .ok (.aload_n 0, 1) := by decide +kernel
theorem dL_law_631 : decode code 631 = .ok (.iload_n 3, 1) := by decide +kernel
theorem dL_law_632 : decode code 632 = .ok (.iconst 2, 1) := by decide +kernel
theorem dL_law_633 : decode code 633 = .ok (.iadd, 1) := by decide +kernel
theorem dL_law_634 : decode code 634 = .ok (.iaload, 1) := by decide +kernel
theorem dL_law_635 : decode code 635 = .ok (.invokevirtual 84, 3) := by decide +kernel
theorem dL_law_638 : decode code 638 = .ok (.if_icmp .eq 668, 3) := by decide +kernel
theorem dL_law_641 : decode code 641 = .ok (.iconst 0, 1) := by decide +kernel
theorem dL_law_642 : decode code 642 = .ok (.ireturn, 1) := by decide +kernel
theorem dL_law_643 : decode code 643 = .ok (.aload_n 1, 1) := by decide +kernel
theorem dL_law_644 : decode code 644 = .ok (.aload_n 0, 1) := by decide +kernel
theorem dL_law_645 : decode code 645 = .ok (.iload_n 3, 1) := by decide +kernel
theorem dL_law_646 : decode code 646 = .ok (.iconst 1, 1) := by decide +kernel
theorem dL_law_647 : decode code 647 = .ok (.iadd, 1) := by decide +kernel
theorem dL_law_648 : decode code 648 = .ok (.iaload, 1) := by decide +kernel
theorem dL_law_649 : decode code 649 = .ok (.aload_n 0, 1) := by decide +kernel
theorem dL_law_650 : decode code 650 = .ok (.iload_n 3, 1) := by decide +kernel
theorem dL_law_651 : decode code 651 = .ok (.iconst 2, 1) := by decide +kernel
theorem dL_law_652 : decode code 652 = .ok (.iadd, 1) := by decide +kernel
theorem dL_law_653 : decode code 653 = .ok (.iaload, 1) := by decide +kernel
theorem dL_law_654 : decode code 654 = .ok (.invokevirtual 85, 3) := by decide +kernel
theorem dL_law_657 : decode code 657 = .ok (.aload_n 2, 1) := by decide +kernel
theorem dL_law_658 : decode code 658 = .ok (.aload_n 0, 1) := by decide +kernel
theorem dL_law_659 : decode code 659 = .ok (.iload_n 3, 1) := by decide +kernel
theorem dL_law_660 : decode code 660 = .ok (.iconst 1, 1) := by decide +kernel
theorem dL_law_661 : decode code 661 = .ok (.iadd, 1) := by decide +kernel
theorem dL_law_662 : decode code 662 = .ok (.iaload, 1) := by decide +kernel
theorem dL_law_663 : decode code 663 = .ok (.aload_n 0, 1) := by decide +kernel
theorem dL_law_664 : decode code 664 = .ok (.iload_n 3, 1) := by decide +kernel
theorem dL_law_665 : decode code 665 = .ok (.iconst 2, 1) := by decide +kernel
theorem dL_law_666 : decode code 666 = .ok (.iadd, 1) := by decide +kernel
theorem dL_law_667 : decode code 667 = .ok (.iaload, 1) := by decide +kernel
theorem dL_law_668 : decode code 668 = .ok (.invokevirtual 88, 3) := by decide +kernel
theorem dL_law_671 : decode code 671 = .ok (.if_icmp .eq 635, 3) := by decide +kernel
theorem dL_law_674 : decode code 674 = .ok (.iconst 0, 1) := by decide +kernel
theorem dL_law_675 : decode code 675 = .ok (.ireturn, 1) := by decide +kernel
theorem dL_law_676 : decode code 676 = .ok (.aload_n 1, 1) := by decide +kernel
theorem dL_law_677 : decode code 677 = .ok (.aload_n 0, 1) := by decide +kernel
theorem dL_law_678 : decode code 678 = .ok (.iload_n 3, 1) := by decide +kernel
theorem dL_law_679 : decode code 679 = .ok (.iconst 1, 1) := by decide +kernel
theorem dL_law_680 : decode code 680 = .ok (.iadd, 1) := by decide +kernel
theorem dL_law_681 : decode code 681 = .ok (.iaload, 1) := by decide +kernel
theorem dL_law_682 : decode code 682 = .ok (.aload_n 0, 1) := by decide +kernel
theorem dL_law_683 : decode code 683 = .ok (.iload_n 3, 1) := by decide +kernel
theorem dL_law_684 : decode code 684 = .ok (.iconst 2, 1) := by decide +kernel
theorem dL_law_685 : decode code 685 = .ok (.iadd, 1) := by decide +kernel
theorem dL_law_686 : decode code 686 = .ok (.iaload, 1) := by decide +kernel
theorem dL_law_687 : decode code 687 = .ok (.invokevirtual 89, 3) := by decide +kernel
theorem dL_law_690 : decode code 690 = .ok (.aload_n 2, 1) := by decide +kernel
theorem dL_law_691 : decode code 691 = .ok (.aload_n 0, 1) := by decide +kernel
theorem dL_law_692 : decode code 692 = .ok (.iload_n 3, 1) := by decide +kernel
theorem dL_law_693 : decode code 693 = .ok (.iconst 1, 1) := by decide +kernel
theorem dL_law_694 : decode code 694 = .ok (.iadd, 1) := by decide +kernel
theorem dL_law_695 : decode code 695 = .ok (.iaload, 1) := by decide +kernel
theorem dL_law_696 : decode code 696 = .ok (.aload_n 0, 1) := by decide +kernel
theorem dL_law_697 : decode code 697 = .ok (.iload_n 3, 1) := by decide +kernel
theorem dL_law_698 : decode code 698 = .ok (.iconst 2, 1) := by decide +kernel
theorem dL_law_699 : decode code 699 = .ok (.iadd, 1) := by decide +kernel
theorem dL_law_700 : decode code 700 = .ok (.iaload, 1) := by decide +kernel
theorem dL_law_701 : decode code 701 = .ok (.invokevirtual 92, 3) := by decide +kernel
theorem dL_law_704 : decode code 704 = .ok (.if_icmp .eq 602, 3) := by decide +kernel
theorem dL_law_707 : decode code 707 = .ok (.iconst 0, 1) := by decide +kernel
theorem dL_law_708 : decode code 708 = .ok (.ireturn, 1) := by decide +kernel
theorem dL_law_709 : decode code 709 = .ok (.aload_n 1, 1) := by decide +kernel
theorem dL_law_710 : decode code 710 = .ok (.aload_n 0, 1) := by decide +kernel
theorem dL_law_711 : decode code 711 = .ok (.iload_n 3, 1) := by decide +kernel
theorem dL_law_712 : decode code 712 = .ok (.iconst 1, 1) := by decide +kernel
theorem dL_law_713 : decode code 713 = .ok (.iadd, 1) := by decide +kernel
theorem dL_law_714 : decode code 714 = .ok (.iaload, 1) := by decide +kernel
theorem dL_law_715 : decode code 715 = .ok (.aload_n 0, 1) := by decide +kernel
theorem dL_law_716 : decode code 716 = .ok (.iload_n 3, 1) := by decide +kernel
theorem dL_law_717 : decode code 717 = .ok (.iconst 2, 1) := by decide +kernel
theorem dL_law_718 : decode code 718 = .ok (.iadd, 1) := by decide +kernel
theorem dL_law_719 : decode code 719 = .ok (.iaload, 1) := by decide +kernel
theorem dL_law_720 : decode code 720 = .ok (.aload_n 0, 1) := by decide +kernel
theorem dL_law_721 : decode code 721 = .ok (.iload_n 3, 1) := by decide +kernel
theorem dL_law_722 : decode code 722 = .ok (.iconst 3, 1) := by decide +kernel
theorem dL_law_723 : decode code 723 = .ok (.iadd, 1) := by decide +kernel
theorem dL_law_724 : decode code 724 = .ok (.iaload, 1) := by decide +kernel
theorem dL_law_725 : decode code 725 = .ok (.invokevirtual 93, 3) := by decide +kernel
theorem dL_law_728 : decode code 728 = .ok (.aload_n 2, 1) := by decide +kernel
theorem dL_law_729 : decode code 729 = .ok (.aload_n 0, 1) := by decide +kernel
theorem dL_law_730 : decode code 730 = .ok (.iload_n 3, 1) := by decide +kernel
theorem dL_law_731 : decode code 731 = .ok (.iconst 1, 1) := by decide +kernel
theorem dL_law_732 : decode code 732 = .ok (.iadd, 1) := by decide +kernel
theorem dL_law_733 : decode code 733 = .ok (.iaload, 1) := by decide +kernel
theorem dL_law_734 : decode code 734 = .ok (.aload_n 0, 1) := by decide +kernel
theorem dL_law_735 : decode code 735 = .ok (.iload_n 3, 1) := by decide +kernel
theorem dL_law_736 : decode code 736 = .ok (.iconst 2, 1) := by decide +kernel
theorem dL_law_737 : decode code 737 = .ok (.iadd, 1) := by decide +kernel
theorem dL_law_738 : decode code 738 = .ok (.iaload, 1) := by decide +kernel
theorem dL_law_739 : decode code 739 = .ok (.aload_n 0, 1) := by decide +kernel
theorem dL_law_740 : decode code 740 = .ok (.iload_n 3, 1) := by decide +kernel
theorem dL_law_741 : decode code 741 = .ok (.iconst 3, 1) := by decide +kernel
theorem dL_law_742 : decode code 742 = .ok (.iadd, 1) := by decide +kernel
theorem dL_law_743 : decode code 743 = .ok (.iaload, 1) := by decide +kernel
theorem dL_law_744 : decode code 744 = .ok (.invokevirtual 96, 3) := by decide +kernel
theorem dL_law_747 : decode code 747 = .ok (.if_icmp .eq 559, 3) := by decide +kernel
theorem dL_law_750 : decode code 750 = .ok (.iconst 0, 1) := by decide +kernel
theorem dL_law_751 : decode code 751 = .ok (.ireturn, 1) := by decide +kernel
theorem dL_law_752 : decode code 752 = .ok (.aload_n 1, 1) := by decide +kernel
theorem dL_law_753 : decode code 753 = .ok (.aload_n 0, 1) := by decide +kernel
theorem dL_law_754 : decode code 754 = .ok (.iload_n 3, 1) := by decide +kernel
theorem dL_law_755 : decode code 755 = .ok (.iconst 1, 1) := by decide +kernel
theorem dL_law_756 : decode code 756 = .ok (.iadd, 1) := by decide +kernel
theorem dL_law_757 : decode code 757 = .ok (.iaload, 1) := by decide +kernel
theorem dL_law_758 : decode code 758 = .ok (.aload_n 0, 1) := by decide +kernel
theorem dL_law_759 : decode code 759 = .ok (.iload_n 3, 1) := by decide +kernel
theorem dL_law_760 : decode code 760 = .ok (.iconst 2, 1) := by decide +kernel
theorem dL_law_761 : decode code 761 = .ok (.iadd, 1) := by decide +kernel
theorem dL_law_762 : decode code 762 = .ok (.iaload, 1) := by decide +kernel
theorem dL_law_763 : decode code 763 = .ok (.aload_n 0, 1) := by decide +kernel
theorem dL_law_764 : decode code 764 = .ok (.iload_n 3, 1) := by decide +kernel
theorem dL_law_765 : decode code 765 = .ok (.iconst 3, 1) := by decide +kernel
theorem dL_law_766 : decode code 766 = .ok (.iadd, 1) := by decide +kernel
theorem dL_law_767 : decode code 767 = .ok (.iaload, 1) := by decide +kernel
theorem dL_law_768 : decode code 768 = .ok (.aload_n 0, 1) := by decide +kernel
theorem dL_law_769 : decode code 769 = .ok (.iload_n 3, 1) := by decide +kernel
theorem dL_law_770 : decode code 770 = .ok (.iconst 4, 1) := by decide +kernel
theorem dL_law_771 : decode code 771 = .ok (.iadd, 1) := by decide +kernel
theorem dL_law_772 : decode code 772 = .ok (.iaload, 1) := by decide +kernel
theorem dL_law_773 : decode code 773 = .ok (.invokevirtual 97, 3) := by decide +kernel
theorem dL_law_776 : decode code 776 = .ok (.aload_n 2, 1) := by decide +kernel
theorem dL_law_777 : decode code 777 = .ok (.aload_n 0, 1) := by decide +kernel
theorem dL_law_778 : decode code 778 = .ok (.iload_n 3, 1) := by decide +kernel
theorem dL_law_779 : decode code 779 = .ok (.iconst 1, 1) := by decide +kernel
theorem dL_law_780 : decode code 780 = .ok (.iadd, 1) := by decide +kernel
theorem dL_law_781 : decode code 781 = .ok (.iaload, 1) := by decide +kernel
theorem dL_law_782 : decode code 782 = .ok (.aload_n 0, 1) := by decide +kernel
theorem dL_law_783 : decode code 783 = .ok (.iload_n 3, 1) := by decide +kernel
theorem dL_law_784 : decode code 784 = .ok (.iconst 2, 1) := by decide +kernel
theorem dL_law_785 : decode code 785 = .ok (.iadd, 1) := by decide +kernel
theorem dL_law_786 : decode code 786 = .ok (.iaload, 1) := by decide +kernel
theorem dL_law_787 : decode code 787 = .ok (.aload_n 0, 1) := by decide +kernel
theorem dL_law_788 : decode code 788 = .ok (.iload_n 3, 1) := by decide +kernel
theorem dL_law_789 : decode code 789 = .ok (.iconst 3, 1) := by decide +kernel
theorem dL_law_790 : decode code 790 = .ok (.iadd, 1) := by decide +kernel
theorem dL_law_791 : decode code 791 = .ok (.iaload, 1) := by decide +kernel
theorem dL_law_792 : decode code 792 = .ok (.aload_n 0, 1) := by decide +kernel
theorem dL_law_793 : decode code 793 = .ok (.iload_n 3, 1) := by decide +kernel
theorem dL_law_794 : decode code 794 = .ok (.iconst 4, 1) := by decide +kernel
theorem dL_law_795 : decode code 795 = .ok (.iadd, 1) := by decide +kernel
theorem dL_law_796 : decode code 796 = .ok (.iaload, 1) := by decide +kernel
theorem dL_law_797 : decode code 797 = .ok (.invokevirtual 101, 3) := by decide +kernel
theorem dL_law_800 : decode code 800 = .ok (.if_icmp .eq 506, 3) := by decide +kernel
theorem dL_law_803 : decode code 803 = .ok (.iconst 0, 1) := by decide +kernel
theorem dL_law_804 : decode code 804 = .ok (.ireturn, 1) := by decide +kernel
theorem dL_law_805 : decode code 805 = .ok (.aload_n 1, 1) := by decide +kernel
theorem dL_law_806 : decode code 806 = .ok (.aload_n 0, 1) := by decide +kernel
theorem dL_law_807 : decode code 807 = .ok (.iload_n 3, 1) := by decide +kernel
theorem dL_law_808 : decode code 808 = .ok (.iconst 1, 1) := by decide +kernel
theorem dL_law_809 : decode code 809 = .ok (.iadd, 1) := by decide +kernel
theorem dL_law_810 : decode code 810 = .ok (.iaload, 1) := by decide +kernel
theorem dL_law_811 : decode code 811 = .ok (.aload_n 0, 1) := by decide +kernel
theorem dL_law_812 : decode code 812 = .ok (.iload_n 3, 1) := by decide +kernel
theorem dL_law_813 : decode code 813 = .ok (.iconst 2, 1) := by decide +kernel
theorem dL_law_814 : decode code 814 = .ok (.iadd, 1) := by decide +kernel
theorem dL_law_815 : decode code 815 = .ok (.iaload, 1) := by decide +kernel
theorem dL_law_816 : decode code 816 = .ok (.aload_n 0, 1) := by decide +kernel
theorem dL_law_817 : decode code 817 = .ok (.iload_n 3, 1) := by decide +kernel
theorem dL_law_818 : decode code 818 = .ok (.iconst 3, 1) := by decide +kernel
theorem dL_law_819 : decode code 819 = .ok (.iadd, 1) := by decide +kernel
theorem dL_law_820 : decode code 820 = .ok (.iaload, 1) := by decide +kernel
theorem dL_law_821 : decode code 821 = .ok (.invokevirtual 102, 3) := by decide +kernel
theorem dL_law_824 : decode code 824 = .ok (.aload_n 2, 1) := by decide +kernel
theorem dL_law_825 : decode code 825 = .ok (.aload_n 0, 1) := by decide +kernel
theorem dL_law_826 : decode code 826 = .ok (.iload_n 3, 1) := by decide +kernel
theorem dL_law_827 : decode code 827 = .ok (.iconst 1, 1) := by decide +kernel
theorem dL_law_828 : decode code 828 = .ok (.iadd, 1) := by decide +kernel
theorem dL_law_829 : decode code 829 = .ok (.iaload, 1) := by decide +kernel
theorem dL_law_830 : decode code 830 = .ok (.aload_n 0, 1) := by decide +kernel
theorem dL_law_831 : decode code 831 = .ok (.iload_n 3, 1) := by decide +kernel
theorem dL_law_832 : decode code 832 = .ok (.iconst 2, 1) := by decide +kernel
theorem dL_law_833 : decode code 833 = .ok (.iadd, 1) := by decide +kernel
theorem dL_law_834 : decode code 834 = .ok (.iaload, 1) := by decide +kernel
theorem dL_law_835 : decode code 835 = .ok (.aload_n 0, 1) := by decide +kernel
theorem dL_law_836 : decode code 836 = .ok (.iload_n 3, 1) := by decide +kernel
theorem dL_law_837 : decode code 837 = .ok (.iconst 3, 1) := by decide +kernel
theorem dL_law_838 : decode code 838 = .ok (.iadd, 1) := by decide +kernel
theorem dL_law_839 : decode code 839 = .ok (.iaload, 1) := by decide +kernel
theorem dL_law_840 : decode code 840 = .ok (.invokevirtual 105, 3) := by decide +kernel
theorem dL_law_843 : decode code 843 = .ok (.if_icmp .eq 463, 3) := by decide +kernel
theorem dL_law_846 : decode code 846 = .ok (.iconst 0, 1) := by decide +kernel
theorem dL_law_847 : decode code 847 = .ok (.ireturn, 1) := by decide +kernel
theorem dL_law_848 : decode code 848 = .ok (.aload_n 1, 1) := by decide +kernel
theorem dL_law_849 : decode code 849 = .ok (.aload_n 0, 1) := by decide +kernel
theorem dL_law_850 : decode code 850 = .ok (.iload_n 3, 1) := by decide +kernel
theorem dL_law_851 : decode code 851 = .ok (.iconst 1, 1) := by decide +kernel
theorem dL_law_852 : decode code 852 = .ok (.iadd, 1) := by decide +kernel
theorem dL_law_853 : decode code 853 = .ok (.iaload, 1) := by decide +kernel
theorem dL_law_854 : decode code 854 = .ok (.aload_n 0, 1) := by decide +kernel
theorem dL_law_855 : decode code 855 = .ok (.iload_n 3, 1) := by decide +kernel
theorem dL_law_856 : decode code 856 = .ok (.iconst 2, 1) := by decide +kernel
theorem dL_law_857 : decode code 857 = .ok (.iadd, 1) := by decide +kernel
theorem dL_law_858 : decode code 858 = .ok (.iaload, 1) := by decide +kernel
theorem dL_law_859 : decode code 859 = .ok (.aload_n 0, 1) := by decide +kernel
theorem dL_law_860 : decode code 860 = .ok (.iload_n 3, 1) := by decide +kernel
theorem dL_law_861 : decode code 861 = .ok (.iconst 3, 1) := by decide +kernel
theorem dL_law_862 : decode code 862 = .ok (.iadd, 1) := by decide +kernel
theorem dL_law_863 : decode code 863 = .ok (.iaload, 1) := by decide +kernel
theorem dL_law_864 : decode code 864 = .ok (.aload_n 0, 1) := by decide +kernel
theorem dL_law_865 : decode code 865 = .ok (.iload_n 3, 1) := by decide +kernel
theorem dL_law_866 : decode code 866 = .ok (.iconst 4, 1) := by decide +kernel
theorem dL_law_867 : decode code 867 = .ok (.iadd, 1) := by decide +kernel
theorem dL_law_868 : decode code 868 = .ok (.iaload, 1) := by decide +kernel
theorem dL_law_869 : decode code 869 = .ok (.invokevirtual 106, 3) := by decide +kernel
theorem dL_law_872 : decode code 872 = .ok (.aload_n 2, 1) := by decide +kernel
theorem dL_law_873 : decode code 873 = .ok (.aload_n 0, 1) := by decide +kernel
theorem dL_law_874 : decode code 874 = .ok (.iload_n 3, 1) := by decide +kernel
theorem dL_law_875 : decode code 875 = .ok (.iconst 1, 1) := by decide +kernel
theorem dL_law_876 : decode code 876 = .ok (.iadd, 1) := by decide +kernel
theorem dL_law_877 : decode code 877 = .ok (.iaload, 1) := by decide +kernel
theorem dL_law_878 : decode code 878 = .ok (.aload_n 0, 1) := by decide +kernel
theorem dL_law_879 : decode code 879 = .ok (.iload_n 3, 1) := by decide +kernel
theorem dL_law_880 : decode code 880 = .ok (.iconst 2, 1) := by decide +kernel
theorem dL_law_881 : decode code 881 = .ok (.iadd, 1) := by decide +kernel
theorem dL_law_882 : decode code 882 = .ok (.iaload, 1) := by decide +kernel
theorem dL_law_883 : decode code 883 = .ok (.aload_n 0, 1) := by decide +kernel
theorem dL_law_884 : decode code 884 = .ok (.iload_n 3, 1) := by decide +kernel
theorem dL_law_885 : decode code 885 = .ok (.iconst 3, 1) := by decide +kernel
theorem dL_law_886 : decode code 886 = .ok (.iadd, 1) := by decide +kernel
theorem dL_law_887 : decode code 887 = .ok (.iaload, 1) := by decide +kernel
theorem dL_law_888 : decode code 888 = .ok (.aload_n 0, 1) := by decide +kernel
theorem dL_law_889 : decode code 889 = .ok (.iload_n 3, 1) := by decide +kernel
theorem dL_law_890 : decode code 890 = .ok (.iconst 4, 1) := by decide +kernel
theorem dL_law_891 : decode code 891 = .ok (.iadd, 1) := by decide +kernel
theorem dL_law_892 : decode code 892 = .ok (.iaload, 1) := by decide +kernel
theorem dL_law_893 : decode code 893 = .ok (.invokevirtual 109, 3) := by decide +kernel
theorem dL_law_896 : decode code 896 = .ok (.if_icmp .eq 410, 3) := by decide +kernel
theorem dL_law_899 : decode code 899 = .ok (.iconst 0, 1) := by decide +kernel
theorem dL_law_900 : decode code 900 = .ok (.ireturn, 1) := by decide +kernel
theorem dL_law_901 : decode code 901 = .ok (.aload_n 1, 1) := by decide +kernel
theorem dL_law_902 : decode code 902 = .ok (.aload_n 0, 1) := by decide +kernel
theorem dL_law_903 : decode code 903 = .ok (.iload_n 3, 1) := by decide +kernel
theorem dL_law_904 : decode code 904 = .ok (.iconst 1, 1) := by decide +kernel
theorem dL_law_905 : decode code 905 = .ok (.iadd, 1) := by decide +kernel
theorem dL_law_906 : decode code 906 = .ok (.iaload, 1) := by decide +kernel
theorem dL_law_907 : decode code 907 = .ok (.aload_n 0, 1) := by decide +kernel
theorem dL_law_908 : decode code 908 = .ok (.iload_n 3, 1) := by decide +kernel
theorem dL_law_909 : decode code 909 = .ok (.iconst 2, 1) := by decide +kernel
theorem dL_law_910 : decode code 910 = .ok (.iadd, 1) := by decide +kernel
theorem dL_law_911 : decode code 911 = .ok (.iaload, 1) := by decide +kernel
theorem dL_law_912 : decode code 912 = .ok (.aload_n 0, 1) := by decide +kernel
theorem dL_law_913 : decode code 913 = .ok (.iload_n 3, 1) := by decide +kernel
theorem dL_law_914 : decode code 914 = .ok (.iconst 3, 1) := by decide +kernel
theorem dL_law_915 : decode code 915 = .ok (.iadd, 1) := by decide +kernel
theorem dL_law_916 : decode code 916 = .ok (.iaload, 1) := by decide +kernel
theorem dL_law_917 : decode code 917 = .ok (.invokevirtual 110, 3) := by decide +kernel
theorem dL_law_920 : decode code 920 = .ok (.aload_n 2, 1) := by decide +kernel
theorem dL_law_921 : decode code 921 = .ok (.aload_n 0, 1) := by decide +kernel
theorem dL_law_922 : decode code 922 = .ok (.iload_n 3, 1) := by decide +kernel
theorem dL_law_923 : decode code 923 = .ok (.iconst 1, 1) := by decide +kernel
theorem dL_law_924 : decode code 924 = .ok (.iadd, 1) := by decide +kernel
theorem dL_law_925 : decode code 925 = .ok (.iaload, 1) := by decide +kernel
theorem dL_law_926 : decode code 926 = .ok (.aload_n 0, 1) := by decide +kernel
theorem dL_law_927 : decode code 927 = .ok (.iload_n 3, 1) := by decide +kernel
theorem dL_law_928 : decode code 928 = .ok (.iconst 2, 1) := by decide +kernel
theorem dL_law_929 : decode code 929 = .ok (.iadd, 1) := by decide +kernel
theorem dL_law_930 : decode code 930 = .ok (.iaload, 1) := by decide +kernel
theorem dL_law_931 : decode code 931 = .ok (.aload_n 0, 1) := by decide +kernel
theorem dL_law_932 : decode code 932 = .ok (.iload_n 3, 1) := by decide +kernel
theorem dL_law_933 : decode code 933 = .ok (.iconst 3, 1) := by decide +kernel
theorem dL_law_934 : decode code 934 = .ok (.iadd, 1) := by decide +kernel
theorem dL_law_935 : decode code 935 = .ok (.iaload, 1) := by decide +kernel
theorem dL_law_936 : decode code 936 = .ok (.invokevirtual 113, 3) := by decide +kernel
theorem dL_law_939 : decode code 939 = .ok (.if_icmp .eq 367, 3) := by decide +kernel
theorem dL_law_942 : decode code 942 = .ok (.iconst 0, 1) := by decide +kernel
theorem dL_law_943 : decode code 943 = .ok (.ireturn, 1) := by decide +kernel
theorem dL_law_944 : decode code 944 = .ok (.aload_n 1, 1) := by decide +kernel
theorem dL_law_945 : decode code 945 = .ok (.aload_n 0, 1) := by decide +kernel
theorem dL_law_946 : decode code 946 = .ok (.iload_n 3, 1) := by decide +kernel
theorem dL_law_947 : decode code 947 = .ok (.iconst 1, 1) := by decide +kernel
theorem dL_law_948 : decode code 948 = .ok (.iadd, 1) := by decide +kernel
theorem dL_law_949 : decode code 949 = .ok (.iaload, 1) := by decide +kernel
theorem dL_law_950 : decode code 950 = .ok (.aload_n 0, 1) := by decide +kernel
theorem dL_law_951 : decode code 951 = .ok (.iload_n 3, 1) := by decide +kernel
theorem dL_law_952 : decode code 952 = .ok (.iconst 2, 1) := by decide +kernel
theorem dL_law_953 : decode code 953 = .ok (.iadd, 1) := by decide +kernel
theorem dL_law_954 : decode code 954 = .ok (.iaload, 1) := by decide +kernel
theorem dL_law_955 : decode code 955 = .ok (.aload_n 0, 1) := by decide +kernel
theorem dL_law_956 : decode code 956 = .ok (.iload_n 3, 1) := by decide +kernel
theorem dL_law_957 : decode code 957 = .ok (.iconst 3, 1) := by decide +kernel
theorem dL_law_958 : decode code 958 = .ok (.iadd, 1) := by decide +kernel
theorem dL_law_959 : decode code 959 = .ok (.iaload, 1) := by decide +kernel
theorem dL_law_960 : decode code 960 = .ok (.invokevirtual 114, 3) := by decide +kernel
theorem dL_law_963 : decode code 963 = .ok (.aload_n 2, 1) := by decide +kernel
theorem dL_law_964 : decode code 964 = .ok (.aload_n 0, 1) := by decide +kernel
theorem dL_law_965 : decode code 965 = .ok (.iload_n 3, 1) := by decide +kernel
theorem dL_law_966 : decode code 966 = .ok (.iconst 1, 1) := by decide +kernel
theorem dL_law_967 : decode code 967 = .ok (.iadd, 1) := by decide +kernel
theorem dL_law_968 : decode code 968 = .ok (.iaload, 1) := by decide +kernel
theorem dL_law_969 : decode code 969 = .ok (.aload_n 0, 1) := by decide +kernel
theorem dL_law_970 : decode code 970 = .ok (.iload_n 3, 1) := by decide +kernel
theorem dL_law_971 : decode code 971 = .ok (.iconst 2, 1) := by decide +kernel
theorem dL_law_972 : decode code 972 = .ok (.iadd, 1) := by decide +kernel
theorem dL_law_973 : decode code 973 = .ok (.iaload, 1) := by decide +kernel
theorem dL_law_974 : decode code 974 = .ok (.aload_n 0, 1) := by decide +kernel
theorem dL_law_975 : decode code 975 = .ok (.iload_n 3, 1) := by decide +kernel
theorem dL_law_976 : decode code 976 = .ok (.iconst 3, 1) := by decide +kernel
theorem dL_law_977 : decode code 977 = .ok (.iadd, 1) := by decide +kernel
theorem dL_law_978 : decode code 978 = .ok (.iaload, 1) := by decide +kernel
theorem dL_law_979 : decode code 979 = .ok (.invokevirtual 117, 3) := by decide +kernel
theorem dL_law_982 : decode code 982 = .ok (.if_icmp .eq 324, 3) := by decide +kernel
theorem dL_law_985 : decode code 985 = .ok (.iconst 0, 1) := by decide +kernel
theorem dL_law_986 : decode code 986 = .ok (.ireturn, 1) := by decide +kernel
theorem dL_law_987 : decode code 987 = .ok (.aload_n 1, 1) := by decide +kernel
theorem dL_law_988 : decode code 988 = .ok (.aload_n 0, 1) := by decide +kernel
theorem dL_law_989 : decode code 989 = .ok (.iload_n 3, 1) := by decide +kernel
theorem dL_law_990 : decode code 990 = .ok (.iconst 1, 1) := by decide +kernel
theorem dL_law_991 : decode code 991 = .ok (.iadd, 1) := by decide +kernel
theorem dL_law_992 : decode code 992 = .ok (.iaload, 1) := by decide +kernel
theorem dL_law_993 : decode code 993 = .ok (.invokevirtual 118, 3) := by decide +kernel
theorem dL_law_996 : decode code 996 = .ok (.aload_n 2, 1) := by decide +kernel
theorem dL_law_997 : decode code 997 = .ok (.aload_n 0, 1) := by decide +kernel
theorem dL_law_998 : decode code 998 = .ok (.iload_n 3, 1) := by decide +kernel
theorem dL_law_999 : decode code 999 = .ok (.iconst 1, 1) := by decide +kernel
theorem dL_law_1000 : decode code 1000 = .ok (.iadd, 1) := by decide +kernel
theorem dL_law_1001 : decode code 1001 = .ok (.iaload, 1) := by decide +kernel
theorem dL_law_1002 : decode code 1002 = .ok (.invokevirtual 121, 3) := by decide +kernel
theorem dL_law_1005 : decode code 1005 = .ok (.if_icmp .eq 301, 3) := by decide +kernel
theorem dL_law_1008 : decode code 1008 = .ok (.iconst 0, 1) := by decide +kernel
theorem dL_law_1009 : decode code 1009 = .ok (.ireturn, 1) := by decide +kernel
theorem dL_law_1010 : decode code 1010 = .ok (.aload_n 1, 1) := by decide +kernel
theorem dL_law_1011 : decode code 1011 = .ok (.aload_n 0, 1) := by decide +kernel
theorem dL_law_1012 : decode code 1012 = .ok (.iload_n 3, 1) := by decide +kernel
theorem dL_law_1013 : decode code 1013 = .ok (.iconst 1, 1) := by decide +kernel
theorem dL_law_1014 : decode code 1014 = .ok (.iadd, 1) := by decide +kernel
theorem dL_law_1015 : decode code 1015 = .ok (.iaload, 1) := by decide +kernel
theorem dL_law_1016 : decode code 1016 = .ok (.aload_n 0, 1) := by decide +kernel
theorem dL_law_1017 : decode code 1017 = .ok (.iload_n 3, 1) := by decide +kernel
theorem dL_law_1018 : decode code 1018 = .ok (.iconst 2, 1) := by decide +kernel
theorem dL_law_1019 : decode code 1019 = .ok (.iadd, 1) := by decide +kernel
theorem dL_law_1020 : decode code 1020 = .ok (.iaload, 1) := by decide +kernel
theorem dL_law_1021 : decode code 1021 = .ok (.aload_n 0, 1) := by decide +kernel
theorem dL_law_1022 : decode code 1022 = .ok (.iload_n 3, 1) := by decide +kernel
theorem dL_law_1023 : decode code 1023 = .ok (.iconst 3, 1) := by decide +kernel
theorem dL_law_1024 : decode code 1024 = .ok (.iadd, 1) := by decide +kernel
theorem dL_law_1025 : decode code 1025 = .ok (.iaload, 1) := by decide +kernel
theorem dL_law_1026 : decode code 1026 = .ok (.aload_n 0, 1) := by decide +kernel
theorem dL_law_1027 : decode code 1027 = .ok (.iload_n 3, 1) := by decide +kernel
theorem dL_law_1028 : decode code 1028 = .ok (.iconst 4, 1) := by decide +kernel
theorem dL_law_1029 : decode code 1029 = .ok (.iadd, 1) := by decide +kernel
theorem dL_law_1030 : decode code 1030 = .ok (.iaload, 1) := by decide +kernel
theorem dL_law_1031 : decode code 1031 = .ok (.i2l, 1) := by decide +kernel
theorem dL_law_1032 : decode code 1032 = .ok (.bipush 32, 2) := by decide +kernel
theorem dL_law_1034 : decode code 1034 = .ok (.lshl, 1) := by decide +kernel
theorem dL_law_1035 : decode code 1035 = .ok (.aload_n 0, 1) := by decide +kernel
theorem dL_law_1036 : decode code 1036 = .ok (.iload_n 3, 1) := by decide +kernel
theorem dL_law_1037 : decode code 1037 = .ok (.iconst 5, 1) := by decide +kernel
theorem dL_law_1038 : decode code 1038 = .ok (.iadd, 1) := by decide +kernel
theorem dL_law_1039 : decode code 1039 = .ok (.iaload, 1) := by decide +kernel
theorem dL_law_1040 : decode code 1040 = .ok (.i2l, 1) := by decide +kernel
theorem dL_law_1041 : decode code 1041 = .ok (.ldc2_w 122, 3) := by decide +kernel
theorem dL_law_1044 : decode code 1044 = .ok (.land, 1) := by decide +kernel
theorem dL_law_1045 : decode code 1045 = .ok (.lor, 1) := by decide +kernel
theorem dL_law_1046 : decode code 1046 = .ok (.invokevirtual 124, 3) := by decide +kernel
theorem dL_law_1049 : decode code 1049 = .ok (.aload_n 2, 1) := by decide +kernel
theorem dL_law_1050 : decode code 1050 = .ok (.aload_n 0, 1) := by decide +kernel
theorem dL_law_1051 : decode code 1051 = .ok (.iload_n 3, 1) := by decide +kernel
theorem dL_law_1052 : decode code 1052 = .ok (.iconst 1, 1) := by decide +kernel
theorem dL_law_1053 : decode code 1053 = .ok (.iadd, 1) := by decide +kernel
theorem dL_law_1054 : decode code 1054 = .ok (.iaload, 1) := by decide +kernel
theorem dL_law_1055 : decode code 1055 = .ok (.aload_n 0, 1) := by decide +kernel
theorem dL_law_1056 : decode code 1056 = .ok (.iload_n 3, 1) := by decide +kernel
theorem dL_law_1057 : decode code 1057 = .ok (.iconst 2, 1) := by decide +kernel
theorem dL_law_1058 : decode code 1058 = .ok (.iadd, 1) := by decide +kernel
theorem dL_law_1059 : decode code 1059 = .ok (.iaload, 1) := by decide +kernel
theorem dL_law_1060 : decode code 1060 = .ok (.aload_n 0, 1) := by decide +kernel
theorem dL_law_1061 : decode code 1061 = .ok (.iload_n 3, 1) := by decide +kernel
theorem dL_law_1062 : decode code 1062 = .ok (.iconst 3, 1) := by decide +kernel
theorem dL_law_1063 : decode code 1063 = .ok (.iadd, 1) := by decide +kernel
theorem dL_law_1064 : decode code 1064 = .ok (.iaload, 1) := by decide +kernel
theorem dL_law_1065 : decode code 1065 = .ok (.aload_n 0, 1) := by decide +kernel
theorem dL_law_1066 : decode code 1066 = .ok (.iload_n 3, 1) := by decide +kernel
theorem dL_law_1067 : decode code 1067 = .ok (.iconst 4, 1) := by decide +kernel
theorem dL_law_1068 : decode code 1068 = .ok (.iadd, 1) := by decide +kernel
theorem dL_law_1069 : decode code 1069 = .ok (.iaload, 1) := by decide +kernel
theorem dL_law_1070 : decode code 1070 = .ok (.i2l, 1) := by decide +kernel
theorem dL_law_1071 : decode code 1071 = .ok (.bipush 32, 2) := by decide +kernel
theorem dL_law_1073 : decode code 1073 = .ok (.lshl, 1) := by decide +kernel
theorem dL_law_1074 : decode code 1074 = .ok (.aload_n 0, 1) := by decide +kernel
theorem dL_law_1075 : decode code 1075 = .ok (.iload_n 3, 1) := by decide +kernel
theorem dL_law_1076 : decode code 1076 = .ok (.iconst 5, 1) := by decide +kernel
theorem dL_law_1077 : decode code 1077 = .ok (.iadd, 1) := by decide +kernel
theorem dL_law_1078 : decode code 1078 = .ok (.iaload, 1) := by decide +kernel
theorem dL_law_1079 : decode code 1079 = .ok (.i2l, 1) := by decide +kernel
theorem dL_law_1080 : decode code 1080 = .ok (.ldc2_w 122, 3) := by decide +kernel
theorem dL_law_1083 : decode code 1083 = .ok (.land, 1) := by decide +kernel
theorem dL_law_1084 : decode code 1084 = .ok (.lor, 1) := by decide +kernel
theorem dL_law_1085 : decode code 1085 = .ok (.invokevirtual 128, 3) := by decide +kernel
theorem dL_law_1088 : decode code 1088 = .ok (.lcmp, 1) := by decide +kernel
theorem dL_law_1089 : decode code 1089 = .ok (.ifCond .eq 217, 3) := by decide +kernel
theorem dL_law_1092 : decode code 1092 = .ok (.iconst 0, 1) := by decide +kernel
theorem dL_law_1093 : decode code 1093 = .ok (.ireturn, 1) := by decide +kernel
theorem dL_law_1094 : decode code 1094 = .ok (.aload_n 1, 1) := by decide +kernel
theorem dL_law_1095 : decode code 1095 = .ok (.aload_n 0, 1) := by decide +kernel
theorem dL_law_1096 : decode code 1096 = .ok (.iload_n 3, 1) := by decide +kernel
theorem dL_law_1097 : decode code 1097 = .ok (.iconst 1, 1) := by decide +kernel
theorem dL_law_1098 : decode code 1098 = .ok (.iadd, 1) := by decide +kernel
theorem dL_law_1099 : decode code 1099 = .ok (.iaload, 1) := by decide +kernel
theorem dL_law_1100 : decode code 1100 = .ok (.aload_n 0, 1) := by decide +kernel
theorem dL_law_1101 : decode code 1101 = .ok (.iload_n 3, 1) := by decide +kernel
theorem dL_law_1102 : decode code 1102 = .ok (.iconst 2, 1) := by decide +kernel
theorem dL_law_1103 : decode code 1103 = .ok (.iadd, 1) := by decide +kernel
theorem dL_law_1104 : decode code 1104 = .ok (.iaload, 1) := by decide +kernel
theorem dL_law_1105 : decode code 1105 = .ok (.aload_n 0, 1) := by decide +kernel
theorem dL_law_1106 : decode code 1106 = .ok (.iload_n 3, 1) := by decide +kernel
theorem dL_law_1107 : decode code 1107 = .ok (.iconst 3, 1) := by decide +kernel
theorem dL_law_1108 : decode code 1108 = .ok (.iadd, 1) := by decide +kernel
theorem dL_law_1109 : decode code 1109 = .ok (.iaload, 1) := by decide +kernel
theorem dL_law_1110 : decode code 1110 = .ok (.aload_n 0, 1) := by decide +kernel
theorem dL_law_1111 : decode code 1111 = .ok (.iload_n 3, 1) := by decide +kernel
theorem dL_law_1112 : decode code 1112 = .ok (.iconst 4, 1) := by decide +kernel
theorem dL_law_1113 : decode code 1113 = .ok (.iadd, 1) := by decide +kernel
theorem dL_law_1114 : decode code 1114 = .ok (.iaload, 1) := by decide +kernel
theorem dL_law_1115 : decode code 1115 = .ok (.aload_n 0, 1) := by decide +kernel
theorem dL_law_1116 : decode code 1116 = .ok (.iload_n 3, 1) := by decide +kernel
theorem dL_law_1117 : decode code 1117 = .ok (.iconst 5, 1) := by decide +kernel
theorem dL_law_1118 : decode code 1118 = .ok (.iadd, 1) := by decide +kernel
theorem dL_law_1119 : decode code 1119 = .ok (.iaload, 1) := by decide +kernel
theorem dL_law_1120 : decode code 1120 = .ok (.invokevirtual 129, 3) := by decide +kernel
theorem dL_law_1123 : decode code 1123 = .ok (.aload_n 2, 1) := by decide +kernel
theorem dL_law_1124 : decode code 1124 = .ok (.aload_n 0, 1) := by decide +kernel
theorem dL_law_1125 : decode code 1125 = .ok (.iload_n 3, 1) := by decide +kernel
theorem dL_law_1126 : decode code 1126 = .ok (.iconst 1, 1) := by decide +kernel
theorem dL_law_1127 : decode code 1127 = .ok (.iadd, 1) := by decide +kernel
theorem dL_law_1128 : decode code 1128 = .ok (.iaload, 1) := by decide +kernel
theorem dL_law_1129 : decode code 1129 = .ok (.aload_n 0, 1) := by decide +kernel
theorem dL_law_1130 : decode code 1130 = .ok (.iload_n 3, 1) := by decide +kernel
theorem dL_law_1131 : decode code 1131 = .ok (.iconst 2, 1) := by decide +kernel
theorem dL_law_1132 : decode code 1132 = .ok (.iadd, 1) := by decide +kernel
theorem dL_law_1133 : decode code 1133 = .ok (.iaload, 1) := by decide +kernel
theorem dL_law_1134 : decode code 1134 = .ok (.aload_n 0, 1) := by decide +kernel
theorem dL_law_1135 : decode code 1135 = .ok (.iload_n 3, 1) := by decide +kernel
theorem dL_law_1136 : decode code 1136 = .ok (.iconst 3, 1) := by decide +kernel
theorem dL_law_1137 : decode code 1137 = .ok (.iadd, 1) := by decide +kernel
theorem dL_law_1138 : decode code 1138 = .ok (.iaload, 1) := by decide +kernel
theorem dL_law_1139 : decode code 1139 = .ok (.aload_n 0, 1) := by decide +kernel
theorem dL_law_1140 : decode code 1140 = .ok (.iload_n 3, 1) := by decide +kernel
theorem dL_law_1141 : decode code 1141 = .ok (.iconst 4, 1) := by decide +kernel
theorem dL_law_1142 : decode code 1142 = .ok (.iadd, 1) := by decide +kernel
theorem dL_law_1143 : decode code 1143 = .ok (.iaload, 1) := by decide +kernel
theorem dL_law_1144 : decode code 1144 = .ok (.aload_n 0, 1) := by decide +kernel
theorem dL_law_1145 : decode code 1145 = .ok (.iload_n 3, 1) := by decide +kernel
theorem dL_law_1146 : decode code 1146 = .ok (.iconst 5, 1) := by decide +kernel
theorem dL_law_1147 : decode code 1147 = .ok (.iadd, 1) := by decide +kernel
theorem dL_law_1148 : decode code 1148 = .ok (.iaload, 1) := by decide +kernel
theorem dL_law_1149 : decode code 1149 = .ok (.invokevirtual 133, 3) := by decide +kernel
theorem dL_law_1152 : decode code 1152 = .ok (.if_icmp .eq 154, 3) := by decide +kernel
theorem dL_law_1155 : decode code 1155 = .ok (.iconst 0, 1) := by decide +kernel
theorem dL_law_1156 : decode code 1156 = .ok (.ireturn, 1) := by decide +kernel
theorem dL_law_1157 : decode code 1157 = .ok (.aload_n 1, 1) := by decide +kernel
theorem dL_law_1158 : decode code 1158 = .ok (.aload_n 0, 1) := by decide +kernel
theorem dL_law_1159 : decode code 1159 = .ok (.iload_n 3, 1) := by decide +kernel
theorem dL_law_1160 : decode code 1160 = .ok (.iconst 1, 1) := by decide +kernel
theorem dL_law_1161 : decode code 1161 = .ok (.iadd, 1) := by decide +kernel
theorem dL_law_1162 : decode code 1162 = .ok (.iaload, 1) := by decide +kernel
theorem dL_law_1163 : decode code 1163 = .ok (.aload_n 0, 1) := by decide +kernel
theorem dL_law_1164 : decode code 1164 = .ok (.iload_n 3, 1) := by decide +kernel
theorem dL_law_1165 : decode code 1165 = .ok (.iconst 2, 1) := by decide +kernel
theorem dL_law_1166 : decode code 1166 = .ok (.iadd, 1) := by decide +kernel
theorem dL_law_1167 : decode code 1167 = .ok (.iaload, 1) := by decide +kernel
theorem dL_law_1168 : decode code 1168 = .ok (.aload_n 0, 1) := by decide +kernel
theorem dL_law_1169 : decode code 1169 = .ok (.iload_n 3, 1) := by decide +kernel
theorem dL_law_1170 : decode code 1170 = .ok (.iconst 3, 1) := by decide +kernel
theorem dL_law_1171 : decode code 1171 = .ok (.iadd, 1) := by decide +kernel
theorem dL_law_1172 : decode code 1172 = .ok (.iaload, 1) := by decide +kernel
theorem dL_law_1173 : decode code 1173 = .ok (.aload_n 0, 1) := by decide +kernel
theorem dL_law_1174 : decode code 1174 = .ok (.iload_n 3, 1) := by decide +kernel
theorem dL_law_1175 : decode code 1175 = .ok (.iconst 4, 1) := by decide +kernel
theorem dL_law_1176 : decode code 1176 = .ok (.iadd, 1) := by decide +kernel
theorem dL_law_1177 : decode code 1177 = .ok (.iaload, 1) := by decide +kernel
theorem dL_law_1178 : decode code 1178 = .ok (.aload_n 0, 1) := by decide +kernel
theorem dL_law_1179 : decode code 1179 = .ok (.iload_n 3, 1) := by decide +kernel
theorem dL_law_1180 : decode code 1180 = .ok (.iconst 5, 1) := by decide +kernel
theorem dL_law_1181 : decode code 1181 = .ok (.iadd, 1) := by decide +kernel
theorem dL_law_1182 : decode code 1182 = .ok (.iaload, 1) := by decide +kernel
theorem dL_law_1183 : decode code 1183 = .ok (.invokevirtual 134, 3) := by decide +kernel
theorem dL_law_1186 : decode code 1186 = .ok (.aload_n 2, 1) := by decide +kernel
theorem dL_law_1187 : decode code 1187 = .ok (.aload_n 0, 1) := by decide +kernel
theorem dL_law_1188 : decode code 1188 = .ok (.iload_n 3, 1) := by decide +kernel
theorem dL_law_1189 : decode code 1189 = .ok (.iconst 1, 1) := by decide +kernel
theorem dL_law_1190 : decode code 1190 = .ok (.iadd, 1) := by decide +kernel
theorem dL_law_1191 : decode code 1191 = .ok (.iaload, 1) := by decide +kernel
theorem dL_law_1192 : decode code 1192 = .ok (.aload_n 0, 1) := by decide +kernel
theorem dL_law_1193 : decode code 1193 = .ok (.iload_n 3, 1) := by decide +kernel
theorem dL_law_1194 : decode code 1194 = .ok (.iconst 2, 1) := by decide +kernel
theorem dL_law_1195 : decode code 1195 = .ok (.iadd, 1) := by decide +kernel
theorem dL_law_1196 : decode code 1196 = .ok (.iaload, 1) := by decide +kernel
theorem dL_law_1197 : decode code 1197 = .ok (.aload_n 0, 1) := by decide +kernel
theorem dL_law_1198 : decode code 1198 = .ok (.iload_n 3, 1) := by decide +kernel
theorem dL_law_1199 : decode code 1199 = .ok (.iconst 3, 1) := by decide +kernel
theorem dL_law_1200 : decode code 1200 = .ok (.iadd, 1) := by decide +kernel
theorem dL_law_1201 : decode code 1201 = .ok (.iaload, 1) := by decide +kernel
theorem dL_law_1202 : decode code 1202 = .ok (.aload_n 0, 1) := by decide +kernel
theorem dL_law_1203 : decode code 1203 = .ok (.iload_n 3, 1) := by decide +kernel
theorem dL_law_1204 : decode code 1204 = .ok (.iconst 4, 1) := by decide +kernel
theorem dL_law_1205 : decode code 1205 = .ok (.iadd, 1) := by decide +kernel
theorem dL_law_1206 : decode code 1206 = .ok (.iaload, 1) := by decide +kernel
theorem dL_law_1207 : decode code 1207 = .ok (.aload_n 0, 1) := by decide +kernel
theorem dL_law_1208 : decode code 1208 = .ok (.iload_n 3, 1) := by decide +kernel
theorem dL_law_1209 : decode code 1209 = .ok (.iconst 5, 1) := by decide +kernel
theorem dL_law_1210 : decode code 1210 = .ok (.iadd, 1) := by decide +kernel
theorem dL_law_1211 : decode code 1211 = .ok (.iaload, 1) := by decide +kernel
theorem dL_law_1212 : decode code 1212 = .ok (.invokevirtual 137, 3) := by decide +kernel
theorem dL_law_1215 : decode code 1215 = .ok (.if_icmp .eq 91, 3) := by decide +kernel
theorem dL_law_1218 : decode code 1218 = .ok (.iconst 0, 1) := by decide +kernel
theorem dL_law_1219 : decode code 1219 = .ok (.ireturn, 1) := by decide +kernel
theorem dL_law_1220 : decode code 1220 = .ok (.aload_n 1, 1) := by decide +kernel
theorem dL_law_1221 : decode code 1221 = .ok (.aload_n 0, 1) := by decide +kernel
theorem dL_law_1222 : decode code 1222 = .ok (.iload_n 3, 1) := by decide +kernel
theorem dL_law_1223 : decode code 1223 = .ok (.iconst 1, 1) := by decide +kernel
theorem dL_law_1224 : decode code 1224 = .ok (.iadd, 1) := by decide +kernel
theorem dL_law_1225 : decode code 1225 = .ok (.iaload, 1) := by decide +kernel
theorem dL_law_1226 : decode code 1226 = .ok (.aload_n 0, 1) := by decide +kernel
theorem dL_law_1227 : decode code 1227 = .ok (.iload_n 3, 1) := by decide +kernel
theorem dL_law_1228 : decode code 1228 = .ok (.iconst 2, 1) := by decide +kernel
theorem dL_law_1229 : decode code 1229 = .ok (.iadd, 1) := by decide +kernel
theorem dL_law_1230 : decode code 1230 = .ok (.iaload, 1) := by decide +kernel
theorem dL_law_1231 : decode code 1231 = .ok (.aload_n 0, 1) := by decide +kernel
theorem dL_law_1232 : decode code 1232 = .ok (.iload_n 3, 1) := by decide +kernel
theorem dL_law_1233 : decode code 1233 = .ok (.iconst 3, 1) := by decide +kernel
theorem dL_law_1234 : decode code 1234 = .ok (.iadd, 1) := by decide +kernel
theorem dL_law_1235 : decode code 1235 = .ok (.iaload, 1) := by decide +kernel
theorem dL_law_1236 : decode code 1236 = .ok (.aload_n 0, 1) := by decide +kernel
theorem dL_law_1237 : decode code 1237 = .ok (.iload_n 3, 1) := by decide +kernel
theorem dL_law_1238 : decode code 1238 = .ok (.iconst 4, 1) := by decide +kernel
theorem dL_law_1239 : decode code 1239 = .ok (.iadd, 1) := by decide +kernel
theorem dL_law_1240 : decode code 1240 = .ok (.iaload, 1) := by decide +kernel
theorem dL_law_1241 : decode code 1241 = .ok (.aload_n 0, 1) := by decide +kernel
theorem dL_law_1242 : decode code 1242 = .ok (.iload_n 3, 1) := by decide +kernel
theorem dL_law_1243 : decode code 1243 = .ok (.iconst 5, 1) := by decide +kernel
theorem dL_law_1244 : decode code 1244 = .ok (.iadd, 1) := by decide +kernel
theorem dL_law_1245 : decode code 1245 = .ok (.iaload, 1) := by decide +kernel
theorem dL_law_1246 : decode code 1246 = .ok (.invokevirtual 138, 3) := by decide +kernel
theorem dL_law_1249 : decode code 1249 = .ok (.aload_n 2, 1) := by decide +kernel
theorem dL_law_1250 : decode code 1250 = .ok (.aload_n 0, 1) := by decide +kernel
theorem dL_law_1251 : decode code 1251 = .ok (.iload_n 3, 1) := by decide +kernel
theorem dL_law_1252 : decode code 1252 = .ok (.iconst 1, 1) := by decide +kernel
theorem dL_law_1253 : decode code 1253 = .ok (.iadd, 1) := by decide +kernel
theorem dL_law_1254 : decode code 1254 = .ok (.iaload, 1) := by decide +kernel
theorem dL_law_1255 : decode code 1255 = .ok (.aload_n 0, 1) := by decide +kernel
theorem dL_law_1256 : decode code 1256 = .ok (.iload_n 3, 1) := by decide +kernel
theorem dL_law_1257 : decode code 1257 = .ok (.iconst 2, 1) := by decide +kernel
theorem dL_law_1258 : decode code 1258 = .ok (.iadd, 1) := by decide +kernel
theorem dL_law_1259 : decode code 1259 = .ok (.iaload, 1) := by decide +kernel
theorem dL_law_1260 : decode code 1260 = .ok (.aload_n 0, 1) := by decide +kernel
theorem dL_law_1261 : decode code 1261 = .ok (.iload_n 3, 1) := by decide +kernel
theorem dL_law_1262 : decode code 1262 = .ok (.iconst 3, 1) := by decide +kernel
theorem dL_law_1263 : decode code 1263 = .ok (.iadd, 1) := by decide +kernel
theorem dL_law_1264 : decode code 1264 = .ok (.iaload, 1) := by decide +kernel
theorem dL_law_1265 : decode code 1265 = .ok (.aload_n 0, 1) := by decide +kernel
theorem dL_law_1266 : decode code 1266 = .ok (.iload_n 3, 1) := by decide +kernel
theorem dL_law_1267 : decode code 1267 = .ok (.iconst 4, 1) := by decide +kernel
theorem dL_law_1268 : decode code 1268 = .ok (.iadd, 1) := by decide +kernel
theorem dL_law_1269 : decode code 1269 = .ok (.iaload, 1) := by decide +kernel
theorem dL_law_1270 : decode code 1270 = .ok (.aload_n 0, 1) := by decide +kernel
theorem dL_law_1271 : decode code 1271 = .ok (.iload_n 3, 1) := by decide +kernel
theorem dL_law_1272 : decode code 1272 = .ok (.iconst 5, 1) := by decide +kernel
theorem dL_law_1273 : decode code 1273 = .ok (.iadd, 1) := by decide +kernel
theorem dL_law_1274 : decode code 1274 = .ok (.iaload, 1) := by decide +kernel
theorem dL_law_1275 : decode code 1275 = .ok (.invokevirtual 141, 3) := by decide +kernel
theorem dL_law_1278 : decode code 1278 = .ok (.if_icmp .eq 28, 3) := by decide +kernel
theorem dL_law_1281 : decode code 1281 = .ok (.iconst 0, 1) := by decide +kernel
theorem dL_law_1282 : decode code 1282 = .ok (.ireturn, 1) := by decide +kernel
theorem dL_law_1283 : decode code 1283 = .ok (.aload_n 1, 1) := by decide +kernel
theorem dL_law_1284 : decode code 1284 = .ok (.aload_n 0, 1) := by decide +kernel
theorem dL_law_1285 : decode code 1285 = .ok (.iload_n 3, 1) := by decide +kernel
theorem dL_law_1286 : decode code 1286 = .ok (.iconst 1, 1) := by decide +kernel
theorem dL_law_1287 : decode code 1287 = .ok (.iadd, 1) := by decide +kernel
theorem dL_law_1288 : decode code 1288 = .ok (.iaload, 1) := by decide +kernel
theorem dL_law_1289 : decode code 1289 = .ok (.invokevirtual 142, 3) := by decide +kernel
theorem dL_law_1292 : decode code 1292 = .ok (.aload_n 2, 1) := by decide +kernel
theorem dL_law_1293 : decode code 1293 = .ok (.aload_n 0, 1) := by decide +kernel
theorem dL_law_1294 : decode code 1294 = .ok (.iload_n 3, 1) := by decide +kernel
theorem dL_law_1295 : decode code 1295 = .ok (.iconst 1, 1) := by decide +kernel
theorem dL_law_1296 : decode code 1296 = .ok (.iadd, 1) := by decide +kernel
theorem dL_law_1297 : decode code 1297 = .ok (.iaload, 1) := by decide +kernel
theorem dL_law_1298 : decode code 1298 = .ok (.invokevirtual 145, 3) := by decide +kernel
theorem dL_law_1301 : decode code 1301 = .ok (.if_icmp .eq 5, 3) := by decide +kernel
theorem dL_law_1304 : decode code 1304 = .ok (.iconst 0, 1) := by decide +kernel
theorem dL_law_1305 : decode code 1305 = .ok (.ireturn, 1) := by decide +kernel
theorem dL_law_1306 : decode code 1306 = .ok (.iinc 3 6, 3) := by decide +kernel
theorem dL_law_1309 : decode code 1309 = .ok (.goto (-1291), 3) := by decide +kernel
theorem dL_law_1312 : decode code 1312 = .ok (.iconst 1, 1) := by decide +kernel
theorem dL_law_1313 : decode code 1313 = .ok (.ireturn, 1) := by decide +kernel
theorem lg_cmp_self (x : Int64) : lg_cmp x x = 0 := by simp [lg_cmp]
section LW
variable {X : aX} {G : aG} {cc : ByteArray} {nL d MC MS pc b L : Nat} {own : String} {lv : List (Nat × Value)} {st : List Value} {h : aH} {nx k n : Nat} {xv : Nat → Int32}
theorem ab_slen (C : aC X G cc nL d MC MS own) (hX : va_X b L xv (xs X) (xs X).heap) (hbl : b < (xs X).heap.size) (h3 : G.2.2.2 3 = b) (hd : decode cc pc = .ok (.arraylength, 1)) (kk : aV X G nL (pc + 1) lv (.int (nI L) :: st) h nx k n) : aV X G nL pc lv (.ref 3 :: st) h nx k n := by
  intro H locs ls P S c
  rw [List.map_cons, a_low4 (by omega), h3]
  have hA : ¬ a_low G b := fun z => by have := C.2.2.2.2.2.1.2.2.2.1 3 (by omega); rw [h3] at this; exact absurd z (Nat.not_le.mpr this)
  exact va_slen C.1 C.2.1 hX hbl hA S hd (kk H locs ls P S c)
theorem ab_sld (C : aC X G cc nL d MC MS own) (hX : va_X b L xv (xs X) (xs X).heap) (hbl : b < (xs X).heap.size) (h3 : G.2.2.2 3 = b) {i x : Int32} (j : Nat) (hi : i = nI j) (hj : j < L) (hL : L < 2 ^ 31) (hx : xv j = x) (hd : decode cc pc = .ok (.iaload, 1)) (kk : aV X G nL (pc + 1) lv (.int x :: st) h nx k n) : aV X G nL pc lv (.int i :: .ref 3 :: st) h nx k n := by
  intro H locs ls P S c
  rw [List.map_cons, List.map_cons, a_low4 (by omega), h3]
  have hA : ¬ a_low G b := fun z => by have := C.2.2.2.2.2.1.2.2.2.1 3 (by omega); rw [h3] at this; exact absurd z (Nat.not_le.mpr this)
  subst hi
  have e : xv (nI j).toNatClampNeg = x := by rw [nI_clamp (by omega)]; exact hx
  refine va_sld C.1 C.2.1 hX hbl hA S (vp_in_nI hj hL) hd ?_
  rw [e]
  exact kk H locs ls P S c
end LW
theorem wAt_m {h : aH} {nx : Nat} {c : CSt} {m : Rec} (hw : wAt h nx c m) : X9_at h 46 m := hw.2.2.2.2.2.2.2.2.2.2.2.2
theorem a_i6 (j k : Nat) : nI (6 * j) + nI k = nI (6 * j + k) := nI_add _ _
set_option maxRecDepth 100000 in
set_option maxHeartbeats 8000000 in
theorem law_loop {p : Program} {l : Launch} {e : Env} {s : State} {m0 : MethodId} {below : List Frame} {meth : Method} {c0 : Code} {G : aG} {b L : Nat} {xv : Nat → Int32} (hL : L ≤ 3072) (hr : meth.sig.returnType = ret) (hlocks : meth.locks = false) (hbl : b < s.heap.size) (hX : va_X b L xv s s.heap) (h3 : G.2.2.2 3 = b) (hlow : G.2.2.1 + 4 = s.heap.size)
    (C : aC (p, l, e, room_1, s, m0, #[Value.ref b], below, meth, c0, lw_Z below #[Value.ref b] s) G code 4 100 5000 40000 RL) :
    ∀ (n j : Nat) (c : CSt) (m : Rec) (h : aH) (nx : Nat), 513 ≤ j + n → j ≤ 512 → wAt h nx c m → Inv c m → aV (p, l, e, room_1, s, m0, #[Value.ref b], below, meth, c0, lw_Z below #[Value.ref b] s) G 4 18 [(0, .ref 3), (1, .ref 4), (2, .ref 46), (3, .int (nI (6 * j)))] [] h nx (62 + 8 * j) (3739 + 50 * j) := by
  generalize hXX : ((p, l, e, room_1, s, m0, #[Value.ref b], below, meth, c0, lw_Z below #[Value.ref b] s) : aX) = X at C ⊢
  have hX : va_X b L xv (xs X) (xs X).heap := by rw [← hXX]; exact hX
  have hbl : b < (xs X).heap.size := by rw [← hXX]; exact hbl
  intro n
  induction n with
  | zero => intro j c m h nx h1 h2; exact absurd h1 (by omega)
  | succ n ih =>
    intro j c m h nx hjn hj hw hI
    refine ab_iload_n C 3 rfl rfl dL_law_18 ?_
    refine ab_aload_n C 0 rfl rfl dL_law_19 ?_
    refine ab_slen C hX hbl h3 dL_law_20 ?_
    refine ab_bipush (v := nI 6) C dL_law_21 (by decide) ?_
    refine ab_isub C dL_law_23 ?_
    have hsub : (nI L - nI 6).toInt = (L : Int) - 6 := pk_sub_toInt (by omega) (by omega)
    have h6j : (nI (6 * j)).toInt = ((6 * j : Nat) : Int) := nI_toInt (by omega)
    refine ab_icmp_gt C 1312 dL_law_24 (by decide) (fun q => ?_) (fun q => ?_)
    · refine ab_iconst (v := (1 : Int32)) C dL_law_1312 (by decide) ?_
      intro H locs ls Pp S cl
      subst hXX
      refine va_forget (fun q hq => by have := S.2.2 q hq; show s.heap.size ≤ _; rw [← hlow]; exact this) ?_
      have rc : 5000 ≤ room_1.cells := Nat.le_of_ble_eq_true rfl
      have rs : 40000 ≤ room_1.slots := Nat.le_of_ble_eq_true rfl
      refine W.widen (k := room_1.cells) (n := room_1.slots) (by omega) (by omega) ?_
      exact lw_ret C.1 C.2.1 hr hlocks dL_law_1313
    · have hle : 6 * j + 6 ≤ L := by
        have := mt Int32.lt_iff_toInt_lt.mpr q
        rw [hsub, h6j] at this
        omega
      have hj1 : j + 1 ≤ 512 := by omega
      have J : ∀ (c : CSt) (m : Rec) (h : aH) (nx : Nat), wAt h nx c m → Inv c m → aV X G 4 1306 [(0, .ref 3), (1, .ref 4), (2, .ref 46), (3, .int (nI (6 * j)))] [] h nx (62 + 8 * (j + 1)) (3739 + 50 * (j + 1)) := by
        intro c m h nx hw hI
        refine ab_iinc (v := nI (6 * (j + 1))) (lv' := [(3, .int (nI (6 * (j + 1)))), (0, .ref 3), (1, .ref 4), (2, .ref 46)]) C 3 rfl dL_law_1306 (by rw [show 6 * (j + 1) = 6 * j + 6 by omega]; exact nI_add _ _) (by decide) rfl ?_
        refine ab_goto C 18 dL_law_1309 (by decide) ?_
        refine aV.sub (lv' := [(0, .ref 3), (1, .ref 4), (2, .ref 46), (3, .int (nI (6 * (j + 1))))]) [1, 2, 3, 0] rfl ?_
        exact ih (j + 1) c m h nx (by omega) hj1 hw hI
      refine ab_aload_n C 0 rfl rfl dL_law_27 ?_
      refine ab_iload_n C 3 rfl rfl dL_law_28 ?_
      refine ab_sld C hX hbl h3 (6 * j) rfl (by omega) (by omega) rfl dL_law_29 ?_
      refine ab_bipush (v := (31 : Int32)) C dL_law_30 (by decide) ?_
      refine ab_iand C dL_law_32 ?_
      refine ab_topi (fun z hz => ?_)
      obtain ⟨x1, hx1⟩ : ∃ x, xv (6 * j + 1) = x := ⟨_, rfl⟩
      obtain ⟨x2, hx2⟩ : ∃ x, xv (6 * j + 2) = x := ⟨_, rfl⟩
      obtain ⟨x3, hx3⟩ : ∃ x, xv (6 * j + 3) = x := ⟨_, rfl⟩
      obtain ⟨x4, hx4⟩ : ∃ x, xv (6 * j + 4) = x := ⟨_, rfl⟩
      obtain ⟨x5, hx5⟩ : ∃ x, xv (6 * j + 5) = x := ⟨_, rfl⟩
      rcases Classical.em (z = (0 : Int32)) with z0 | z0
      · refine ab_tableIn (off := 139) C 172 dL_law_33 (by rw [z0]; decide) (by rw [z0]; decide) (by rw [z0]; rfl) (by decide) ?_
        refine ab_aload_n C 1 rfl rfl dL_law_172 ?_
        refine ab_aload_n C 0 rfl rfl dL_law_173 ?_
        refine ab_iload_n C 3 rfl rfl dL_law_174 ?_
        refine ab_iconst (v := nI 1) C dL_law_175 (by decide) ?_
        refine ab_iadd C dL_law_176 ?_
        refine ab_sld C hX hbl h3 (6 * j + 1) (a_i6 j 1) (by omega) (by omega) hx1 dL_law_177 ?_
        obtain ⟨r, c1, m1, hc, hm, hI1⟩ := eq_feed hI x1
        refine ab_cV (st := []) C lm_L_13 (wC_feed (xl X) hw (r := (r, c1)) hc) [.int x1] rfl hw.1 rfl rfl rfl (by decide) ⟨by omega, by omega⟩ (Nat.le_of_ble_eq_true rfl) dL_law_178 (fun v h1 nx1 q1 => ?_)
        obtain ⟨rfl, hw1⟩ := q1
        show aV X G 4 181 [(0, .ref 3), (1, .ref 4), (2, .ref 46), (3, .int (nI (6 * j)))] [.int r] h1 nx1 (62 + 8 * j + 0) (3739 + 50 * j + 0)
        refine ab_aload_n C 2 rfl rfl dL_law_181 ?_
        refine ab_aload_n C 0 rfl rfl dL_law_182 ?_
        refine ab_iload_n C 3 rfl rfl dL_law_183 ?_
        refine ab_iconst (v := nI 1) C dL_law_184 (by decide) ?_
        refine ab_iadd C dL_law_185 ?_
        refine ab_sld C hX hbl h3 (6 * j + 1) (a_i6 j 1) (by omega) (by omega) hx1 dL_law_186 ?_
        refine ab_cV (st := [.int r]) C lm_L_17 (wM_feed (xl X) hw1 (r := (r, m1)) hm) [.int x1] rfl (wAt_m hw1).1 rfl rfl rfl (by decide) ⟨by omega, by omega⟩ (Nat.le_of_ble_eq_true rfl) dL_law_187 (fun v h2 nx2 q2 => ?_)
        obtain ⟨rfl, rfl, hw2⟩ := q2
        show aV X G 4 190 [(0, .ref 3), (1, .ref 4), (2, .ref 46), (3, .int (nI (6 * j)))] [.int r, .int r] h2 nx2 (62 + 8 * j + 0) (3739 + 50 * j + 0)
        refine ab_icmp_eq C 1306 dL_law_190 (by decide) (fun _ => ?_) (fun q => absurd rfl q)
        refine aV.widen (k' := 62 + 8 * (j + 1)) (n' := 3739 + 50 * (j + 1)) (by omega) (by omega) ?_
        exact J c1 m1 h2 nx2 hw2 hI1
      rcases Classical.em (z = (1 : Int32)) with z1 | z1
      · refine ab_tableIn (off := 162) C 195 dL_law_33 (by rw [z1]; decide) (by rw [z1]; decide) (by rw [z1]; rfl) (by decide) ?_
        refine ab_aload_n C 1 rfl rfl dL_law_195 ?_
        obtain ⟨r, c1, m1, hc, hm, hI1⟩ := eq_land hI
        refine ab_cV (st := []) C lm_L_18 (wC_land (xl X) hw (r := (r, c1)) hc) [] rfl hw.1 rfl rfl rfl (by decide) ⟨by omega, by omega⟩ (Nat.le_of_ble_eq_true rfl) dL_law_196 (fun v h1 nx1 q1 => ?_)
        obtain ⟨rfl, hw1⟩ := q1
        show aV X G 4 199 [(0, .ref 3), (1, .ref 4), (2, .ref 46), (3, .int (nI (6 * j)))] [.int r] h1 nx1 (62 + 8 * j + 0) (3739 + 50 * j + 0)
        refine ab_aload_n C 2 rfl rfl dL_law_199 ?_
        refine ab_cV (st := [.int r]) C lm_L_22 (wM_land (xl X) hw1 (r := (r, m1)) hm) [] rfl (wAt_m hw1).1 rfl rfl rfl (by decide) ⟨by omega, by omega⟩ (Nat.le_of_ble_eq_true rfl) dL_law_200 (fun v h2 nx2 q2 => ?_)
        obtain ⟨rfl, rfl, hw2⟩ := q2
        show aV X G 4 203 [(0, .ref 3), (1, .ref 4), (2, .ref 46), (3, .int (nI (6 * j)))] [.int r, .int r] h2 nx2 (62 + 8 * j + 0) (3739 + 50 * j + 0)
        refine ab_icmp_eq C 1306 dL_law_203 (by decide) (fun _ => ?_) (fun q => absurd rfl q)
        refine aV.widen (k' := 62 + 8 * (j + 1)) (n' := 3739 + 50 * (j + 1)) (by omega) (by omega) ?_
        exact J c1 m1 h2 nx2 hw2 hI1
      rcases Classical.em (z = (2 : Int32)) with z2 | z2
      · refine ab_tableIn (off := 175) C 208 dL_law_33 (by rw [z2]; decide) (by rw [z2]; decide) (by rw [z2]; rfl) (by decide) ?_
        refine ab_aload_n C 1 rfl rfl dL_law_208 ?_
        refine ab_aload_n C 0 rfl rfl dL_law_209 ?_
        refine ab_iload_n C 3 rfl rfl dL_law_210 ?_
        refine ab_iconst (v := nI 1) C dL_law_211 (by decide) ?_
        refine ab_iadd C dL_law_212 ?_
        refine ab_sld C hX hbl h3 (6 * j + 1) (a_i6 j 1) (by omega) (by omega) hx1 dL_law_213 ?_
        refine ab_aload_n C 0 rfl rfl dL_law_214 ?_
        refine ab_iload_n C 3 rfl rfl dL_law_215 ?_
        refine ab_iconst (v := nI 2) C dL_law_216 (by decide) ?_
        refine ab_iadd C dL_law_217 ?_
        refine ab_sld C hX hbl h3 (6 * j + 2) (a_i6 j 2) (by omega) (by omega) hx2 dL_law_218 ?_
        obtain ⟨r, c1, m1, hc, hm, hI1⟩ := eq_holder hI x1 x2
        refine ab_cV (st := []) C lm_L_23 (wC_holder (xl X) hw (r := (r, c1)) hc) [.int x1, .int x2] rfl hw.1 rfl rfl rfl (by decide) ⟨by omega, by omega⟩ (Nat.le_of_ble_eq_true rfl) dL_law_219 (fun v h1 nx1 q1 => ?_)
        obtain ⟨rfl, hw1⟩ := q1
        show aV X G 4 222 [(0, .ref 3), (1, .ref 4), (2, .ref 46), (3, .int (nI (6 * j)))] [.int r] h1 nx1 (62 + 8 * j + 0) (3739 + 50 * j + 0)
        refine ab_aload_n C 2 rfl rfl dL_law_222 ?_
        refine ab_aload_n C 0 rfl rfl dL_law_223 ?_
        refine ab_iload_n C 3 rfl rfl dL_law_224 ?_
        refine ab_iconst (v := nI 1) C dL_law_225 (by decide) ?_
        refine ab_iadd C dL_law_226 ?_
        refine ab_sld C hX hbl h3 (6 * j + 1) (a_i6 j 1) (by omega) (by omega) hx1 dL_law_227 ?_
        refine ab_aload_n C 0 rfl rfl dL_law_228 ?_
        refine ab_iload_n C 3 rfl rfl dL_law_229 ?_
        refine ab_iconst (v := nI 2) C dL_law_230 (by decide) ?_
        refine ab_iadd C dL_law_231 ?_
        refine ab_sld C hX hbl h3 (6 * j + 2) (a_i6 j 2) (by omega) (by omega) hx2 dL_law_232 ?_
        refine ab_cV (st := [.int r]) C lm_L_27 (wM_holder (xl X) hw1 (r := (r, m1)) hm) [.int x1, .int x2] rfl (wAt_m hw1).1 rfl rfl rfl (by decide) ⟨by omega, by omega⟩ (Nat.le_of_ble_eq_true rfl) dL_law_233 (fun v h2 nx2 q2 => ?_)
        obtain ⟨rfl, rfl, hw2⟩ := q2
        show aV X G 4 236 [(0, .ref 3), (1, .ref 4), (2, .ref 46), (3, .int (nI (6 * j)))] [.int r, .int r] h2 nx2 (62 + 8 * j + 0) (3739 + 50 * j + 0)
        refine ab_icmp_eq C 1306 dL_law_236 (by decide) (fun _ => ?_) (fun q => absurd rfl q)
        refine aV.widen (k' := 62 + 8 * (j + 1)) (n' := 3739 + 50 * (j + 1)) (by omega) (by omega) ?_
        exact J c1 m1 h2 nx2 hw2 hI1
      rcases Classical.em (z = (3 : Int32)) with z3 | z3
      · refine ab_tableIn (off := 208) C 241 dL_law_33 (by rw [z3]; decide) (by rw [z3]; decide) (by rw [z3]; rfl) (by decide) ?_
        refine ab_aload_n C 1 rfl rfl dL_law_241 ?_
        refine ab_aload_n C 0 rfl rfl dL_law_242 ?_
        refine ab_iload_n C 3 rfl rfl dL_law_243 ?_
        refine ab_iconst (v := nI 1) C dL_law_244 (by decide) ?_
        refine ab_iadd C dL_law_245 ?_
        refine ab_sld C hX hbl h3 (6 * j + 1) (a_i6 j 1) (by omega) (by omega) hx1 dL_law_246 ?_
        refine ab_aload_n C 0 rfl rfl dL_law_247 ?_
        refine ab_iload_n C 3 rfl rfl dL_law_248 ?_
        refine ab_iconst (v := nI 2) C dL_law_249 (by decide) ?_
        refine ab_iadd C dL_law_250 ?_
        refine ab_sld C hX hbl h3 (6 * j + 2) (a_i6 j 2) (by omega) (by omega) hx2 dL_law_251 ?_
        obtain ⟨r, c1, m1, hc, hm, hI1⟩ := eq_cell hI x1 x2
        refine ab_cV (st := []) C lm_L_28 (wC_cell (xl X) hw (r := (r, c1)) hc) [.int x1, .int x2] rfl hw.1 rfl rfl rfl (by decide) ⟨by omega, by omega⟩ (Nat.le_of_ble_eq_true rfl) dL_law_252 (fun v h1 nx1 q1 => ?_)
        obtain ⟨rfl, hw1⟩ := q1
        show aV X G 4 255 [(0, .ref 3), (1, .ref 4), (2, .ref 46), (3, .int (nI (6 * j)))] [.int r] h1 nx1 (62 + 8 * j + 0) (3739 + 50 * j + 0)
        refine ab_aload_n C 2 rfl rfl dL_law_255 ?_
        refine ab_aload_n C 0 rfl rfl dL_law_256 ?_
        refine ab_iload_n C 3 rfl rfl dL_law_257 ?_
        refine ab_iconst (v := nI 1) C dL_law_258 (by decide) ?_
        refine ab_iadd C dL_law_259 ?_
        refine ab_sld C hX hbl h3 (6 * j + 1) (a_i6 j 1) (by omega) (by omega) hx1 dL_law_260 ?_
        refine ab_aload_n C 0 rfl rfl dL_law_261 ?_
        refine ab_iload_n C 3 rfl rfl dL_law_262 ?_
        refine ab_iconst (v := nI 2) C dL_law_263 (by decide) ?_
        refine ab_iadd C dL_law_264 ?_
        refine ab_sld C hX hbl h3 (6 * j + 2) (a_i6 j 2) (by omega) (by omega) hx2 dL_law_265 ?_
        refine ab_cV (st := [.int r]) C lm_L_31 (wM_cell (xl X) hw1 (r := (r, m1)) hm) [.int x1, .int x2] rfl (wAt_m hw1).1 rfl rfl rfl (by decide) ⟨by omega, by omega⟩ (Nat.le_of_ble_eq_true rfl) dL_law_266 (fun v h2 nx2 q2 => ?_)
        obtain ⟨rfl, rfl, hw2⟩ := q2
        show aV X G 4 269 [(0, .ref 3), (1, .ref 4), (2, .ref 46), (3, .int (nI (6 * j)))] [.int r, .int r] h2 nx2 (62 + 8 * j + 0) (3739 + 50 * j + 0)
        refine ab_icmp_eq C 1306 dL_law_269 (by decide) (fun _ => ?_) (fun q => absurd rfl q)
        refine aV.widen (k' := 62 + 8 * (j + 1)) (n' := 3739 + 50 * (j + 1)) (by omega) (by omega) ?_
        exact J c1 m1 h2 nx2 hw2 hI1
      rcases Classical.em (z = (4 : Int32)) with z4 | z4
      · refine ab_tableIn (off := 241) C 274 dL_law_33 (by rw [z4]; decide) (by rw [z4]; decide) (by rw [z4]; rfl) (by decide) ?_
        refine ab_aload_n C 1 rfl rfl dL_law_274 ?_
        refine ab_aload_n C 0 rfl rfl dL_law_275 ?_
        refine ab_iload_n C 3 rfl rfl dL_law_276 ?_
        refine ab_iconst (v := nI 1) C dL_law_277 (by decide) ?_
        refine ab_iadd C dL_law_278 ?_
        refine ab_sld C hX hbl h3 (6 * j + 1) (a_i6 j 1) (by omega) (by omega) hx1 dL_law_279 ?_
        refine ab_aload_n C 0 rfl rfl dL_law_280 ?_
        refine ab_iload_n C 3 rfl rfl dL_law_281 ?_
        refine ab_iconst (v := nI 2) C dL_law_282 (by decide) ?_
        refine ab_iadd C dL_law_283 ?_
        refine ab_sld C hX hbl h3 (6 * j + 2) (a_i6 j 2) (by omega) (by omega) hx2 dL_law_284 ?_
        obtain ⟨r, c1, m1, hc, hm, hI1⟩ := eq_word hI x1 x2
        refine ab_cV (st := []) C lm_L_32 (wC_word (xl X) hw (r := (r, c1)) hc) [.int x1, .int x2] rfl hw.1 rfl rfl rfl (by decide) ⟨by omega, by omega⟩ (Nat.le_of_ble_eq_true rfl) dL_law_285 (fun v h1 nx1 q1 => ?_)
        obtain ⟨rfl, hw1⟩ := q1
        show aV X G 4 288 [(0, .ref 3), (1, .ref 4), (2, .ref 46), (3, .int (nI (6 * j)))] [.int r] h1 nx1 (62 + 8 * j + 0) (3739 + 50 * j + 0)
        refine ab_aload_n C 2 rfl rfl dL_law_288 ?_
        refine ab_aload_n C 0 rfl rfl dL_law_289 ?_
        refine ab_iload_n C 3 rfl rfl dL_law_290 ?_
        refine ab_iconst (v := nI 1) C dL_law_291 (by decide) ?_
        refine ab_iadd C dL_law_292 ?_
        refine ab_sld C hX hbl h3 (6 * j + 1) (a_i6 j 1) (by omega) (by omega) hx1 dL_law_293 ?_
        refine ab_aload_n C 0 rfl rfl dL_law_294 ?_
        refine ab_iload_n C 3 rfl rfl dL_law_295 ?_
        refine ab_iconst (v := nI 2) C dL_law_296 (by decide) ?_
        refine ab_iadd C dL_law_297 ?_
        refine ab_sld C hX hbl h3 (6 * j + 2) (a_i6 j 2) (by omega) (by omega) hx2 dL_law_298 ?_
        refine ab_cV (st := [.int r]) C lm_L_35 (wM_word (xl X) hw1 (r := (r, m1)) hm) [.int x1, .int x2] rfl (wAt_m hw1).1 rfl rfl rfl (by decide) ⟨by omega, by omega⟩ (Nat.le_of_ble_eq_true rfl) dL_law_299 (fun v h2 nx2 q2 => ?_)
        obtain ⟨rfl, rfl, hw2⟩ := q2
        show aV X G 4 302 [(0, .ref 3), (1, .ref 4), (2, .ref 46), (3, .int (nI (6 * j)))] [.int r, .int r] h2 nx2 (62 + 8 * j + 0) (3739 + 50 * j + 0)
        refine ab_icmp_eq C 1306 dL_law_302 (by decide) (fun _ => ?_) (fun q => absurd rfl q)
        refine aV.widen (k' := 62 + 8 * (j + 1)) (n' := 3739 + 50 * (j + 1)) (by omega) (by omega) ?_
        exact J c1 m1 h2 nx2 hw2 hI1
      rcases Classical.em (z = (5 : Int32)) with z5 | z5
      · refine ab_tableIn (off := 274) C 307 dL_law_33 (by rw [z5]; decide) (by rw [z5]; decide) (by rw [z5]; rfl) (by decide) ?_
        refine ab_aload_n C 1 rfl rfl dL_law_307 ?_
        refine ab_aload_n C 0 rfl rfl dL_law_308 ?_
        refine ab_iload_n C 3 rfl rfl dL_law_309 ?_
        refine ab_iconst (v := nI 1) C dL_law_310 (by decide) ?_
        refine ab_iadd C dL_law_311 ?_
        refine ab_sld C hX hbl h3 (6 * j + 1) (a_i6 j 1) (by omega) (by omega) hx1 dL_law_312 ?_
        refine ab_aload_n C 0 rfl rfl dL_law_313 ?_
        refine ab_iload_n C 3 rfl rfl dL_law_314 ?_
        refine ab_iconst (v := nI 2) C dL_law_315 (by decide) ?_
        refine ab_iadd C dL_law_316 ?_
        refine ab_sld C hX hbl h3 (6 * j + 2) (a_i6 j 2) (by omega) (by omega) hx2 dL_law_317 ?_
        obtain ⟨r, c1, m1, hc, hm, hI1⟩ := eq_as hI x1 x2
        refine ab_cV (st := []) C lm_L_36 (wC_as (xl X) hw (r := (r, c1)) hc) [.int x1, .int x2] rfl hw.1 rfl rfl rfl (by decide) ⟨by omega, by omega⟩ (Nat.le_of_ble_eq_true rfl) dL_law_318 (fun v h1 nx1 q1 => ?_)
        obtain ⟨rfl, hw1⟩ := q1
        show aV X G 4 321 [(0, .ref 3), (1, .ref 4), (2, .ref 46), (3, .int (nI (6 * j)))] [.int r] h1 nx1 (62 + 8 * j + 0) (3739 + 50 * j + 0)
        refine ab_aload_n C 2 rfl rfl dL_law_321 ?_
        refine ab_aload_n C 0 rfl rfl dL_law_322 ?_
        refine ab_iload_n C 3 rfl rfl dL_law_323 ?_
        refine ab_iconst (v := nI 1) C dL_law_324 (by decide) ?_
        refine ab_iadd C dL_law_325 ?_
        refine ab_sld C hX hbl h3 (6 * j + 1) (a_i6 j 1) (by omega) (by omega) hx1 dL_law_326 ?_
        refine ab_aload_n C 0 rfl rfl dL_law_327 ?_
        refine ab_iload_n C 3 rfl rfl dL_law_328 ?_
        refine ab_iconst (v := nI 2) C dL_law_329 (by decide) ?_
        refine ab_iadd C dL_law_330 ?_
        refine ab_sld C hX hbl h3 (6 * j + 2) (a_i6 j 2) (by omega) (by omega) hx2 dL_law_331 ?_
        refine ab_cV (st := [.int r]) C lm_L_39 (wM_as (xl X) hw1 (r := (r, m1)) hm) [.int x1, .int x2] rfl (wAt_m hw1).1 rfl rfl rfl (by decide) ⟨by omega, by omega⟩ (Nat.le_of_ble_eq_true rfl) dL_law_332 (fun v h2 nx2 q2 => ?_)
        obtain ⟨rfl, rfl, hw2⟩ := q2
        show aV X G 4 335 [(0, .ref 3), (1, .ref 4), (2, .ref 46), (3, .int (nI (6 * j)))] [.int r, .int r] h2 nx2 (62 + 8 * j + 0) (3739 + 50 * j + 0)
        refine ab_icmp_eq C 1306 dL_law_335 (by decide) (fun _ => ?_) (fun q => absurd rfl q)
        refine aV.widen (k' := 62 + 8 * (j + 1)) (n' := 3739 + 50 * (j + 1)) (by omega) (by omega) ?_
        exact J c1 m1 h2 nx2 hw2 hI1
      rcases Classical.em (z = (6 : Int32)) with z6 | z6
      · refine ab_tableIn (off := 307) C 340 dL_law_33 (by rw [z6]; decide) (by rw [z6]; decide) (by rw [z6]; rfl) (by decide) ?_
        refine ab_aload_n C 1 rfl rfl dL_law_340 ?_
        refine ab_aload_n C 0 rfl rfl dL_law_341 ?_
        refine ab_iload_n C 3 rfl rfl dL_law_342 ?_
        refine ab_iconst (v := nI 1) C dL_law_343 (by decide) ?_
        refine ab_iadd C dL_law_344 ?_
        refine ab_sld C hX hbl h3 (6 * j + 1) (a_i6 j 1) (by omega) (by omega) hx1 dL_law_345 ?_
        refine ab_aload_n C 0 rfl rfl dL_law_346 ?_
        refine ab_iload_n C 3 rfl rfl dL_law_347 ?_
        refine ab_iconst (v := nI 2) C dL_law_348 (by decide) ?_
        refine ab_iadd C dL_law_349 ?_
        refine ab_sld C hX hbl h3 (6 * j + 2) (a_i6 j 2) (by omega) (by omega) hx2 dL_law_350 ?_
        obtain ⟨r, c1, m1, hc, hm, hI1⟩ := eq_sell hI x1 x2
        refine ab_cV (st := []) C lm_L_40 (wC_sell (xl X) hw (r := (r, c1)) hc) [.int x1, .int x2] rfl hw.1 rfl rfl rfl (by decide) ⟨by omega, by omega⟩ (Nat.le_of_ble_eq_true rfl) dL_law_351 (fun v h1 nx1 q1 => ?_)
        obtain ⟨rfl, hw1⟩ := q1
        show aV X G 4 354 [(0, .ref 3), (1, .ref 4), (2, .ref 46), (3, .int (nI (6 * j)))] [.int r] h1 nx1 (62 + 8 * j + 8) (3739 + 50 * j + 50)
        refine ab_aload_n C 2 rfl rfl dL_law_354 ?_
        refine ab_aload_n C 0 rfl rfl dL_law_355 ?_
        refine ab_iload_n C 3 rfl rfl dL_law_356 ?_
        refine ab_iconst (v := nI 1) C dL_law_357 (by decide) ?_
        refine ab_iadd C dL_law_358 ?_
        refine ab_sld C hX hbl h3 (6 * j + 1) (a_i6 j 1) (by omega) (by omega) hx1 dL_law_359 ?_
        refine ab_aload_n C 0 rfl rfl dL_law_360 ?_
        refine ab_iload_n C 3 rfl rfl dL_law_361 ?_
        refine ab_iconst (v := nI 2) C dL_law_362 (by decide) ?_
        refine ab_iadd C dL_law_363 ?_
        refine ab_sld C hX hbl h3 (6 * j + 2) (a_i6 j 2) (by omega) (by omega) hx2 dL_law_364 ?_
        refine ab_cV (st := [.int r]) C lm_L_43 (wM_sell (xl X) hw1 (r := (r, m1)) hm) [.int x1, .int x2] rfl (wAt_m hw1).1 rfl rfl rfl (by decide) ⟨by omega, by omega⟩ (Nat.le_of_ble_eq_true rfl) dL_law_365 (fun v h2 nx2 q2 => ?_)
        obtain ⟨rfl, rfl, hw2⟩ := q2
        show aV X G 4 368 [(0, .ref 3), (1, .ref 4), (2, .ref 46), (3, .int (nI (6 * j)))] [.int r, .int r] h2 nx2 (62 + 8 * j + 8) (3739 + 50 * j + 50)
        refine ab_icmp_eq C 1306 dL_law_368 (by decide) (fun _ => ?_) (fun q => absurd rfl q)
        refine aV.widen (k' := 62 + 8 * (j + 1)) (n' := 3739 + 50 * (j + 1)) (by omega) (by omega) ?_
        exact J c1 m1 h2 nx2 hw2 hI1
      rcases Classical.em (z = (7 : Int32)) with z7 | z7
      · refine ab_tableIn (off := 340) C 373 dL_law_33 (by rw [z7]; decide) (by rw [z7]; decide) (by rw [z7]; rfl) (by decide) ?_
        refine ab_aload_n C 1 rfl rfl dL_law_373 ?_
        refine ab_aload_n C 0 rfl rfl dL_law_374 ?_
        refine ab_iload_n C 3 rfl rfl dL_law_375 ?_
        refine ab_iconst (v := nI 1) C dL_law_376 (by decide) ?_
        refine ab_iadd C dL_law_377 ?_
        refine ab_sld C hX hbl h3 (6 * j + 1) (a_i6 j 1) (by omega) (by omega) hx1 dL_law_378 ?_
        refine ab_aload_n C 0 rfl rfl dL_law_379 ?_
        refine ab_iload_n C 3 rfl rfl dL_law_380 ?_
        refine ab_iconst (v := nI 2) C dL_law_381 (by decide) ?_
        refine ab_iadd C dL_law_382 ?_
        refine ab_sld C hX hbl h3 (6 * j + 2) (a_i6 j 2) (by omega) (by omega) hx2 dL_law_383 ?_
        obtain ⟨r, c1, m1, hc, hm, hI1⟩ := eq_plough hI x1 x2
        refine ab_cV (st := []) C lm_L_44 (wC_plough (xl X) hw (r := (r, c1)) hc) [.int x1, .int x2] rfl hw.1 rfl rfl rfl (by decide) ⟨by omega, by omega⟩ (Nat.le_of_ble_eq_true rfl) dL_law_384 (fun v h1 nx1 q1 => ?_)
        obtain ⟨rfl, hw1⟩ := q1
        show aV X G 4 387 [(0, .ref 3), (1, .ref 4), (2, .ref 46), (3, .int (nI (6 * j)))] [.int r] h1 nx1 (62 + 8 * j + 8) (3739 + 50 * j + 50)
        refine ab_aload_n C 2 rfl rfl dL_law_387 ?_
        refine ab_aload_n C 0 rfl rfl dL_law_388 ?_
        refine ab_iload_n C 3 rfl rfl dL_law_389 ?_
        refine ab_iconst (v := nI 1) C dL_law_390 (by decide) ?_
        refine ab_iadd C dL_law_391 ?_
        refine ab_sld C hX hbl h3 (6 * j + 1) (a_i6 j 1) (by omega) (by omega) hx1 dL_law_392 ?_
        refine ab_aload_n C 0 rfl rfl dL_law_393 ?_
        refine ab_iload_n C 3 rfl rfl dL_law_394 ?_
        refine ab_iconst (v := nI 2) C dL_law_395 (by decide) ?_
        refine ab_iadd C dL_law_396 ?_
        refine ab_sld C hX hbl h3 (6 * j + 2) (a_i6 j 2) (by omega) (by omega) hx2 dL_law_397 ?_
        refine ab_cV (st := [.int r]) C lm_L_47 (wM_plough (xl X) hw1 (r := (r, m1)) hm) [.int x1, .int x2] rfl (wAt_m hw1).1 rfl rfl rfl (by decide) ⟨by omega, by omega⟩ (Nat.le_of_ble_eq_true rfl) dL_law_398 (fun v h2 nx2 q2 => ?_)
        obtain ⟨rfl, rfl, hw2⟩ := q2
        show aV X G 4 401 [(0, .ref 3), (1, .ref 4), (2, .ref 46), (3, .int (nI (6 * j)))] [.int r, .int r] h2 nx2 (62 + 8 * j + 8) (3739 + 50 * j + 50)
        refine ab_icmp_eq C 1306 dL_law_401 (by decide) (fun _ => ?_) (fun q => absurd rfl q)
        refine aV.widen (k' := 62 + 8 * (j + 1)) (n' := 3739 + 50 * (j + 1)) (by omega) (by omega) ?_
        exact J c1 m1 h2 nx2 hw2 hI1
      rcases Classical.em (z = (8 : Int32)) with z8 | z8
      · refine ab_tableIn (off := 373) C 406 dL_law_33 (by rw [z8]; decide) (by rw [z8]; decide) (by rw [z8]; rfl) (by decide) ?_
        refine ab_aload_n C 1 rfl rfl dL_law_406 ?_
        obtain ⟨r, c1, m1, hc, hm, hI1⟩ := eq_year hI
        refine ab_cV (st := []) C lm_L_48 (wC_year (xl X) hw (r := (r, c1)) hc) [] rfl hw.1 rfl rfl rfl (by decide) ⟨by omega, by omega⟩ (Nat.le_of_ble_eq_true rfl) dL_law_407 (fun v h1 nx1 q1 => ?_)
        obtain ⟨rfl, hw1⟩ := q1
        show aV X G 4 410 [(0, .ref 3), (1, .ref 4), (2, .ref 46), (3, .int (nI (6 * j)))] [.int r] h1 nx1 (62 + 8 * j + 8) (3739 + 50 * j + 50)
        refine ab_aload_n C 2 rfl rfl dL_law_410 ?_
        refine ab_cV (st := [.int r]) C lm_L_51 (wM_year (xl X) hw1 (r := (r, m1)) hm) [] rfl (wAt_m hw1).1 rfl rfl rfl (by decide) ⟨by omega, by omega⟩ (Nat.le_of_ble_eq_true rfl) dL_law_411 (fun v h2 nx2 q2 => ?_)
        obtain ⟨rfl, rfl, hw2⟩ := q2
        show aV X G 4 414 [(0, .ref 3), (1, .ref 4), (2, .ref 46), (3, .int (nI (6 * j)))] [.int r, .int r] h2 nx2 (62 + 8 * j + 8) (3739 + 50 * j + 50)
        refine ab_icmp_eq C 1306 dL_law_414 (by decide) (fun _ => ?_) (fun q => absurd rfl q)
        refine aV.widen (k' := 62 + 8 * (j + 1)) (n' := 3739 + 50 * (j + 1)) (by omega) (by omega) ?_
        exact J c1 m1 h2 nx2 hw2 hI1
      rcases Classical.em (z = (9 : Int32)) with z9 | z9
      · refine ab_tableIn (off := 386) C 419 dL_law_33 (by rw [z9]; decide) (by rw [z9]; decide) (by rw [z9]; rfl) (by decide) ?_
        refine ab_aload_n C 1 rfl rfl dL_law_419 ?_
        obtain ⟨r, c1, m1, hc, hm, hI1⟩ := eq_undo hI
        refine ab_cV (st := []) C lm_L_52 (wC_undo (xl X) hw (r := (r, c1)) hc) [] rfl hw.1 rfl rfl rfl (by decide) ⟨by omega, by omega⟩ (Nat.le_of_ble_eq_true rfl) dL_law_420 (fun v h1 nx1 q1 => ?_)
        obtain ⟨rfl, hw1⟩ := q1
        show aV X G 4 423 [(0, .ref 3), (1, .ref 4), (2, .ref 46), (3, .int (nI (6 * j)))] [.int r] h1 nx1 (62 + 8 * j + 0) (3739 + 50 * j + 0)
        refine ab_aload_n C 2 rfl rfl dL_law_423 ?_
        refine ab_cV (st := [.int r]) C lm_L_55 (wM_undo (xl X) hw1 (r := (r, m1)) hm) [] rfl (wAt_m hw1).1 rfl rfl rfl (by decide) ⟨by omega, by omega⟩ (Nat.le_of_ble_eq_true rfl) dL_law_424 (fun v h2 nx2 q2 => ?_)
        obtain ⟨rfl, rfl, hw2⟩ := q2
        show aV X G 4 427 [(0, .ref 3), (1, .ref 4), (2, .ref 46), (3, .int (nI (6 * j)))] [.int r, .int r] h2 nx2 (62 + 8 * j + 0) (3739 + 50 * j + 0)
        refine ab_icmp_eq C 1306 dL_law_427 (by decide) (fun _ => ?_) (fun q => absurd rfl q)
        refine aV.widen (k' := 62 + 8 * (j + 1)) (n' := 3739 + 50 * (j + 1)) (by omega) (by omega) ?_
        exact J c1 m1 h2 nx2 hw2 hI1
      rcases Classical.em (z = (10 : Int32)) with z10 | z10
      · refine ab_tableIn (off := 399) C 432 dL_law_33 (by rw [z10]; decide) (by rw [z10]; decide) (by rw [z10]; rfl) (by decide) ?_
        refine ab_aload_n C 1 rfl rfl dL_law_432 ?_
        refine ab_aload_n C 0 rfl rfl dL_law_433 ?_
        refine ab_iload_n C 3 rfl rfl dL_law_434 ?_
        refine ab_iconst (v := nI 1) C dL_law_435 (by decide) ?_
        refine ab_iadd C dL_law_436 ?_
        refine ab_sld C hX hbl h3 (6 * j + 1) (a_i6 j 1) (by omega) (by omega) hx1 dL_law_437 ?_
        obtain ⟨r, c1, m1, hc, hm, hI1⟩ := eq_image hI x1
        refine ab_cV (st := []) C lm_L_56 (wC_image (xl X) hw (r := (r, c1)) hc) [.int x1] rfl hw.1 rfl rfl rfl (by decide) ⟨by omega, by omega⟩ (Nat.le_of_ble_eq_true rfl) dL_law_438 (fun v h1 nx1 q1 => ?_)
        obtain ⟨rfl, hw1⟩ := q1
        show aV X G 4 441 [(0, .ref 3), (1, .ref 4), (2, .ref 46), (3, .int (nI (6 * j)))] [.int r] h1 nx1 (62 + 8 * j + 8) (3739 + 50 * j + 50)
        refine ab_aload_n C 2 rfl rfl dL_law_441 ?_
        refine ab_aload_n C 0 rfl rfl dL_law_442 ?_
        refine ab_iload_n C 3 rfl rfl dL_law_443 ?_
        refine ab_iconst (v := nI 1) C dL_law_444 (by decide) ?_
        refine ab_iadd C dL_law_445 ?_
        refine ab_sld C hX hbl h3 (6 * j + 1) (a_i6 j 1) (by omega) (by omega) hx1 dL_law_446 ?_
        refine ab_cV (st := [.int r]) C lm_L_59 (wM_image (xl X) hw1 (r := (r, m1)) hm) [.int x1] rfl (wAt_m hw1).1 rfl rfl rfl (by decide) ⟨by omega, by omega⟩ (Nat.le_of_ble_eq_true rfl) dL_law_447 (fun v h2 nx2 q2 => ?_)
        obtain ⟨rfl, rfl, hw2⟩ := q2
        show aV X G 4 450 [(0, .ref 3), (1, .ref 4), (2, .ref 46), (3, .int (nI (6 * j)))] [.int r, .int r] h2 nx2 (62 + 8 * j + 8) (3739 + 50 * j + 50)
        refine ab_icmp_eq C 1306 dL_law_450 (by decide) (fun _ => ?_) (fun q => absurd rfl q)
        refine aV.widen (k' := 62 + 8 * (j + 1)) (n' := 3739 + 50 * (j + 1)) (by omega) (by omega) ?_
        exact J c1 m1 h2 nx2 hw2 hI1
      rcases Classical.em (z = (11 : Int32)) with z11 | z11
      · refine ab_tableIn (off := 422) C 455 dL_law_33 (by rw [z11]; decide) (by rw [z11]; decide) (by rw [z11]; rfl) (by decide) ?_
        refine ab_aload_n C 1 rfl rfl dL_law_455 ?_
        refine ab_aload_n C 0 rfl rfl dL_law_456 ?_
        refine ab_iload_n C 3 rfl rfl dL_law_457 ?_
        refine ab_iconst (v := nI 1) C dL_law_458 (by decide) ?_
        refine ab_iadd C dL_law_459 ?_
        refine ab_sld C hX hbl h3 (6 * j + 1) (a_i6 j 1) (by omega) (by omega) hx1 dL_law_460 ?_
        obtain ⟨r, c1, m1, hc, hm, hI1⟩ := eq_restore hI x1
        refine ab_cV (st := []) C lm_L_60 (wC_restore (xl X) hw (r := (r, c1)) hc) [.int x1] rfl hw.1 rfl rfl rfl (by decide) ⟨by omega, by omega⟩ (Nat.le_of_ble_eq_true rfl) dL_law_461 (fun v h1 nx1 q1 => ?_)
        obtain ⟨rfl, hw1⟩ := q1
        show aV X G 4 464 [(0, .ref 3), (1, .ref 4), (2, .ref 46), (3, .int (nI (6 * j)))] [.int r] h1 nx1 (62 + 8 * j + 0) (3739 + 50 * j + 0)
        refine ab_aload_n C 2 rfl rfl dL_law_464 ?_
        refine ab_aload_n C 0 rfl rfl dL_law_465 ?_
        refine ab_iload_n C 3 rfl rfl dL_law_466 ?_
        refine ab_iconst (v := nI 1) C dL_law_467 (by decide) ?_
        refine ab_iadd C dL_law_468 ?_
        refine ab_sld C hX hbl h3 (6 * j + 1) (a_i6 j 1) (by omega) (by omega) hx1 dL_law_469 ?_
        refine ab_cV (st := [.int r]) C lm_L_63 (wM_restore (xl X) hw1 (r := (r, m1)) hm) [.int x1] rfl (wAt_m hw1).1 rfl rfl rfl (by decide) ⟨by omega, by omega⟩ (Nat.le_of_ble_eq_true rfl) dL_law_470 (fun v h2 nx2 q2 => ?_)
        obtain ⟨rfl, rfl, hw2⟩ := q2
        show aV X G 4 473 [(0, .ref 3), (1, .ref 4), (2, .ref 46), (3, .int (nI (6 * j)))] [.int r, .int r] h2 nx2 (62 + 8 * j + 0) (3739 + 50 * j + 0)
        refine ab_icmp_eq C 1306 dL_law_473 (by decide) (fun _ => ?_) (fun q => absurd rfl q)
        refine aV.widen (k' := 62 + 8 * (j + 1)) (n' := 3739 + 50 * (j + 1)) (by omega) (by omega) ?_
        exact J c1 m1 h2 nx2 hw2 hI1
      rcases Classical.em (z = (12 : Int32)) with z12 | z12
      · refine ab_tableIn (off := 445) C 478 dL_law_33 (by rw [z12]; decide) (by rw [z12]; decide) (by rw [z12]; rfl) (by decide) ?_
        refine ab_aload_n C 1 rfl rfl dL_law_478 ?_
        refine ab_aload_n C 0 rfl rfl dL_law_479 ?_
        refine ab_iload_n C 3 rfl rfl dL_law_480 ?_
        refine ab_iconst (v := nI 1) C dL_law_481 (by decide) ?_
        refine ab_iadd C dL_law_482 ?_
        refine ab_sld C hX hbl h3 (6 * j + 1) (a_i6 j 1) (by omega) (by omega) hx1 dL_law_483 ?_
        refine ab_aload_n C 0 rfl rfl dL_law_484 ?_
        refine ab_iload_n C 3 rfl rfl dL_law_485 ?_
        refine ab_iconst (v := nI 2) C dL_law_486 (by decide) ?_
        refine ab_iadd C dL_law_487 ?_
        refine ab_sld C hX hbl h3 (6 * j + 2) (a_i6 j 2) (by omega) (by omega) hx2 dL_law_488 ?_
        obtain ⟨r, c1, m1, hc, hm, hI1⟩ := eq_behind hI x1 x2
        refine ab_cV (st := []) C lm_L_64 (wC_behind (xl X) hw (r := (r, c1)) hc) [.int x1, .int x2] rfl hw.1 rfl rfl rfl (by decide) ⟨by omega, by omega⟩ (Nat.le_of_ble_eq_true rfl) dL_law_489 (fun v h1 nx1 q1 => ?_)
        obtain ⟨rfl, hw1⟩ := q1
        show aV X G 4 492 [(0, .ref 3), (1, .ref 4), (2, .ref 46), (3, .int (nI (6 * j)))] [.int r] h1 nx1 (62 + 8 * j + 0) (3739 + 50 * j + 0)
        refine ab_aload_n C 2 rfl rfl dL_law_492 ?_
        refine ab_aload_n C 0 rfl rfl dL_law_493 ?_
        refine ab_iload_n C 3 rfl rfl dL_law_494 ?_
        refine ab_iconst (v := nI 1) C dL_law_495 (by decide) ?_
        refine ab_iadd C dL_law_496 ?_
        refine ab_sld C hX hbl h3 (6 * j + 1) (a_i6 j 1) (by omega) (by omega) hx1 dL_law_497 ?_
        refine ab_aload_n C 0 rfl rfl dL_law_498 ?_
        refine ab_iload_n C 3 rfl rfl dL_law_499 ?_
        refine ab_iconst (v := nI 2) C dL_law_500 (by decide) ?_
        refine ab_iadd C dL_law_501 ?_
        refine ab_sld C hX hbl h3 (6 * j + 2) (a_i6 j 2) (by omega) (by omega) hx2 dL_law_502 ?_
        refine ab_cV (st := [.int r]) C lm_L_67 (wM_behind (xl X) hw1 (r := (r, m1)) hm) [.int x1, .int x2] rfl (wAt_m hw1).1 rfl rfl rfl (by decide) ⟨by omega, by omega⟩ (Nat.le_of_ble_eq_true rfl) dL_law_503 (fun v h2 nx2 q2 => ?_)
        obtain ⟨rfl, rfl, hw2⟩ := q2
        show aV X G 4 506 [(0, .ref 3), (1, .ref 4), (2, .ref 46), (3, .int (nI (6 * j)))] [.int r, .int r] h2 nx2 (62 + 8 * j + 0) (3739 + 50 * j + 0)
        refine ab_icmp_eq C 1306 dL_law_506 (by decide) (fun _ => ?_) (fun q => absurd rfl q)
        refine aV.widen (k' := 62 + 8 * (j + 1)) (n' := 3739 + 50 * (j + 1)) (by omega) (by omega) ?_
        exact J c1 m1 h2 nx2 hw2 hI1
      rcases Classical.em (z = (13 : Int32)) with z13 | z13
      · refine ab_tableIn (off := 478) C 511 dL_law_33 (by rw [z13]; decide) (by rw [z13]; decide) (by rw [z13]; rfl) (by decide) ?_
        refine ab_aload_n C 1 rfl rfl dL_law_511 ?_
        refine ab_aload_n C 0 rfl rfl dL_law_512 ?_
        refine ab_iload_n C 3 rfl rfl dL_law_513 ?_
        refine ab_iconst (v := nI 1) C dL_law_514 (by decide) ?_
        refine ab_iadd C dL_law_515 ?_
        refine ab_sld C hX hbl h3 (6 * j + 1) (a_i6 j 1) (by omega) (by omega) hx1 dL_law_516 ?_
        refine ab_aload_n C 0 rfl rfl dL_law_517 ?_
        refine ab_iload_n C 3 rfl rfl dL_law_518 ?_
        refine ab_iconst (v := nI 2) C dL_law_519 (by decide) ?_
        refine ab_iadd C dL_law_520 ?_
        refine ab_sld C hX hbl h3 (6 * j + 2) (a_i6 j 2) (by omega) (by omega) hx2 dL_law_521 ?_
        obtain ⟨r, c1, m1, hc, hm, hI1⟩ := eq_first hI x1 x2
        refine ab_cV (st := []) C lm_L_68 (wC_first (xl X) hw (r := (r, c1)) hc) [.int x1, .int x2] rfl hw.1 rfl rfl rfl (by decide) ⟨by omega, by omega⟩ (Nat.le_of_ble_eq_true rfl) dL_law_522 (fun v h1 nx1 q1 => ?_)
        obtain ⟨rfl, hw1⟩ := q1
        show aV X G 4 525 [(0, .ref 3), (1, .ref 4), (2, .ref 46), (3, .int (nI (6 * j)))] [.int r] h1 nx1 (62 + 8 * j + 0) (3739 + 50 * j + 0)
        refine ab_aload_n C 2 rfl rfl dL_law_525 ?_
        refine ab_aload_n C 0 rfl rfl dL_law_526 ?_
        refine ab_iload_n C 3 rfl rfl dL_law_527 ?_
        refine ab_iconst (v := nI 1) C dL_law_528 (by decide) ?_
        refine ab_iadd C dL_law_529 ?_
        refine ab_sld C hX hbl h3 (6 * j + 1) (a_i6 j 1) (by omega) (by omega) hx1 dL_law_530 ?_
        refine ab_aload_n C 0 rfl rfl dL_law_531 ?_
        refine ab_iload_n C 3 rfl rfl dL_law_532 ?_
        refine ab_iconst (v := nI 2) C dL_law_533 (by decide) ?_
        refine ab_iadd C dL_law_534 ?_
        refine ab_sld C hX hbl h3 (6 * j + 2) (a_i6 j 2) (by omega) (by omega) hx2 dL_law_535 ?_
        refine ab_cV (st := [.int r]) C lm_L_71 (wM_first (xl X) hw1 (r := (r, m1)) hm) [.int x1, .int x2] rfl (wAt_m hw1).1 rfl rfl rfl (by decide) ⟨by omega, by omega⟩ (Nat.le_of_ble_eq_true rfl) dL_law_536 (fun v h2 nx2 q2 => ?_)
        obtain ⟨rfl, rfl, hw2⟩ := q2
        show aV X G 4 539 [(0, .ref 3), (1, .ref 4), (2, .ref 46), (3, .int (nI (6 * j)))] [.int r, .int r] h2 nx2 (62 + 8 * j + 0) (3739 + 50 * j + 0)
        refine ab_icmp_eq C 1306 dL_law_539 (by decide) (fun _ => ?_) (fun q => absurd rfl q)
        refine aV.widen (k' := 62 + 8 * (j + 1)) (n' := 3739 + 50 * (j + 1)) (by omega) (by omega) ?_
        exact J c1 m1 h2 nx2 hw2 hI1
      rcases Classical.em (z = (14 : Int32)) with z14 | z14
      · refine ab_tableIn (off := 511) C 544 dL_law_33 (by rw [z14]; decide) (by rw [z14]; decide) (by rw [z14]; rfl) (by decide) ?_
        refine ab_aload_n C 1 rfl rfl dL_law_544 ?_
        refine ab_aload_n C 0 rfl rfl dL_law_545 ?_
        refine ab_iload_n C 3 rfl rfl dL_law_546 ?_
        refine ab_iconst (v := nI 1) C dL_law_547 (by decide) ?_
        refine ab_iadd C dL_law_548 ?_
        refine ab_sld C hX hbl h3 (6 * j + 1) (a_i6 j 1) (by omega) (by omega) hx1 dL_law_549 ?_
        obtain ⟨r, c1, m1, hc, hm, hI1⟩ := eq_round hI x1
        refine ab_cV (st := []) C lm_L_72 (wC_round (xl X) hw (r := (r, c1)) hc) [.int x1] rfl hw.1 rfl rfl rfl (by decide) ⟨by omega, by omega⟩ (Nat.le_of_ble_eq_true rfl) dL_law_550 (fun v h1 nx1 q1 => ?_)
        obtain ⟨rfl, hw1⟩ := q1
        show aV X G 4 553 [(0, .ref 3), (1, .ref 4), (2, .ref 46), (3, .int (nI (6 * j)))] [.int r] h1 nx1 (62 + 8 * j + 0) (3739 + 50 * j + 0)
        refine ab_aload_n C 2 rfl rfl dL_law_553 ?_
        refine ab_aload_n C 0 rfl rfl dL_law_554 ?_
        refine ab_iload_n C 3 rfl rfl dL_law_555 ?_
        refine ab_iconst (v := nI 1) C dL_law_556 (by decide) ?_
        refine ab_iadd C dL_law_557 ?_
        refine ab_sld C hX hbl h3 (6 * j + 1) (a_i6 j 1) (by omega) (by omega) hx1 dL_law_558 ?_
        refine ab_cV (st := [.int r]) C lm_L_75 (wM_round (xl X) hw1 (r := (r, m1)) hm) [.int x1] rfl (wAt_m hw1).1 rfl rfl rfl (by decide) ⟨by omega, by omega⟩ (Nat.le_of_ble_eq_true rfl) dL_law_559 (fun v h2 nx2 q2 => ?_)
        obtain ⟨rfl, rfl, hw2⟩ := q2
        show aV X G 4 562 [(0, .ref 3), (1, .ref 4), (2, .ref 46), (3, .int (nI (6 * j)))] [.int r, .int r] h2 nx2 (62 + 8 * j + 0) (3739 + 50 * j + 0)
        refine ab_icmp_eq C 1306 dL_law_562 (by decide) (fun _ => ?_) (fun q => absurd rfl q)
        refine aV.widen (k' := 62 + 8 * (j + 1)) (n' := 3739 + 50 * (j + 1)) (by omega) (by omega) ?_
        exact J c1 m1 h2 nx2 hw2 hI1
      rcases Classical.em (z = (15 : Int32)) with z15 | z15
      · refine ab_tableIn (off := 534) C 567 dL_law_33 (by rw [z15]; decide) (by rw [z15]; decide) (by rw [z15]; rfl) (by decide) ?_
        refine ab_aload_n C 1 rfl rfl dL_law_567 ?_
        refine ab_aload_n C 0 rfl rfl dL_law_568 ?_
        refine ab_iload_n C 3 rfl rfl dL_law_569 ?_
        refine ab_iconst (v := nI 1) C dL_law_570 (by decide) ?_
        refine ab_iadd C dL_law_571 ?_
        refine ab_sld C hX hbl h3 (6 * j + 1) (a_i6 j 1) (by omega) (by omega) hx1 dL_law_572 ?_
        refine ab_aload_n C 0 rfl rfl dL_law_573 ?_
        refine ab_iload_n C 3 rfl rfl dL_law_574 ?_
        refine ab_iconst (v := nI 2) C dL_law_575 (by decide) ?_
        refine ab_iadd C dL_law_576 ?_
        refine ab_sld C hX hbl h3 (6 * j + 2) (a_i6 j 2) (by omega) (by omega) hx2 dL_law_577 ?_
        refine ab_aload_n C 0 rfl rfl dL_law_578 ?_
        refine ab_iload_n C 3 rfl rfl dL_law_579 ?_
        refine ab_iconst (v := nI 3) C dL_law_580 (by decide) ?_
        refine ab_iadd C dL_law_581 ?_
        refine ab_sld C hX hbl h3 (6 * j + 3) (a_i6 j 3) (by omega) (by omega) hx3 dL_law_582 ?_
        obtain ⟨r, c1, m1, hc, hm, hI1⟩ := eq_buys hI x1 x2 x3
        refine ab_cV (st := []) C lm_L_76 (wC_buys (xl X) hw (r := (r, c1)) hc) [.int x1, .int x2, .int x3] rfl hw.1 rfl rfl rfl (by decide) ⟨by omega, by omega⟩ (Nat.le_of_ble_eq_true rfl) dL_law_583 (fun v h1 nx1 q1 => ?_)
        obtain ⟨rfl, hw1⟩ := q1
        show aV X G 4 586 [(0, .ref 3), (1, .ref 4), (2, .ref 46), (3, .int (nI (6 * j)))] [.int r] h1 nx1 (62 + 8 * j + 0) (3739 + 50 * j + 0)
        refine ab_aload_n C 2 rfl rfl dL_law_586 ?_
        refine ab_aload_n C 0 rfl rfl dL_law_587 ?_
        refine ab_iload_n C 3 rfl rfl dL_law_588 ?_
        refine ab_iconst (v := nI 1) C dL_law_589 (by decide) ?_
        refine ab_iadd C dL_law_590 ?_
        refine ab_sld C hX hbl h3 (6 * j + 1) (a_i6 j 1) (by omega) (by omega) hx1 dL_law_591 ?_
        refine ab_aload_n C 0 rfl rfl dL_law_592 ?_
        refine ab_iload_n C 3 rfl rfl dL_law_593 ?_
        refine ab_iconst (v := nI 2) C dL_law_594 (by decide) ?_
        refine ab_iadd C dL_law_595 ?_
        refine ab_sld C hX hbl h3 (6 * j + 2) (a_i6 j 2) (by omega) (by omega) hx2 dL_law_596 ?_
        refine ab_aload_n C 0 rfl rfl dL_law_597 ?_
        refine ab_iload_n C 3 rfl rfl dL_law_598 ?_
        refine ab_iconst (v := nI 3) C dL_law_599 (by decide) ?_
        refine ab_iadd C dL_law_600 ?_
        refine ab_sld C hX hbl h3 (6 * j + 3) (a_i6 j 3) (by omega) (by omega) hx3 dL_law_601 ?_
        refine ab_cV (st := [.int r]) C lm_L_80 (wM_buys (xl X) hw1 (r := (r, m1)) hm) [.int x1, .int x2, .int x3] rfl (wAt_m hw1).1 rfl rfl rfl (by decide) ⟨by omega, by omega⟩ (Nat.le_of_ble_eq_true rfl) dL_law_602 (fun v h2 nx2 q2 => ?_)
        obtain ⟨rfl, rfl, hw2⟩ := q2
        show aV X G 4 605 [(0, .ref 3), (1, .ref 4), (2, .ref 46), (3, .int (nI (6 * j)))] [.int r, .int r] h2 nx2 (62 + 8 * j + 0) (3739 + 50 * j + 0)
        refine ab_icmp_eq C 1306 dL_law_605 (by decide) (fun _ => ?_) (fun q => absurd rfl q)
        refine aV.widen (k' := 62 + 8 * (j + 1)) (n' := 3739 + 50 * (j + 1)) (by omega) (by omega) ?_
        exact J c1 m1 h2 nx2 hw2 hI1
      rcases Classical.em (z = (16 : Int32)) with z16 | z16
      · refine ab_tableIn (off := 577) C 610 dL_law_33 (by rw [z16]; decide) (by rw [z16]; decide) (by rw [z16]; rfl) (by decide) ?_
        refine ab_aload_n C 1 rfl rfl dL_law_610 ?_
        refine ab_aload_n C 0 rfl rfl dL_law_611 ?_
        refine ab_iload_n C 3 rfl rfl dL_law_612 ?_
        refine ab_iconst (v := nI 1) C dL_law_613 (by decide) ?_
        refine ab_iadd C dL_law_614 ?_
        refine ab_sld C hX hbl h3 (6 * j + 1) (a_i6 j 1) (by omega) (by omega) hx1 dL_law_615 ?_
        refine ab_aload_n C 0 rfl rfl dL_law_616 ?_
        refine ab_iload_n C 3 rfl rfl dL_law_617 ?_
        refine ab_iconst (v := nI 2) C dL_law_618 (by decide) ?_
        refine ab_iadd C dL_law_619 ?_
        refine ab_sld C hX hbl h3 (6 * j + 2) (a_i6 j 2) (by omega) (by omega) hx2 dL_law_620 ?_
        obtain ⟨r, c1, m1, hc, hm, hI1⟩ := eq_scattered hI x1 x2
        refine ab_cV (st := []) C lm_L_81 (wC_scattered (xl X) hw (r := (r, c1)) hc) [.int x1, .int x2] rfl hw.1 rfl rfl rfl (by decide) ⟨by omega, by omega⟩ (Nat.le_of_ble_eq_true rfl) dL_law_621 (fun v h1 nx1 q1 => ?_)
        obtain ⟨rfl, hw1⟩ := q1
        show aV X G 4 624 [(0, .ref 3), (1, .ref 4), (2, .ref 46), (3, .int (nI (6 * j)))] [.int r] h1 nx1 (62 + 8 * j + 0) (3739 + 50 * j + 0)
        refine ab_aload_n C 2 rfl rfl dL_law_624 ?_
        refine ab_aload_n C 0 rfl rfl dL_law_625 ?_
        refine ab_iload_n C 3 rfl rfl dL_law_626 ?_
        refine ab_iconst (v := nI 1) C dL_law_627 (by decide) ?_
        refine ab_iadd C dL_law_628 ?_
        refine ab_sld C hX hbl h3 (6 * j + 1) (a_i6 j 1) (by omega) (by omega) hx1 dL_law_629 ?_
        refine ab_aload_n C 0 rfl rfl dL_law_630 ?_
        refine ab_iload_n C 3 rfl rfl dL_law_631 ?_
        refine ab_iconst (v := nI 2) C dL_law_632 (by decide) ?_
        refine ab_iadd C dL_law_633 ?_
        refine ab_sld C hX hbl h3 (6 * j + 2) (a_i6 j 2) (by omega) (by omega) hx2 dL_law_634 ?_
        refine ab_cV (st := [.int r]) C lm_L_84 (wM_scattered (xl X) hw1 (r := (r, m1)) hm) [.int x1, .int x2] rfl (wAt_m hw1).1 rfl rfl rfl (by decide) ⟨by omega, by omega⟩ (Nat.le_of_ble_eq_true rfl) dL_law_635 (fun v h2 nx2 q2 => ?_)
        obtain ⟨rfl, rfl, hw2⟩ := q2
        show aV X G 4 638 [(0, .ref 3), (1, .ref 4), (2, .ref 46), (3, .int (nI (6 * j)))] [.int r, .int r] h2 nx2 (62 + 8 * j + 0) (3739 + 50 * j + 0)
        refine ab_icmp_eq C 1306 dL_law_638 (by decide) (fun _ => ?_) (fun q => absurd rfl q)
        refine aV.widen (k' := 62 + 8 * (j + 1)) (n' := 3739 + 50 * (j + 1)) (by omega) (by omega) ?_
        exact J c1 m1 h2 nx2 hw2 hI1
      rcases Classical.em (z = (17 : Int32)) with z17 | z17
      · refine ab_tableIn (off := 610) C 643 dL_law_33 (by rw [z17]; decide) (by rw [z17]; decide) (by rw [z17]; rfl) (by decide) ?_
        refine ab_aload_n C 1 rfl rfl dL_law_643 ?_
        refine ab_aload_n C 0 rfl rfl dL_law_644 ?_
        refine ab_iload_n C 3 rfl rfl dL_law_645 ?_
        refine ab_iconst (v := nI 1) C dL_law_646 (by decide) ?_
        refine ab_iadd C dL_law_647 ?_
        refine ab_sld C hX hbl h3 (6 * j + 1) (a_i6 j 1) (by omega) (by omega) hx1 dL_law_648 ?_
        refine ab_aload_n C 0 rfl rfl dL_law_649 ?_
        refine ab_iload_n C 3 rfl rfl dL_law_650 ?_
        refine ab_iconst (v := nI 2) C dL_law_651 (by decide) ?_
        refine ab_iadd C dL_law_652 ?_
        refine ab_sld C hX hbl h3 (6 * j + 2) (a_i6 j 2) (by omega) (by omega) hx2 dL_law_653 ?_
        obtain ⟨r, c1, m1, hc, hm, hI1⟩ := eq_talk hI x1 x2
        refine ab_cV (st := []) C lm_L_85 (wC_talk (xl X) hw (r := (r, c1)) hc) [.int x1, .int x2] rfl hw.1 rfl rfl rfl (by decide) ⟨by omega, by omega⟩ (Nat.le_of_ble_eq_true rfl) dL_law_654 (fun v h1 nx1 q1 => ?_)
        obtain ⟨rfl, hw1⟩ := q1
        show aV X G 4 657 [(0, .ref 3), (1, .ref 4), (2, .ref 46), (3, .int (nI (6 * j)))] [.int r] h1 nx1 (62 + 8 * j + 0) (3739 + 50 * j + 0)
        refine ab_aload_n C 2 rfl rfl dL_law_657 ?_
        refine ab_aload_n C 0 rfl rfl dL_law_658 ?_
        refine ab_iload_n C 3 rfl rfl dL_law_659 ?_
        refine ab_iconst (v := nI 1) C dL_law_660 (by decide) ?_
        refine ab_iadd C dL_law_661 ?_
        refine ab_sld C hX hbl h3 (6 * j + 1) (a_i6 j 1) (by omega) (by omega) hx1 dL_law_662 ?_
        refine ab_aload_n C 0 rfl rfl dL_law_663 ?_
        refine ab_iload_n C 3 rfl rfl dL_law_664 ?_
        refine ab_iconst (v := nI 2) C dL_law_665 (by decide) ?_
        refine ab_iadd C dL_law_666 ?_
        refine ab_sld C hX hbl h3 (6 * j + 2) (a_i6 j 2) (by omega) (by omega) hx2 dL_law_667 ?_
        refine ab_cV (st := [.int r]) C lm_L_88 (wM_talk (xl X) hw1 (r := (r, m1)) hm) [.int x1, .int x2] rfl (wAt_m hw1).1 rfl rfl rfl (by decide) ⟨by omega, by omega⟩ (Nat.le_of_ble_eq_true rfl) dL_law_668 (fun v h2 nx2 q2 => ?_)
        obtain ⟨rfl, rfl, hw2⟩ := q2
        show aV X G 4 671 [(0, .ref 3), (1, .ref 4), (2, .ref 46), (3, .int (nI (6 * j)))] [.int r, .int r] h2 nx2 (62 + 8 * j + 0) (3739 + 50 * j + 0)
        refine ab_icmp_eq C 1306 dL_law_671 (by decide) (fun _ => ?_) (fun q => absurd rfl q)
        refine aV.widen (k' := 62 + 8 * (j + 1)) (n' := 3739 + 50 * (j + 1)) (by omega) (by omega) ?_
        exact J c1 m1 h2 nx2 hw2 hI1
      rcases Classical.em (z = (18 : Int32)) with z18 | z18
      · refine ab_tableIn (off := 643) C 676 dL_law_33 (by rw [z18]; decide) (by rw [z18]; decide) (by rw [z18]; rfl) (by decide) ?_
        refine ab_aload_n C 1 rfl rfl dL_law_676 ?_
        refine ab_aload_n C 0 rfl rfl dL_law_677 ?_
        refine ab_iload_n C 3 rfl rfl dL_law_678 ?_
        refine ab_iconst (v := nI 1) C dL_law_679 (by decide) ?_
        refine ab_iadd C dL_law_680 ?_
        refine ab_sld C hX hbl h3 (6 * j + 1) (a_i6 j 1) (by omega) (by omega) hx1 dL_law_681 ?_
        refine ab_aload_n C 0 rfl rfl dL_law_682 ?_
        refine ab_iload_n C 3 rfl rfl dL_law_683 ?_
        refine ab_iconst (v := nI 2) C dL_law_684 (by decide) ?_
        refine ab_iadd C dL_law_685 ?_
        refine ab_sld C hX hbl h3 (6 * j + 2) (a_i6 j 2) (by omega) (by omega) hx2 dL_law_686 ?_
        obtain ⟨r, c1, m1, hc, hm, hI1⟩ := eq_marry hI x1 x2
        refine ab_cV (st := []) C lm_L_89 (wC_marry (xl X) hw (r := (r, c1)) hc) [.int x1, .int x2] rfl hw.1 rfl rfl rfl (by decide) ⟨by omega, by omega⟩ (Nat.le_of_ble_eq_true rfl) dL_law_687 (fun v h1 nx1 q1 => ?_)
        obtain ⟨rfl, hw1⟩ := q1
        show aV X G 4 690 [(0, .ref 3), (1, .ref 4), (2, .ref 46), (3, .int (nI (6 * j)))] [.int r] h1 nx1 (62 + 8 * j + 0) (3739 + 50 * j + 0)
        refine ab_aload_n C 2 rfl rfl dL_law_690 ?_
        refine ab_aload_n C 0 rfl rfl dL_law_691 ?_
        refine ab_iload_n C 3 rfl rfl dL_law_692 ?_
        refine ab_iconst (v := nI 1) C dL_law_693 (by decide) ?_
        refine ab_iadd C dL_law_694 ?_
        refine ab_sld C hX hbl h3 (6 * j + 1) (a_i6 j 1) (by omega) (by omega) hx1 dL_law_695 ?_
        refine ab_aload_n C 0 rfl rfl dL_law_696 ?_
        refine ab_iload_n C 3 rfl rfl dL_law_697 ?_
        refine ab_iconst (v := nI 2) C dL_law_698 (by decide) ?_
        refine ab_iadd C dL_law_699 ?_
        refine ab_sld C hX hbl h3 (6 * j + 2) (a_i6 j 2) (by omega) (by omega) hx2 dL_law_700 ?_
        refine ab_cV (st := [.int r]) C lm_L_92 (wM_marry (xl X) hw1 (r := (r, m1)) hm) [.int x1, .int x2] rfl (wAt_m hw1).1 rfl rfl rfl (by decide) ⟨by omega, by omega⟩ (Nat.le_of_ble_eq_true rfl) dL_law_701 (fun v h2 nx2 q2 => ?_)
        obtain ⟨rfl, rfl, hw2⟩ := q2
        show aV X G 4 704 [(0, .ref 3), (1, .ref 4), (2, .ref 46), (3, .int (nI (6 * j)))] [.int r, .int r] h2 nx2 (62 + 8 * j + 0) (3739 + 50 * j + 0)
        refine ab_icmp_eq C 1306 dL_law_704 (by decide) (fun _ => ?_) (fun q => absurd rfl q)
        refine aV.widen (k' := 62 + 8 * (j + 1)) (n' := 3739 + 50 * (j + 1)) (by omega) (by omega) ?_
        exact J c1 m1 h2 nx2 hw2 hI1
      rcases Classical.em (z = (19 : Int32)) with z19 | z19
      · refine ab_tableIn (off := 676) C 709 dL_law_33 (by rw [z19]; decide) (by rw [z19]; decide) (by rw [z19]; rfl) (by decide) ?_
        refine ab_aload_n C 1 rfl rfl dL_law_709 ?_
        refine ab_aload_n C 0 rfl rfl dL_law_710 ?_
        refine ab_iload_n C 3 rfl rfl dL_law_711 ?_
        refine ab_iconst (v := nI 1) C dL_law_712 (by decide) ?_
        refine ab_iadd C dL_law_713 ?_
        refine ab_sld C hX hbl h3 (6 * j + 1) (a_i6 j 1) (by omega) (by omega) hx1 dL_law_714 ?_
        refine ab_aload_n C 0 rfl rfl dL_law_715 ?_
        refine ab_iload_n C 3 rfl rfl dL_law_716 ?_
        refine ab_iconst (v := nI 2) C dL_law_717 (by decide) ?_
        refine ab_iadd C dL_law_718 ?_
        refine ab_sld C hX hbl h3 (6 * j + 2) (a_i6 j 2) (by omega) (by omega) hx2 dL_law_719 ?_
        refine ab_aload_n C 0 rfl rfl dL_law_720 ?_
        refine ab_iload_n C 3 rfl rfl dL_law_721 ?_
        refine ab_iconst (v := nI 3) C dL_law_722 (by decide) ?_
        refine ab_iadd C dL_law_723 ?_
        refine ab_sld C hX hbl h3 (6 * j + 3) (a_i6 j 3) (by omega) (by omega) hx3 dL_law_724 ?_
        obtain ⟨r, c1, m1, hc, hm, hI1⟩ := eq_letters hI x1 x2 x3
        refine ab_cV (st := []) C lm_L_93 (wC_letters (xl X) hw (r := (r, c1)) hc) [.int x1, .int x2, .int x3] rfl hw.1 rfl rfl rfl (by decide) ⟨by omega, by omega⟩ (Nat.le_of_ble_eq_true rfl) dL_law_725 (fun v h1 nx1 q1 => ?_)
        obtain ⟨rfl, hw1⟩ := q1
        show aV X G 4 728 [(0, .ref 3), (1, .ref 4), (2, .ref 46), (3, .int (nI (6 * j)))] [.int r] h1 nx1 (62 + 8 * j + 0) (3739 + 50 * j + 0)
        refine ab_aload_n C 2 rfl rfl dL_law_728 ?_
        refine ab_aload_n C 0 rfl rfl dL_law_729 ?_
        refine ab_iload_n C 3 rfl rfl dL_law_730 ?_
        refine ab_iconst (v := nI 1) C dL_law_731 (by decide) ?_
        refine ab_iadd C dL_law_732 ?_
        refine ab_sld C hX hbl h3 (6 * j + 1) (a_i6 j 1) (by omega) (by omega) hx1 dL_law_733 ?_
        refine ab_aload_n C 0 rfl rfl dL_law_734 ?_
        refine ab_iload_n C 3 rfl rfl dL_law_735 ?_
        refine ab_iconst (v := nI 2) C dL_law_736 (by decide) ?_
        refine ab_iadd C dL_law_737 ?_
        refine ab_sld C hX hbl h3 (6 * j + 2) (a_i6 j 2) (by omega) (by omega) hx2 dL_law_738 ?_
        refine ab_aload_n C 0 rfl rfl dL_law_739 ?_
        refine ab_iload_n C 3 rfl rfl dL_law_740 ?_
        refine ab_iconst (v := nI 3) C dL_law_741 (by decide) ?_
        refine ab_iadd C dL_law_742 ?_
        refine ab_sld C hX hbl h3 (6 * j + 3) (a_i6 j 3) (by omega) (by omega) hx3 dL_law_743 ?_
        refine ab_cV (st := [.int r]) C lm_L_96 (wM_letters (xl X) hw1 (r := (r, m1)) hm) [.int x1, .int x2, .int x3] rfl (wAt_m hw1).1 rfl rfl rfl (by decide) ⟨by omega, by omega⟩ (Nat.le_of_ble_eq_true rfl) dL_law_744 (fun v h2 nx2 q2 => ?_)
        obtain ⟨rfl, rfl, hw2⟩ := q2
        show aV X G 4 747 [(0, .ref 3), (1, .ref 4), (2, .ref 46), (3, .int (nI (6 * j)))] [.int r, .int r] h2 nx2 (62 + 8 * j + 0) (3739 + 50 * j + 0)
        refine ab_icmp_eq C 1306 dL_law_747 (by decide) (fun _ => ?_) (fun q => absurd rfl q)
        refine aV.widen (k' := 62 + 8 * (j + 1)) (n' := 3739 + 50 * (j + 1)) (by omega) (by omega) ?_
        exact J c1 m1 h2 nx2 hw2 hI1
      rcases Classical.em (z = (20 : Int32)) with z20 | z20
      · refine ab_tableIn (off := 719) C 752 dL_law_33 (by rw [z20]; decide) (by rw [z20]; decide) (by rw [z20]; rfl) (by decide) ?_
        refine ab_aload_n C 1 rfl rfl dL_law_752 ?_
        refine ab_aload_n C 0 rfl rfl dL_law_753 ?_
        refine ab_iload_n C 3 rfl rfl dL_law_754 ?_
        refine ab_iconst (v := nI 1) C dL_law_755 (by decide) ?_
        refine ab_iadd C dL_law_756 ?_
        refine ab_sld C hX hbl h3 (6 * j + 1) (a_i6 j 1) (by omega) (by omega) hx1 dL_law_757 ?_
        refine ab_aload_n C 0 rfl rfl dL_law_758 ?_
        refine ab_iload_n C 3 rfl rfl dL_law_759 ?_
        refine ab_iconst (v := nI 2) C dL_law_760 (by decide) ?_
        refine ab_iadd C dL_law_761 ?_
        refine ab_sld C hX hbl h3 (6 * j + 2) (a_i6 j 2) (by omega) (by omega) hx2 dL_law_762 ?_
        refine ab_aload_n C 0 rfl rfl dL_law_763 ?_
        refine ab_iload_n C 3 rfl rfl dL_law_764 ?_
        refine ab_iconst (v := nI 3) C dL_law_765 (by decide) ?_
        refine ab_iadd C dL_law_766 ?_
        refine ab_sld C hX hbl h3 (6 * j + 3) (a_i6 j 3) (by omega) (by omega) hx3 dL_law_767 ?_
        refine ab_aload_n C 0 rfl rfl dL_law_768 ?_
        refine ab_iload_n C 3 rfl rfl dL_law_769 ?_
        refine ab_iconst (v := nI 4) C dL_law_770 (by decide) ?_
        refine ab_iadd C dL_law_771 ?_
        refine ab_sld C hX hbl h3 (6 * j + 4) (a_i6 j 4) (by omega) (by omega) hx4 dL_law_772 ?_
        obtain ⟨r, c1, m1, hc, hm, hI1⟩ := eq_holdings hI x1 x2 x3 x4
        refine ab_cV (st := []) C lm_L_97 (wC_holdings (xl X) hw (r := (r, c1)) hc) [.int x1, .int x2, .int x3, .int x4] rfl hw.1 rfl rfl rfl (by decide) ⟨by omega, by omega⟩ (Nat.le_of_ble_eq_true rfl) dL_law_773 (fun v h1 nx1 q1 => ?_)
        obtain ⟨rfl, hw1⟩ := q1
        show aV X G 4 776 [(0, .ref 3), (1, .ref 4), (2, .ref 46), (3, .int (nI (6 * j)))] [.int r] h1 nx1 (62 + 8 * j + 0) (3739 + 50 * j + 0)
        refine ab_aload_n C 2 rfl rfl dL_law_776 ?_
        refine ab_aload_n C 0 rfl rfl dL_law_777 ?_
        refine ab_iload_n C 3 rfl rfl dL_law_778 ?_
        refine ab_iconst (v := nI 1) C dL_law_779 (by decide) ?_
        refine ab_iadd C dL_law_780 ?_
        refine ab_sld C hX hbl h3 (6 * j + 1) (a_i6 j 1) (by omega) (by omega) hx1 dL_law_781 ?_
        refine ab_aload_n C 0 rfl rfl dL_law_782 ?_
        refine ab_iload_n C 3 rfl rfl dL_law_783 ?_
        refine ab_iconst (v := nI 2) C dL_law_784 (by decide) ?_
        refine ab_iadd C dL_law_785 ?_
        refine ab_sld C hX hbl h3 (6 * j + 2) (a_i6 j 2) (by omega) (by omega) hx2 dL_law_786 ?_
        refine ab_aload_n C 0 rfl rfl dL_law_787 ?_
        refine ab_iload_n C 3 rfl rfl dL_law_788 ?_
        refine ab_iconst (v := nI 3) C dL_law_789 (by decide) ?_
        refine ab_iadd C dL_law_790 ?_
        refine ab_sld C hX hbl h3 (6 * j + 3) (a_i6 j 3) (by omega) (by omega) hx3 dL_law_791 ?_
        refine ab_aload_n C 0 rfl rfl dL_law_792 ?_
        refine ab_iload_n C 3 rfl rfl dL_law_793 ?_
        refine ab_iconst (v := nI 4) C dL_law_794 (by decide) ?_
        refine ab_iadd C dL_law_795 ?_
        refine ab_sld C hX hbl h3 (6 * j + 4) (a_i6 j 4) (by omega) (by omega) hx4 dL_law_796 ?_
        refine ab_cV (st := [.int r]) C lm_L_101 (wM_holdings (xl X) hw1 (r := (r, m1)) hm) [.int x1, .int x2, .int x3, .int x4] rfl (wAt_m hw1).1 rfl rfl rfl (by decide) ⟨by omega, by omega⟩ (Nat.le_of_ble_eq_true rfl) dL_law_797 (fun v h2 nx2 q2 => ?_)
        obtain ⟨rfl, rfl, hw2⟩ := q2
        show aV X G 4 800 [(0, .ref 3), (1, .ref 4), (2, .ref 46), (3, .int (nI (6 * j)))] [.int r, .int r] h2 nx2 (62 + 8 * j + 0) (3739 + 50 * j + 0)
        refine ab_icmp_eq C 1306 dL_law_800 (by decide) (fun _ => ?_) (fun q => absurd rfl q)
        refine aV.widen (k' := 62 + 8 * (j + 1)) (n' := 3739 + 50 * (j + 1)) (by omega) (by omega) ?_
        exact J c1 m1 h2 nx2 hw2 hI1
      rcases Classical.em (z = (21 : Int32)) with z21 | z21
      · refine ab_tableIn (off := 772) C 805 dL_law_33 (by rw [z21]; decide) (by rw [z21]; decide) (by rw [z21]; rfl) (by decide) ?_
        refine ab_aload_n C 1 rfl rfl dL_law_805 ?_
        refine ab_aload_n C 0 rfl rfl dL_law_806 ?_
        refine ab_iload_n C 3 rfl rfl dL_law_807 ?_
        refine ab_iconst (v := nI 1) C dL_law_808 (by decide) ?_
        refine ab_iadd C dL_law_809 ?_
        refine ab_sld C hX hbl h3 (6 * j + 1) (a_i6 j 1) (by omega) (by omega) hx1 dL_law_810 ?_
        refine ab_aload_n C 0 rfl rfl dL_law_811 ?_
        refine ab_iload_n C 3 rfl rfl dL_law_812 ?_
        refine ab_iconst (v := nI 2) C dL_law_813 (by decide) ?_
        refine ab_iadd C dL_law_814 ?_
        refine ab_sld C hX hbl h3 (6 * j + 2) (a_i6 j 2) (by omega) (by omega) hx2 dL_law_815 ?_
        refine ab_aload_n C 0 rfl rfl dL_law_816 ?_
        refine ab_iload_n C 3 rfl rfl dL_law_817 ?_
        refine ab_iconst (v := nI 3) C dL_law_818 (by decide) ?_
        refine ab_iadd C dL_law_819 ?_
        refine ab_sld C hX hbl h3 (6 * j + 3) (a_i6 j 3) (by omega) (by omega) hx3 dL_law_820 ?_
        obtain ⟨r, c1, m1, hc, hm, hI1⟩ := eq_take hI x1 x2 x3
        refine ab_cV (st := []) C lm_L_102 (wC_take (xl X) hw (r := (r, c1)) hc) [.int x1, .int x2, .int x3] rfl hw.1 rfl rfl rfl (by decide) ⟨by omega, by omega⟩ (Nat.le_of_ble_eq_true rfl) dL_law_821 (fun v h1 nx1 q1 => ?_)
        obtain ⟨rfl, hw1⟩ := q1
        show aV X G 4 824 [(0, .ref 3), (1, .ref 4), (2, .ref 46), (3, .int (nI (6 * j)))] [.int r] h1 nx1 (62 + 8 * j + 0) (3739 + 50 * j + 0)
        refine ab_aload_n C 2 rfl rfl dL_law_824 ?_
        refine ab_aload_n C 0 rfl rfl dL_law_825 ?_
        refine ab_iload_n C 3 rfl rfl dL_law_826 ?_
        refine ab_iconst (v := nI 1) C dL_law_827 (by decide) ?_
        refine ab_iadd C dL_law_828 ?_
        refine ab_sld C hX hbl h3 (6 * j + 1) (a_i6 j 1) (by omega) (by omega) hx1 dL_law_829 ?_
        refine ab_aload_n C 0 rfl rfl dL_law_830 ?_
        refine ab_iload_n C 3 rfl rfl dL_law_831 ?_
        refine ab_iconst (v := nI 2) C dL_law_832 (by decide) ?_
        refine ab_iadd C dL_law_833 ?_
        refine ab_sld C hX hbl h3 (6 * j + 2) (a_i6 j 2) (by omega) (by omega) hx2 dL_law_834 ?_
        refine ab_aload_n C 0 rfl rfl dL_law_835 ?_
        refine ab_iload_n C 3 rfl rfl dL_law_836 ?_
        refine ab_iconst (v := nI 3) C dL_law_837 (by decide) ?_
        refine ab_iadd C dL_law_838 ?_
        refine ab_sld C hX hbl h3 (6 * j + 3) (a_i6 j 3) (by omega) (by omega) hx3 dL_law_839 ?_
        refine ab_cV (st := [.int r]) C lm_L_105 (wM_take (xl X) hw1 (r := (r, m1)) hm) [.int x1, .int x2, .int x3] rfl (wAt_m hw1).1 rfl rfl rfl (by decide) ⟨by omega, by omega⟩ (Nat.le_of_ble_eq_true rfl) dL_law_840 (fun v h2 nx2 q2 => ?_)
        obtain ⟨rfl, rfl, hw2⟩ := q2
        show aV X G 4 843 [(0, .ref 3), (1, .ref 4), (2, .ref 46), (3, .int (nI (6 * j)))] [.int r, .int r] h2 nx2 (62 + 8 * j + 0) (3739 + 50 * j + 0)
        refine ab_icmp_eq C 1306 dL_law_843 (by decide) (fun _ => ?_) (fun q => absurd rfl q)
        refine aV.widen (k' := 62 + 8 * (j + 1)) (n' := 3739 + 50 * (j + 1)) (by omega) (by omega) ?_
        exact J c1 m1 h2 nx2 hw2 hI1
      rcases Classical.em (z = (22 : Int32)) with z22 | z22
      · refine ab_tableIn (off := 815) C 848 dL_law_33 (by rw [z22]; decide) (by rw [z22]; decide) (by rw [z22]; rfl) (by decide) ?_
        refine ab_aload_n C 1 rfl rfl dL_law_848 ?_
        refine ab_aload_n C 0 rfl rfl dL_law_849 ?_
        refine ab_iload_n C 3 rfl rfl dL_law_850 ?_
        refine ab_iconst (v := nI 1) C dL_law_851 (by decide) ?_
        refine ab_iadd C dL_law_852 ?_
        refine ab_sld C hX hbl h3 (6 * j + 1) (a_i6 j 1) (by omega) (by omega) hx1 dL_law_853 ?_
        refine ab_aload_n C 0 rfl rfl dL_law_854 ?_
        refine ab_iload_n C 3 rfl rfl dL_law_855 ?_
        refine ab_iconst (v := nI 2) C dL_law_856 (by decide) ?_
        refine ab_iadd C dL_law_857 ?_
        refine ab_sld C hX hbl h3 (6 * j + 2) (a_i6 j 2) (by omega) (by omega) hx2 dL_law_858 ?_
        refine ab_aload_n C 0 rfl rfl dL_law_859 ?_
        refine ab_iload_n C 3 rfl rfl dL_law_860 ?_
        refine ab_iconst (v := nI 3) C dL_law_861 (by decide) ?_
        refine ab_iadd C dL_law_862 ?_
        refine ab_sld C hX hbl h3 (6 * j + 3) (a_i6 j 3) (by omega) (by omega) hx3 dL_law_863 ?_
        refine ab_aload_n C 0 rfl rfl dL_law_864 ?_
        refine ab_iload_n C 3 rfl rfl dL_law_865 ?_
        refine ab_iconst (v := nI 4) C dL_law_866 (by decide) ?_
        refine ab_iadd C dL_law_867 ?_
        refine ab_sld C hX hbl h3 (6 * j + 4) (a_i6 j 4) (by omega) (by omega) hx4 dL_law_868 ?_
        obtain ⟨r, c1, m1, hc, hm, hI1⟩ := eq_chance hI x1 x2 x3 x4
        refine ab_cV (st := []) C lm_L_106 (wC_chance (xl X) hw (r := (r, c1)) hc) [.int x1, .int x2, .int x3, .int x4] rfl hw.1 rfl rfl rfl (by decide) ⟨by omega, by omega⟩ (Nat.le_of_ble_eq_true rfl) dL_law_869 (fun v h1 nx1 q1 => ?_)
        obtain ⟨rfl, hw1⟩ := q1
        show aV X G 4 872 [(0, .ref 3), (1, .ref 4), (2, .ref 46), (3, .int (nI (6 * j)))] [.int r] h1 nx1 (62 + 8 * j + 0) (3739 + 50 * j + 0)
        refine ab_aload_n C 2 rfl rfl dL_law_872 ?_
        refine ab_aload_n C 0 rfl rfl dL_law_873 ?_
        refine ab_iload_n C 3 rfl rfl dL_law_874 ?_
        refine ab_iconst (v := nI 1) C dL_law_875 (by decide) ?_
        refine ab_iadd C dL_law_876 ?_
        refine ab_sld C hX hbl h3 (6 * j + 1) (a_i6 j 1) (by omega) (by omega) hx1 dL_law_877 ?_
        refine ab_aload_n C 0 rfl rfl dL_law_878 ?_
        refine ab_iload_n C 3 rfl rfl dL_law_879 ?_
        refine ab_iconst (v := nI 2) C dL_law_880 (by decide) ?_
        refine ab_iadd C dL_law_881 ?_
        refine ab_sld C hX hbl h3 (6 * j + 2) (a_i6 j 2) (by omega) (by omega) hx2 dL_law_882 ?_
        refine ab_aload_n C 0 rfl rfl dL_law_883 ?_
        refine ab_iload_n C 3 rfl rfl dL_law_884 ?_
        refine ab_iconst (v := nI 3) C dL_law_885 (by decide) ?_
        refine ab_iadd C dL_law_886 ?_
        refine ab_sld C hX hbl h3 (6 * j + 3) (a_i6 j 3) (by omega) (by omega) hx3 dL_law_887 ?_
        refine ab_aload_n C 0 rfl rfl dL_law_888 ?_
        refine ab_iload_n C 3 rfl rfl dL_law_889 ?_
        refine ab_iconst (v := nI 4) C dL_law_890 (by decide) ?_
        refine ab_iadd C dL_law_891 ?_
        refine ab_sld C hX hbl h3 (6 * j + 4) (a_i6 j 4) (by omega) (by omega) hx4 dL_law_892 ?_
        refine ab_cV (st := [.int r]) C lm_L_109 (wM_chance (xl X) hw1 (r := (r, m1)) hm) [.int x1, .int x2, .int x3, .int x4] rfl (wAt_m hw1).1 rfl rfl rfl (by decide) ⟨by omega, by omega⟩ (Nat.le_of_ble_eq_true rfl) dL_law_893 (fun v h2 nx2 q2 => ?_)
        obtain ⟨rfl, rfl, hw2⟩ := q2
        show aV X G 4 896 [(0, .ref 3), (1, .ref 4), (2, .ref 46), (3, .int (nI (6 * j)))] [.int r, .int r] h2 nx2 (62 + 8 * j + 0) (3739 + 50 * j + 0)
        refine ab_icmp_eq C 1306 dL_law_896 (by decide) (fun _ => ?_) (fun q => absurd rfl q)
        refine aV.widen (k' := 62 + 8 * (j + 1)) (n' := 3739 + 50 * (j + 1)) (by omega) (by omega) ?_
        exact J c1 m1 h2 nx2 hw2 hI1
      rcases Classical.em (z = (23 : Int32)) with z23 | z23
      · refine ab_tableIn (off := 868) C 901 dL_law_33 (by rw [z23]; decide) (by rw [z23]; decide) (by rw [z23]; rfl) (by decide) ?_
        refine ab_aload_n C 1 rfl rfl dL_law_901 ?_
        refine ab_aload_n C 0 rfl rfl dL_law_902 ?_
        refine ab_iload_n C 3 rfl rfl dL_law_903 ?_
        refine ab_iconst (v := nI 1) C dL_law_904 (by decide) ?_
        refine ab_iadd C dL_law_905 ?_
        refine ab_sld C hX hbl h3 (6 * j + 1) (a_i6 j 1) (by omega) (by omega) hx1 dL_law_906 ?_
        refine ab_aload_n C 0 rfl rfl dL_law_907 ?_
        refine ab_iload_n C 3 rfl rfl dL_law_908 ?_
        refine ab_iconst (v := nI 2) C dL_law_909 (by decide) ?_
        refine ab_iadd C dL_law_910 ?_
        refine ab_sld C hX hbl h3 (6 * j + 2) (a_i6 j 2) (by omega) (by omega) hx2 dL_law_911 ?_
        refine ab_aload_n C 0 rfl rfl dL_law_912 ?_
        refine ab_iload_n C 3 rfl rfl dL_law_913 ?_
        refine ab_iconst (v := nI 3) C dL_law_914 (by decide) ?_
        refine ab_iadd C dL_law_915 ?_
        refine ab_sld C hX hbl h3 (6 * j + 3) (a_i6 j 3) (by omega) (by omega) hx3 dL_law_916 ?_
        obtain ⟨r, c1, m1, hc, hm, hI1⟩ := eq_drawn hI x1 x2 x3
        refine ab_cV (st := []) C lm_L_110 (wC_drawn (xl X) hw (r := (r, c1)) hc) [.int x1, .int x2, .int x3] rfl hw.1 rfl rfl rfl (by decide) ⟨by omega, by omega⟩ (Nat.le_of_ble_eq_true rfl) dL_law_917 (fun v h1 nx1 q1 => ?_)
        obtain ⟨rfl, hw1⟩ := q1
        show aV X G 4 920 [(0, .ref 3), (1, .ref 4), (2, .ref 46), (3, .int (nI (6 * j)))] [.int r] h1 nx1 (62 + 8 * j + 0) (3739 + 50 * j + 0)
        refine ab_aload_n C 2 rfl rfl dL_law_920 ?_
        refine ab_aload_n C 0 rfl rfl dL_law_921 ?_
        refine ab_iload_n C 3 rfl rfl dL_law_922 ?_
        refine ab_iconst (v := nI 1) C dL_law_923 (by decide) ?_
        refine ab_iadd C dL_law_924 ?_
        refine ab_sld C hX hbl h3 (6 * j + 1) (a_i6 j 1) (by omega) (by omega) hx1 dL_law_925 ?_
        refine ab_aload_n C 0 rfl rfl dL_law_926 ?_
        refine ab_iload_n C 3 rfl rfl dL_law_927 ?_
        refine ab_iconst (v := nI 2) C dL_law_928 (by decide) ?_
        refine ab_iadd C dL_law_929 ?_
        refine ab_sld C hX hbl h3 (6 * j + 2) (a_i6 j 2) (by omega) (by omega) hx2 dL_law_930 ?_
        refine ab_aload_n C 0 rfl rfl dL_law_931 ?_
        refine ab_iload_n C 3 rfl rfl dL_law_932 ?_
        refine ab_iconst (v := nI 3) C dL_law_933 (by decide) ?_
        refine ab_iadd C dL_law_934 ?_
        refine ab_sld C hX hbl h3 (6 * j + 3) (a_i6 j 3) (by omega) (by omega) hx3 dL_law_935 ?_
        refine ab_cV (st := [.int r]) C lm_L_113 (wM_drawn (xl X) hw1 (r := (r, m1)) hm) [.int x1, .int x2, .int x3] rfl (wAt_m hw1).1 rfl rfl rfl (by decide) ⟨by omega, by omega⟩ (Nat.le_of_ble_eq_true rfl) dL_law_936 (fun v h2 nx2 q2 => ?_)
        obtain ⟨rfl, rfl, hw2⟩ := q2
        show aV X G 4 939 [(0, .ref 3), (1, .ref 4), (2, .ref 46), (3, .int (nI (6 * j)))] [.int r, .int r] h2 nx2 (62 + 8 * j + 0) (3739 + 50 * j + 0)
        refine ab_icmp_eq C 1306 dL_law_939 (by decide) (fun _ => ?_) (fun q => absurd rfl q)
        refine aV.widen (k' := 62 + 8 * (j + 1)) (n' := 3739 + 50 * (j + 1)) (by omega) (by omega) ?_
        exact J c1 m1 h2 nx2 hw2 hI1
      rcases Classical.em (z = (24 : Int32)) with z24 | z24
      · refine ab_tableIn (off := 911) C 944 dL_law_33 (by rw [z24]; decide) (by rw [z24]; decide) (by rw [z24]; rfl) (by decide) ?_
        refine ab_aload_n C 1 rfl rfl dL_law_944 ?_
        refine ab_aload_n C 0 rfl rfl dL_law_945 ?_
        refine ab_iload_n C 3 rfl rfl dL_law_946 ?_
        refine ab_iconst (v := nI 1) C dL_law_947 (by decide) ?_
        refine ab_iadd C dL_law_948 ?_
        refine ab_sld C hX hbl h3 (6 * j + 1) (a_i6 j 1) (by omega) (by omega) hx1 dL_law_949 ?_
        refine ab_aload_n C 0 rfl rfl dL_law_950 ?_
        refine ab_iload_n C 3 rfl rfl dL_law_951 ?_
        refine ab_iconst (v := nI 2) C dL_law_952 (by decide) ?_
        refine ab_iadd C dL_law_953 ?_
        refine ab_sld C hX hbl h3 (6 * j + 2) (a_i6 j 2) (by omega) (by omega) hx2 dL_law_954 ?_
        refine ab_aload_n C 0 rfl rfl dL_law_955 ?_
        refine ab_iload_n C 3 rfl rfl dL_law_956 ?_
        refine ab_iconst (v := nI 3) C dL_law_957 (by decide) ?_
        refine ab_iadd C dL_law_958 ?_
        refine ab_sld C hX hbl h3 (6 * j + 3) (a_i6 j 3) (by omega) (by omega) hx3 dL_law_959 ?_
        obtain ⟨r, c1, m1, hc, hm, hI1⟩ := eq_sheet hI x1 x2 x3
        refine ab_cV (st := []) C lm_L_114 (wC_sheet (xl X) hw (r := (r, c1)) hc) [.int x1, .int x2, .int x3] rfl hw.1 rfl rfl rfl (by decide) ⟨by omega, by omega⟩ (Nat.le_of_ble_eq_true rfl) dL_law_960 (fun v h1 nx1 q1 => ?_)
        obtain ⟨rfl, hw1⟩ := q1
        show aV X G 4 963 [(0, .ref 3), (1, .ref 4), (2, .ref 46), (3, .int (nI (6 * j)))] [.int r] h1 nx1 (62 + 8 * j + 2) (3739 + 50 * j + 26)
        refine ab_aload_n C 2 rfl rfl dL_law_963 ?_
        refine ab_aload_n C 0 rfl rfl dL_law_964 ?_
        refine ab_iload_n C 3 rfl rfl dL_law_965 ?_
        refine ab_iconst (v := nI 1) C dL_law_966 (by decide) ?_
        refine ab_iadd C dL_law_967 ?_
        refine ab_sld C hX hbl h3 (6 * j + 1) (a_i6 j 1) (by omega) (by omega) hx1 dL_law_968 ?_
        refine ab_aload_n C 0 rfl rfl dL_law_969 ?_
        refine ab_iload_n C 3 rfl rfl dL_law_970 ?_
        refine ab_iconst (v := nI 2) C dL_law_971 (by decide) ?_
        refine ab_iadd C dL_law_972 ?_
        refine ab_sld C hX hbl h3 (6 * j + 2) (a_i6 j 2) (by omega) (by omega) hx2 dL_law_973 ?_
        refine ab_aload_n C 0 rfl rfl dL_law_974 ?_
        refine ab_iload_n C 3 rfl rfl dL_law_975 ?_
        refine ab_iconst (v := nI 3) C dL_law_976 (by decide) ?_
        refine ab_iadd C dL_law_977 ?_
        refine ab_sld C hX hbl h3 (6 * j + 3) (a_i6 j 3) (by omega) (by omega) hx3 dL_law_978 ?_
        refine ab_cV (st := [.int r]) C lm_L_117 (wM_sheet (xl X) hw1 (r := (r, m1)) hm) [.int x1, .int x2, .int x3] rfl (wAt_m hw1).1 rfl rfl rfl (by decide) ⟨by omega, by omega⟩ (Nat.le_of_ble_eq_true rfl) dL_law_979 (fun v h2 nx2 q2 => ?_)
        obtain ⟨rfl, rfl, hw2⟩ := q2
        show aV X G 4 982 [(0, .ref 3), (1, .ref 4), (2, .ref 46), (3, .int (nI (6 * j)))] [.int r, .int r] h2 nx2 (62 + 8 * j + 2) (3739 + 50 * j + 26)
        refine ab_icmp_eq C 1306 dL_law_982 (by decide) (fun _ => ?_) (fun q => absurd rfl q)
        refine aV.widen (k' := 62 + 8 * (j + 1)) (n' := 3739 + 50 * (j + 1)) (by omega) (by omega) ?_
        exact J c1 m1 h2 nx2 hw2 hI1
      rcases Classical.em (z = (25 : Int32)) with z25 | z25
      · refine ab_tableIn (off := 954) C 987 dL_law_33 (by rw [z25]; decide) (by rw [z25]; decide) (by rw [z25]; rfl) (by decide) ?_
        refine ab_aload_n C 1 rfl rfl dL_law_987 ?_
        refine ab_aload_n C 0 rfl rfl dL_law_988 ?_
        refine ab_iload_n C 3 rfl rfl dL_law_989 ?_
        refine ab_iconst (v := nI 1) C dL_law_990 (by decide) ?_
        refine ab_iadd C dL_law_991 ?_
        refine ab_sld C hX hbl h3 (6 * j + 1) (a_i6 j 1) (by omega) (by omega) hx1 dL_law_992 ?_
        obtain ⟨r, c1, m1, hc, hm, hI1⟩ := eq_drop hI x1
        refine ab_cV (st := []) C lm_L_118 (wC_drop (xl X) hw (r := (r, c1)) hc) [.int x1] rfl hw.1 rfl rfl rfl (by decide) ⟨by omega, by omega⟩ (Nat.le_of_ble_eq_true rfl) dL_law_993 (fun v h1 nx1 q1 => ?_)
        obtain ⟨rfl, hw1⟩ := q1
        show aV X G 4 996 [(0, .ref 3), (1, .ref 4), (2, .ref 46), (3, .int (nI (6 * j)))] [.int r] h1 nx1 (62 + 8 * j + 0) (3739 + 50 * j + 0)
        refine ab_aload_n C 2 rfl rfl dL_law_996 ?_
        refine ab_aload_n C 0 rfl rfl dL_law_997 ?_
        refine ab_iload_n C 3 rfl rfl dL_law_998 ?_
        refine ab_iconst (v := nI 1) C dL_law_999 (by decide) ?_
        refine ab_iadd C dL_law_1000 ?_
        refine ab_sld C hX hbl h3 (6 * j + 1) (a_i6 j 1) (by omega) (by omega) hx1 dL_law_1001 ?_
        refine ab_cV (st := [.int r]) C lm_L_121 (wM_drop (xl X) hw1 (r := (r, m1)) hm) [.int x1] rfl (wAt_m hw1).1 rfl rfl rfl (by decide) ⟨by omega, by omega⟩ (Nat.le_of_ble_eq_true rfl) dL_law_1002 (fun v h2 nx2 q2 => ?_)
        obtain ⟨rfl, rfl, hw2⟩ := q2
        show aV X G 4 1005 [(0, .ref 3), (1, .ref 4), (2, .ref 46), (3, .int (nI (6 * j)))] [.int r, .int r] h2 nx2 (62 + 8 * j + 0) (3739 + 50 * j + 0)
        refine ab_icmp_eq C 1306 dL_law_1005 (by decide) (fun _ => ?_) (fun q => absurd rfl q)
        refine aV.widen (k' := 62 + 8 * (j + 1)) (n' := 3739 + 50 * (j + 1)) (by omega) (by omega) ?_
        exact J c1 m1 h2 nx2 hw2 hI1
      rcases Classical.em (z = (26 : Int32)) with z26 | z26
      · refine ab_tableIn (off := 977) C 1010 dL_law_33 (by rw [z26]; decide) (by rw [z26]; decide) (by rw [z26]; rfl) (by decide) ?_
        refine ab_aload_n C 1 rfl rfl dL_law_1010 ?_
        refine ab_aload_n C 0 rfl rfl dL_law_1011 ?_
        refine ab_iload_n C 3 rfl rfl dL_law_1012 ?_
        refine ab_iconst (v := nI 1) C dL_law_1013 (by decide) ?_
        refine ab_iadd C dL_law_1014 ?_
        refine ab_sld C hX hbl h3 (6 * j + 1) (a_i6 j 1) (by omega) (by omega) hx1 dL_law_1015 ?_
        refine ab_aload_n C 0 rfl rfl dL_law_1016 ?_
        refine ab_iload_n C 3 rfl rfl dL_law_1017 ?_
        refine ab_iconst (v := nI 2) C dL_law_1018 (by decide) ?_
        refine ab_iadd C dL_law_1019 ?_
        refine ab_sld C hX hbl h3 (6 * j + 2) (a_i6 j 2) (by omega) (by omega) hx2 dL_law_1020 ?_
        refine ab_aload_n C 0 rfl rfl dL_law_1021 ?_
        refine ab_iload_n C 3 rfl rfl dL_law_1022 ?_
        refine ab_iconst (v := nI 3) C dL_law_1023 (by decide) ?_
        refine ab_iadd C dL_law_1024 ?_
        refine ab_sld C hX hbl h3 (6 * j + 3) (a_i6 j 3) (by omega) (by omega) hx3 dL_law_1025 ?_
        refine ab_aload_n C 0 rfl rfl dL_law_1026 ?_
        refine ab_iload_n C 3 rfl rfl dL_law_1027 ?_
        refine ab_iconst (v := nI 4) C dL_law_1028 (by decide) ?_
        refine ab_iadd C dL_law_1029 ?_
        refine ab_sld C hX hbl h3 (6 * j + 4) (a_i6 j 4) (by omega) (by omega) hx4 dL_law_1030 ?_
        refine ab_i2l C dL_law_1031 ?_
        refine ab_bipush (v := (32 : Int32)) C dL_law_1032 (by decide) ?_
        refine ab_lshl C dL_law_1034 ?_
        refine ab_aload_n C 0 rfl rfl dL_law_1035 ?_
        refine ab_iload_n C 3 rfl rfl dL_law_1036 ?_
        refine ab_iconst (v := nI 5) C dL_law_1037 (by decide) ?_
        refine ab_iadd C dL_law_1038 ?_
        refine ab_sld C hX hbl h3 (6 * j + 5) (a_i6 j 5) (by omega) (by omega) hx5 dL_law_1039 ?_
        refine ab_i2l C dL_law_1040 ?_
        refine ab_ldc2 (v := (4294967295 : Int64)) C dL_law_1041 lq_L_122 ?_
        refine ab_land C dL_law_1044 ?_
        refine ab_lor C dL_law_1045 ?_
        obtain ⟨r, c1, m1, hc, hm, hI1⟩ := eq_item hI x1 x2 x3 (((x4.toInt64) <<< ((32 : Int32).toInt64 &&& 63)) ||| ((x5.toInt64) &&& (4294967295 : Int64)))
        refine ab_cV (st := []) C lm_L_124 (wC_item (xl X) hw (r := (r, c1)) hc) [.int x1, .int x2, .int x3, .long (((x4.toInt64) <<< ((32 : Int32).toInt64 &&& 63)) ||| ((x5.toInt64) &&& (4294967295 : Int64)))] rfl hw.1 rfl rfl rfl (by decide) ⟨by omega, by omega⟩ (Nat.le_of_ble_eq_true rfl) dL_law_1046 (fun v h1 nx1 q1 => ?_)
        obtain ⟨rfl, hw1⟩ := q1
        show aV X G 4 1049 [(0, .ref 3), (1, .ref 4), (2, .ref 46), (3, .int (nI (6 * j)))] [.long r] h1 nx1 (62 + 8 * j + 0) (3739 + 50 * j + 0)
        refine ab_aload_n C 2 rfl rfl dL_law_1049 ?_
        refine ab_aload_n C 0 rfl rfl dL_law_1050 ?_
        refine ab_iload_n C 3 rfl rfl dL_law_1051 ?_
        refine ab_iconst (v := nI 1) C dL_law_1052 (by decide) ?_
        refine ab_iadd C dL_law_1053 ?_
        refine ab_sld C hX hbl h3 (6 * j + 1) (a_i6 j 1) (by omega) (by omega) hx1 dL_law_1054 ?_
        refine ab_aload_n C 0 rfl rfl dL_law_1055 ?_
        refine ab_iload_n C 3 rfl rfl dL_law_1056 ?_
        refine ab_iconst (v := nI 2) C dL_law_1057 (by decide) ?_
        refine ab_iadd C dL_law_1058 ?_
        refine ab_sld C hX hbl h3 (6 * j + 2) (a_i6 j 2) (by omega) (by omega) hx2 dL_law_1059 ?_
        refine ab_aload_n C 0 rfl rfl dL_law_1060 ?_
        refine ab_iload_n C 3 rfl rfl dL_law_1061 ?_
        refine ab_iconst (v := nI 3) C dL_law_1062 (by decide) ?_
        refine ab_iadd C dL_law_1063 ?_
        refine ab_sld C hX hbl h3 (6 * j + 3) (a_i6 j 3) (by omega) (by omega) hx3 dL_law_1064 ?_
        refine ab_aload_n C 0 rfl rfl dL_law_1065 ?_
        refine ab_iload_n C 3 rfl rfl dL_law_1066 ?_
        refine ab_iconst (v := nI 4) C dL_law_1067 (by decide) ?_
        refine ab_iadd C dL_law_1068 ?_
        refine ab_sld C hX hbl h3 (6 * j + 4) (a_i6 j 4) (by omega) (by omega) hx4 dL_law_1069 ?_
        refine ab_i2l C dL_law_1070 ?_
        refine ab_bipush (v := (32 : Int32)) C dL_law_1071 (by decide) ?_
        refine ab_lshl C dL_law_1073 ?_
        refine ab_aload_n C 0 rfl rfl dL_law_1074 ?_
        refine ab_iload_n C 3 rfl rfl dL_law_1075 ?_
        refine ab_iconst (v := nI 5) C dL_law_1076 (by decide) ?_
        refine ab_iadd C dL_law_1077 ?_
        refine ab_sld C hX hbl h3 (6 * j + 5) (a_i6 j 5) (by omega) (by omega) hx5 dL_law_1078 ?_
        refine ab_i2l C dL_law_1079 ?_
        refine ab_ldc2 (v := (4294967295 : Int64)) C dL_law_1080 lq_L_122 ?_
        refine ab_land C dL_law_1083 ?_
        refine ab_lor C dL_law_1084 ?_
        refine ab_cV (st := [.long r]) C lm_L_128 (wM_item (xl X) hw1 (r := (r, m1)) hm) [.int x1, .int x2, .int x3, .long (((x4.toInt64) <<< ((32 : Int32).toInt64 &&& 63)) ||| ((x5.toInt64) &&& (4294967295 : Int64)))] rfl (wAt_m hw1).1 rfl rfl rfl (by decide) ⟨by omega, by omega⟩ (Nat.le_of_ble_eq_true rfl) dL_law_1085 (fun v h2 nx2 q2 => ?_)
        obtain ⟨rfl, rfl, hw2⟩ := q2
        show aV X G 4 1088 [(0, .ref 3), (1, .ref 4), (2, .ref 46), (3, .int (nI (6 * j)))] [.long r, .long r] h2 nx2 (62 + 8 * j + 0) (3739 + 50 * j + 0)
        refine ab_lcmp C dL_law_1088 ?_
        rw [lg_cmp_self]
        refine ab_if_eq C 1306 dL_law_1089 (by decide) (fun _ => ?_) (fun q => absurd rfl q)
        refine aV.widen (k' := 62 + 8 * (j + 1)) (n' := 3739 + 50 * (j + 1)) (by omega) (by omega) ?_
        exact J c1 m1 h2 nx2 hw2 hI1
      rcases Classical.em (z = (27 : Int32)) with z27 | z27
      · refine ab_tableIn (off := 1061) C 1094 dL_law_33 (by rw [z27]; decide) (by rw [z27]; decide) (by rw [z27]; rfl) (by decide) ?_
        refine ab_aload_n C 1 rfl rfl dL_law_1094 ?_
        refine ab_aload_n C 0 rfl rfl dL_law_1095 ?_
        refine ab_iload_n C 3 rfl rfl dL_law_1096 ?_
        refine ab_iconst (v := nI 1) C dL_law_1097 (by decide) ?_
        refine ab_iadd C dL_law_1098 ?_
        refine ab_sld C hX hbl h3 (6 * j + 1) (a_i6 j 1) (by omega) (by omega) hx1 dL_law_1099 ?_
        refine ab_aload_n C 0 rfl rfl dL_law_1100 ?_
        refine ab_iload_n C 3 rfl rfl dL_law_1101 ?_
        refine ab_iconst (v := nI 2) C dL_law_1102 (by decide) ?_
        refine ab_iadd C dL_law_1103 ?_
        refine ab_sld C hX hbl h3 (6 * j + 2) (a_i6 j 2) (by omega) (by omega) hx2 dL_law_1104 ?_
        refine ab_aload_n C 0 rfl rfl dL_law_1105 ?_
        refine ab_iload_n C 3 rfl rfl dL_law_1106 ?_
        refine ab_iconst (v := nI 3) C dL_law_1107 (by decide) ?_
        refine ab_iadd C dL_law_1108 ?_
        refine ab_sld C hX hbl h3 (6 * j + 3) (a_i6 j 3) (by omega) (by omega) hx3 dL_law_1109 ?_
        refine ab_aload_n C 0 rfl rfl dL_law_1110 ?_
        refine ab_iload_n C 3 rfl rfl dL_law_1111 ?_
        refine ab_iconst (v := nI 4) C dL_law_1112 (by decide) ?_
        refine ab_iadd C dL_law_1113 ?_
        refine ab_sld C hX hbl h3 (6 * j + 4) (a_i6 j 4) (by omega) (by omega) hx4 dL_law_1114 ?_
        refine ab_aload_n C 0 rfl rfl dL_law_1115 ?_
        refine ab_iload_n C 3 rfl rfl dL_law_1116 ?_
        refine ab_iconst (v := nI 5) C dL_law_1117 (by decide) ?_
        refine ab_iadd C dL_law_1118 ?_
        refine ab_sld C hX hbl h3 (6 * j + 5) (a_i6 j 5) (by omega) (by omega) hx5 dL_law_1119 ?_
        obtain ⟨r, c1, m1, hc, hm, hI1⟩ := eq_copy hI x1 x2 x3 x4 x5
        refine ab_cV (st := []) C lm_L_129 (wC_copy (xl X) hw (r := (r, c1)) hc) [.int x1, .int x2, .int x3, .int x4, .int x5] rfl hw.1 rfl rfl rfl (by decide) ⟨by omega, by omega⟩ (Nat.le_of_ble_eq_true rfl) dL_law_1120 (fun v h1 nx1 q1 => ?_)
        obtain ⟨rfl, hw1⟩ := q1
        show aV X G 4 1123 [(0, .ref 3), (1, .ref 4), (2, .ref 46), (3, .int (nI (6 * j)))] [.int r] h1 nx1 (62 + 8 * j + 0) (3739 + 50 * j + 0)
        refine ab_aload_n C 2 rfl rfl dL_law_1123 ?_
        refine ab_aload_n C 0 rfl rfl dL_law_1124 ?_
        refine ab_iload_n C 3 rfl rfl dL_law_1125 ?_
        refine ab_iconst (v := nI 1) C dL_law_1126 (by decide) ?_
        refine ab_iadd C dL_law_1127 ?_
        refine ab_sld C hX hbl h3 (6 * j + 1) (a_i6 j 1) (by omega) (by omega) hx1 dL_law_1128 ?_
        refine ab_aload_n C 0 rfl rfl dL_law_1129 ?_
        refine ab_iload_n C 3 rfl rfl dL_law_1130 ?_
        refine ab_iconst (v := nI 2) C dL_law_1131 (by decide) ?_
        refine ab_iadd C dL_law_1132 ?_
        refine ab_sld C hX hbl h3 (6 * j + 2) (a_i6 j 2) (by omega) (by omega) hx2 dL_law_1133 ?_
        refine ab_aload_n C 0 rfl rfl dL_law_1134 ?_
        refine ab_iload_n C 3 rfl rfl dL_law_1135 ?_
        refine ab_iconst (v := nI 3) C dL_law_1136 (by decide) ?_
        refine ab_iadd C dL_law_1137 ?_
        refine ab_sld C hX hbl h3 (6 * j + 3) (a_i6 j 3) (by omega) (by omega) hx3 dL_law_1138 ?_
        refine ab_aload_n C 0 rfl rfl dL_law_1139 ?_
        refine ab_iload_n C 3 rfl rfl dL_law_1140 ?_
        refine ab_iconst (v := nI 4) C dL_law_1141 (by decide) ?_
        refine ab_iadd C dL_law_1142 ?_
        refine ab_sld C hX hbl h3 (6 * j + 4) (a_i6 j 4) (by omega) (by omega) hx4 dL_law_1143 ?_
        refine ab_aload_n C 0 rfl rfl dL_law_1144 ?_
        refine ab_iload_n C 3 rfl rfl dL_law_1145 ?_
        refine ab_iconst (v := nI 5) C dL_law_1146 (by decide) ?_
        refine ab_iadd C dL_law_1147 ?_
        refine ab_sld C hX hbl h3 (6 * j + 5) (a_i6 j 5) (by omega) (by omega) hx5 dL_law_1148 ?_
        refine ab_cV (st := [.int r]) C lm_L_133 (wM_copy (xl X) hw1 (r := (r, m1)) hm) [.int x1, .int x2, .int x3, .int x4, .int x5] rfl (wAt_m hw1).1 rfl rfl rfl (by decide) ⟨by omega, by omega⟩ (Nat.le_of_ble_eq_true rfl) dL_law_1149 (fun v h2 nx2 q2 => ?_)
        obtain ⟨rfl, rfl, hw2⟩ := q2
        show aV X G 4 1152 [(0, .ref 3), (1, .ref 4), (2, .ref 46), (3, .int (nI (6 * j)))] [.int r, .int r] h2 nx2 (62 + 8 * j + 0) (3739 + 50 * j + 0)
        refine ab_icmp_eq C 1306 dL_law_1152 (by decide) (fun _ => ?_) (fun q => absurd rfl q)
        refine aV.widen (k' := 62 + 8 * (j + 1)) (n' := 3739 + 50 * (j + 1)) (by omega) (by omega) ?_
        exact J c1 m1 h2 nx2 hw2 hI1
      rcases Classical.em (z = (28 : Int32)) with z28 | z28
      · refine ab_tableIn (off := 1124) C 1157 dL_law_33 (by rw [z28]; decide) (by rw [z28]; decide) (by rw [z28]; rfl) (by decide) ?_
        refine ab_aload_n C 1 rfl rfl dL_law_1157 ?_
        refine ab_aload_n C 0 rfl rfl dL_law_1158 ?_
        refine ab_iload_n C 3 rfl rfl dL_law_1159 ?_
        refine ab_iconst (v := nI 1) C dL_law_1160 (by decide) ?_
        refine ab_iadd C dL_law_1161 ?_
        refine ab_sld C hX hbl h3 (6 * j + 1) (a_i6 j 1) (by omega) (by omega) hx1 dL_law_1162 ?_
        refine ab_aload_n C 0 rfl rfl dL_law_1163 ?_
        refine ab_iload_n C 3 rfl rfl dL_law_1164 ?_
        refine ab_iconst (v := nI 2) C dL_law_1165 (by decide) ?_
        refine ab_iadd C dL_law_1166 ?_
        refine ab_sld C hX hbl h3 (6 * j + 2) (a_i6 j 2) (by omega) (by omega) hx2 dL_law_1167 ?_
        refine ab_aload_n C 0 rfl rfl dL_law_1168 ?_
        refine ab_iload_n C 3 rfl rfl dL_law_1169 ?_
        refine ab_iconst (v := nI 3) C dL_law_1170 (by decide) ?_
        refine ab_iadd C dL_law_1171 ?_
        refine ab_sld C hX hbl h3 (6 * j + 3) (a_i6 j 3) (by omega) (by omega) hx3 dL_law_1172 ?_
        refine ab_aload_n C 0 rfl rfl dL_law_1173 ?_
        refine ab_iload_n C 3 rfl rfl dL_law_1174 ?_
        refine ab_iconst (v := nI 4) C dL_law_1175 (by decide) ?_
        refine ab_iadd C dL_law_1176 ?_
        refine ab_sld C hX hbl h3 (6 * j + 4) (a_i6 j 4) (by omega) (by omega) hx4 dL_law_1177 ?_
        refine ab_aload_n C 0 rfl rfl dL_law_1178 ?_
        refine ab_iload_n C 3 rfl rfl dL_law_1179 ?_
        refine ab_iconst (v := nI 5) C dL_law_1180 (by decide) ?_
        refine ab_iadd C dL_law_1181 ?_
        refine ab_sld C hX hbl h3 (6 * j + 5) (a_i6 j 5) (by omega) (by omega) hx5 dL_law_1182 ?_
        obtain ⟨r, c1, m1, hc, hm, hI1⟩ := eq_film hI x1 x2 x3 x4 x5
        refine ab_cV (st := []) C lm_L_134 (wC_film (xl X) hw (r := (r, c1)) hc) [.int x1, .int x2, .int x3, .int x4, .int x5] rfl hw.1 rfl rfl rfl (by decide) ⟨by omega, by omega⟩ (Nat.le_of_ble_eq_true rfl) dL_law_1183 (fun v h1 nx1 q1 => ?_)
        obtain ⟨rfl, hw1⟩ := q1
        show aV X G 4 1186 [(0, .ref 3), (1, .ref 4), (2, .ref 46), (3, .int (nI (6 * j)))] [.int r] h1 nx1 (62 + 8 * j + 0) (3739 + 50 * j + 0)
        refine ab_aload_n C 2 rfl rfl dL_law_1186 ?_
        refine ab_aload_n C 0 rfl rfl dL_law_1187 ?_
        refine ab_iload_n C 3 rfl rfl dL_law_1188 ?_
        refine ab_iconst (v := nI 1) C dL_law_1189 (by decide) ?_
        refine ab_iadd C dL_law_1190 ?_
        refine ab_sld C hX hbl h3 (6 * j + 1) (a_i6 j 1) (by omega) (by omega) hx1 dL_law_1191 ?_
        refine ab_aload_n C 0 rfl rfl dL_law_1192 ?_
        refine ab_iload_n C 3 rfl rfl dL_law_1193 ?_
        refine ab_iconst (v := nI 2) C dL_law_1194 (by decide) ?_
        refine ab_iadd C dL_law_1195 ?_
        refine ab_sld C hX hbl h3 (6 * j + 2) (a_i6 j 2) (by omega) (by omega) hx2 dL_law_1196 ?_
        refine ab_aload_n C 0 rfl rfl dL_law_1197 ?_
        refine ab_iload_n C 3 rfl rfl dL_law_1198 ?_
        refine ab_iconst (v := nI 3) C dL_law_1199 (by decide) ?_
        refine ab_iadd C dL_law_1200 ?_
        refine ab_sld C hX hbl h3 (6 * j + 3) (a_i6 j 3) (by omega) (by omega) hx3 dL_law_1201 ?_
        refine ab_aload_n C 0 rfl rfl dL_law_1202 ?_
        refine ab_iload_n C 3 rfl rfl dL_law_1203 ?_
        refine ab_iconst (v := nI 4) C dL_law_1204 (by decide) ?_
        refine ab_iadd C dL_law_1205 ?_
        refine ab_sld C hX hbl h3 (6 * j + 4) (a_i6 j 4) (by omega) (by omega) hx4 dL_law_1206 ?_
        refine ab_aload_n C 0 rfl rfl dL_law_1207 ?_
        refine ab_iload_n C 3 rfl rfl dL_law_1208 ?_
        refine ab_iconst (v := nI 5) C dL_law_1209 (by decide) ?_
        refine ab_iadd C dL_law_1210 ?_
        refine ab_sld C hX hbl h3 (6 * j + 5) (a_i6 j 5) (by omega) (by omega) hx5 dL_law_1211 ?_
        refine ab_cV (st := [.int r]) C lm_L_137 (wM_film (xl X) hw1 (r := (r, m1)) hm) [.int x1, .int x2, .int x3, .int x4, .int x5] rfl (wAt_m hw1).1 rfl rfl rfl (by decide) ⟨by omega, by omega⟩ (Nat.le_of_ble_eq_true rfl) dL_law_1212 (fun v h2 nx2 q2 => ?_)
        obtain ⟨rfl, rfl, hw2⟩ := q2
        show aV X G 4 1215 [(0, .ref 3), (1, .ref 4), (2, .ref 46), (3, .int (nI (6 * j)))] [.int r, .int r] h2 nx2 (62 + 8 * j + 0) (3739 + 50 * j + 0)
        refine ab_icmp_eq C 1306 dL_law_1215 (by decide) (fun _ => ?_) (fun q => absurd rfl q)
        refine aV.widen (k' := 62 + 8 * (j + 1)) (n' := 3739 + 50 * (j + 1)) (by omega) (by omega) ?_
        exact J c1 m1 h2 nx2 hw2 hI1
      rcases Classical.em (z = (29 : Int32)) with z29 | z29
      · refine ab_tableIn (off := 1187) C 1220 dL_law_33 (by rw [z29]; decide) (by rw [z29]; decide) (by rw [z29]; rfl) (by decide) ?_
        refine ab_aload_n C 1 rfl rfl dL_law_1220 ?_
        refine ab_aload_n C 0 rfl rfl dL_law_1221 ?_
        refine ab_iload_n C 3 rfl rfl dL_law_1222 ?_
        refine ab_iconst (v := nI 1) C dL_law_1223 (by decide) ?_
        refine ab_iadd C dL_law_1224 ?_
        refine ab_sld C hX hbl h3 (6 * j + 1) (a_i6 j 1) (by omega) (by omega) hx1 dL_law_1225 ?_
        refine ab_aload_n C 0 rfl rfl dL_law_1226 ?_
        refine ab_iload_n C 3 rfl rfl dL_law_1227 ?_
        refine ab_iconst (v := nI 2) C dL_law_1228 (by decide) ?_
        refine ab_iadd C dL_law_1229 ?_
        refine ab_sld C hX hbl h3 (6 * j + 2) (a_i6 j 2) (by omega) (by omega) hx2 dL_law_1230 ?_
        refine ab_aload_n C 0 rfl rfl dL_law_1231 ?_
        refine ab_iload_n C 3 rfl rfl dL_law_1232 ?_
        refine ab_iconst (v := nI 3) C dL_law_1233 (by decide) ?_
        refine ab_iadd C dL_law_1234 ?_
        refine ab_sld C hX hbl h3 (6 * j + 3) (a_i6 j 3) (by omega) (by omega) hx3 dL_law_1235 ?_
        refine ab_aload_n C 0 rfl rfl dL_law_1236 ?_
        refine ab_iload_n C 3 rfl rfl dL_law_1237 ?_
        refine ab_iconst (v := nI 4) C dL_law_1238 (by decide) ?_
        refine ab_iadd C dL_law_1239 ?_
        refine ab_sld C hX hbl h3 (6 * j + 4) (a_i6 j 4) (by omega) (by omega) hx4 dL_law_1240 ?_
        refine ab_aload_n C 0 rfl rfl dL_law_1241 ?_
        refine ab_iload_n C 3 rfl rfl dL_law_1242 ?_
        refine ab_iconst (v := nI 5) C dL_law_1243 (by decide) ?_
        refine ab_iadd C dL_law_1244 ?_
        refine ab_sld C hX hbl h3 (6 * j + 5) (a_i6 j 5) (by omega) (by omega) hx5 dL_law_1245 ?_
        obtain ⟨r, c1, m1, hc, hm, hI1⟩ := eq_changes hI x1 x2 x3 x4 x5
        refine ab_cV (st := []) C lm_L_138 (wC_changes (xl X) hw (r := (r, c1)) hc) [.int x1, .int x2, .int x3, .int x4, .int x5] rfl hw.1 rfl rfl rfl (by decide) ⟨by omega, by omega⟩ (Nat.le_of_ble_eq_true rfl) dL_law_1246 (fun v h1 nx1 q1 => ?_)
        obtain ⟨rfl, hw1⟩ := q1
        show aV X G 4 1249 [(0, .ref 3), (1, .ref 4), (2, .ref 46), (3, .int (nI (6 * j)))] [.int r] h1 nx1 (62 + 8 * j + 0) (3739 + 50 * j + 0)
        refine ab_aload_n C 2 rfl rfl dL_law_1249 ?_
        refine ab_aload_n C 0 rfl rfl dL_law_1250 ?_
        refine ab_iload_n C 3 rfl rfl dL_law_1251 ?_
        refine ab_iconst (v := nI 1) C dL_law_1252 (by decide) ?_
        refine ab_iadd C dL_law_1253 ?_
        refine ab_sld C hX hbl h3 (6 * j + 1) (a_i6 j 1) (by omega) (by omega) hx1 dL_law_1254 ?_
        refine ab_aload_n C 0 rfl rfl dL_law_1255 ?_
        refine ab_iload_n C 3 rfl rfl dL_law_1256 ?_
        refine ab_iconst (v := nI 2) C dL_law_1257 (by decide) ?_
        refine ab_iadd C dL_law_1258 ?_
        refine ab_sld C hX hbl h3 (6 * j + 2) (a_i6 j 2) (by omega) (by omega) hx2 dL_law_1259 ?_
        refine ab_aload_n C 0 rfl rfl dL_law_1260 ?_
        refine ab_iload_n C 3 rfl rfl dL_law_1261 ?_
        refine ab_iconst (v := nI 3) C dL_law_1262 (by decide) ?_
        refine ab_iadd C dL_law_1263 ?_
        refine ab_sld C hX hbl h3 (6 * j + 3) (a_i6 j 3) (by omega) (by omega) hx3 dL_law_1264 ?_
        refine ab_aload_n C 0 rfl rfl dL_law_1265 ?_
        refine ab_iload_n C 3 rfl rfl dL_law_1266 ?_
        refine ab_iconst (v := nI 4) C dL_law_1267 (by decide) ?_
        refine ab_iadd C dL_law_1268 ?_
        refine ab_sld C hX hbl h3 (6 * j + 4) (a_i6 j 4) (by omega) (by omega) hx4 dL_law_1269 ?_
        refine ab_aload_n C 0 rfl rfl dL_law_1270 ?_
        refine ab_iload_n C 3 rfl rfl dL_law_1271 ?_
        refine ab_iconst (v := nI 5) C dL_law_1272 (by decide) ?_
        refine ab_iadd C dL_law_1273 ?_
        refine ab_sld C hX hbl h3 (6 * j + 5) (a_i6 j 5) (by omega) (by omega) hx5 dL_law_1274 ?_
        refine ab_cV (st := [.int r]) C lm_L_141 (wM_changes (xl X) hw1 (r := (r, m1)) hm) [.int x1, .int x2, .int x3, .int x4, .int x5] rfl (wAt_m hw1).1 rfl rfl rfl (by decide) ⟨by omega, by omega⟩ (Nat.le_of_ble_eq_true rfl) dL_law_1275 (fun v h2 nx2 q2 => ?_)
        obtain ⟨rfl, rfl, hw2⟩ := q2
        show aV X G 4 1278 [(0, .ref 3), (1, .ref 4), (2, .ref 46), (3, .int (nI (6 * j)))] [.int r, .int r] h2 nx2 (62 + 8 * j + 0) (3739 + 50 * j + 0)
        refine ab_icmp_eq C 1306 dL_law_1278 (by decide) (fun _ => ?_) (fun q => absurd rfl q)
        refine aV.widen (k' := 62 + 8 * (j + 1)) (n' := 3739 + 50 * (j + 1)) (by omega) (by omega) ?_
        exact J c1 m1 h2 nx2 hw2 hI1
      rcases Classical.em (z = (30 : Int32)) with z30 | z30
      · refine ab_tableIn (off := 1250) C 1283 dL_law_33 (by rw [z30]; decide) (by rw [z30]; decide) (by rw [z30]; rfl) (by decide) ?_
        refine ab_aload_n C 1 rfl rfl dL_law_1283 ?_
        refine ab_aload_n C 0 rfl rfl dL_law_1284 ?_
        refine ab_iload_n C 3 rfl rfl dL_law_1285 ?_
        refine ab_iconst (v := nI 1) C dL_law_1286 (by decide) ?_
        refine ab_iadd C dL_law_1287 ?_
        refine ab_sld C hX hbl h3 (6 * j + 1) (a_i6 j 1) (by omega) (by omega) hx1 dL_law_1288 ?_
        obtain ⟨r, c1, m1, hc, hm, hI1⟩ := eq_count hI x1
        refine ab_cV (st := []) C lm_L_142 (wC_count (xl X) hw (r := (r, c1)) hc) [.int x1] rfl hw.1 rfl rfl rfl (by decide) ⟨by omega, by omega⟩ (Nat.le_of_ble_eq_true rfl) dL_law_1289 (fun v h1 nx1 q1 => ?_)
        obtain ⟨rfl, hw1⟩ := q1
        show aV X G 4 1292 [(0, .ref 3), (1, .ref 4), (2, .ref 46), (3, .int (nI (6 * j)))] [.int r] h1 nx1 (62 + 8 * j + 0) (3739 + 50 * j + 0)
        refine ab_aload_n C 2 rfl rfl dL_law_1292 ?_
        refine ab_aload_n C 0 rfl rfl dL_law_1293 ?_
        refine ab_iload_n C 3 rfl rfl dL_law_1294 ?_
        refine ab_iconst (v := nI 1) C dL_law_1295 (by decide) ?_
        refine ab_iadd C dL_law_1296 ?_
        refine ab_sld C hX hbl h3 (6 * j + 1) (a_i6 j 1) (by omega) (by omega) hx1 dL_law_1297 ?_
        refine ab_cV (st := [.int r]) C lm_L_145 (wM_count (xl X) hw1 (r := (r, m1)) hm) [.int x1] rfl (wAt_m hw1).1 rfl rfl rfl (by decide) ⟨by omega, by omega⟩ (Nat.le_of_ble_eq_true rfl) dL_law_1298 (fun v h2 nx2 q2 => ?_)
        obtain ⟨rfl, rfl, hw2⟩ := q2
        show aV X G 4 1301 [(0, .ref 3), (1, .ref 4), (2, .ref 46), (3, .int (nI (6 * j)))] [.int r, .int r] h2 nx2 (62 + 8 * j + 0) (3739 + 50 * j + 0)
        refine ab_icmp_eq C 1306 dL_law_1301 (by decide) (fun _ => ?_) (fun q => absurd rfl q)
        refine aV.widen (k' := 62 + 8 * (j + 1)) (n' := 3739 + 50 * (j + 1)) (by omega) (by omega) ?_
        exact J c1 m1 h2 nx2 hw2 hI1
      refine ab_tableOut C 1306 dL_law_33 (by have w0 := lv_neT (a := 0) z0 (by decide); have w1 := lv_neT (a := 1) z1 (by decide); have w2 := lv_neT (a := 2) z2 (by decide); have w3 := lv_neT (a := 3) z3 (by decide); have w4 := lv_neT (a := 4) z4 (by decide); have w5 := lv_neT (a := 5) z5 (by decide); have w6 := lv_neT (a := 6) z6 (by decide); have w7 := lv_neT (a := 7) z7 (by decide); have w8 := lv_neT (a := 8) z8 (by decide); have w9 := lv_neT (a := 9) z9 (by decide); have w10 := lv_neT (a := 10) z10 (by decide); have w11 := lv_neT (a := 11) z11 (by decide); have w12 := lv_neT (a := 12) z12 (by decide); have w13 := lv_neT (a := 13) z13 (by decide); have w14 := lv_neT (a := 14) z14 (by decide); have w15 := lv_neT (a := 15) z15 (by decide); have w16 := lv_neT (a := 16) z16 (by decide); have w17 := lv_neT (a := 17) z17 (by decide); have w18 := lv_neT (a := 18) z18 (by decide); have w19 := lv_neT (a := 19) z19 (by decide); have w20 := lv_neT (a := 20) z20 (by decide); have w21 := lv_neT (a := 21) z21 (by decide); have w22 := lv_neT (a := 22) z22 (by decide); have w23 := lv_neT (a := 23) z23 (by decide); have w24 := lv_neT (a := 24) z24 (by decide); have w25 := lv_neT (a := 25) z25 (by decide); have w26 := lv_neT (a := 26) z26 (by decide); have w27 := lv_neT (a := 27) z27 (by decide); have w28 := lv_neT (a := 28) z28 (by decide); have w29 := lv_neT (a := 29) z29 (by decide); have w30 := lv_neT (a := 30) z30 (by decide); omega) (by decide) ?_
      refine aV.widen (k' := 62 + 8 * (j + 1)) (n' := 3739 + 50 * (j + 1)) (by omega) (by omega) ?_
      exact J c m h nx hw hI
def c0 : CSt := (zR, zR, zR, ((fun _ => none), (fun _ => none), (fun _ => none), (fun _ => 0), (fun _ => zR), 66), zR, zR, zR, zR, zR, zR)
def m0 : Rec := (sA zR 26 (upd (upd (upd (upd (fun _ => 0) 0 (-1)) 1 (-1)) 2 (-1)) 3 (-1)))
set_option maxRecDepth 100000 in
set_option maxHeartbeats 8000000 in
theorem law_first {p : Program} {l : Launch} {e : Env} {s : State} {m : MethodId} {below : List Frame} {meth : Method} {c : Code} {G : aG} {b L : Nat} {xv : Nat → Int32} (hL : L ≤ 3072) (hr : meth.sig.returnType = ret) (hlocks : meth.locks = false) (hbl : b < s.heap.size) (hX : va_X b L xv s s.heap) (h3 : G.2.2.2 3 = b) (hlow : G.2.2.1 + 4 = s.heap.size)
    (C : aC (p, l, e, room_1, s, m, #[Value.ref b], below, meth, c, lw_Z below #[Value.ref b] s) G code 4 100 5000 40000 RL) (hI0 : Inv c0 m0) : aV (p, l, e, room_1, s, m, #[Value.ref b], below, meth, c, lw_Z below #[Value.ref b] s) G 4 0 [(0, .ref 3)] [] aE 4 0 0 := by
  have LL := law_loop hL hr hlocks hbl hX h3 hlow C
  generalize hXX : ((p, l, e, room_1, s, m, #[Value.ref b], below, meth, c, lw_Z below #[Value.ref b] s) : aX) = X at C LL ⊢
  refine ab_new C (ci := 8) (fs := [.null, .null, .null, .null, .null, .null, .null, .null, .null, .null, .null]) tyX8 tyX8_ok rfl inX8 (a_mem 73 (by decide +kernel) (by decide +kernel)) (a_mem 74 (by decide +kernel) (by decide +kernel)) (a_mem 54 (by decide +kernel) (by decide +kernel)) (fun G j hj => by rcases (show j = 0 ∨ j = 1 ∨ j = 2 ∨ j = 3 ∨ j = 4 ∨ j = 5 ∨ j = 6 ∨ j = 7 ∨ j = 8 ∨ j = 9 ∨ j = 10 by omega) with rfl | rfl | rfl | rfl | rfl | rfl | rfl | rfl | rfl | rfl | rfl <;> rfl) (by decide) ⟨by decide, by decide⟩ dL_law_0 (fun g1 eg1 og1 => ?_)
  refine ab_dup C rfl dL_law_3 ?_
  refine ab_cI (st := [.ref 4]) C lm_L_9 (X8_init_ok (xl X) eg1) [] rfl (by decide) rfl rfl (by decide) ⟨by decide, by decide⟩ (Nat.le_of_ble_eq_true rfl) dL_law_4 (fun v g2 nx2 p2 => ?_)
  obtain ⟨rfl, rfl, b_X, b_tape, b_now, b_past, b_images, b_sheets, b_trial, b_earlier, b_sets, b_survey, b_marriages, b_finder, -⟩ := p2
  show aV X G 4 7 [(0, .ref 3)] [.ref 4] g2 46 42 524
  refine ab_astore_n (lv' := [(1, .ref 4), (0, .ref 3)]) C dL_law_7 rfl (by decide) rfl ?_
  refine ab_new C (ci := 9) (fs := [.null, .null, .null, .null, .int 0, .null, .int 0, .int 0, .int 0, .null, .null, .null, .null, .int 0, .int 0, .null, .null, .null, .null, .null, .int 0, .int 0, .null, .int 0, .int 0, .int 0, .null, .null, .null, .null]) tyX9 tyX9_ok rfl inX9 (a_mem 915 (by decide +kernel) (by decide +kernel)) (a_mem 916 (by decide +kernel) (by decide +kernel)) (a_mem 63 (by decide +kernel) (by decide +kernel)) (fun G j hj => by rcases (show j = 0 ∨ j = 1 ∨ j = 2 ∨ j = 3 ∨ j = 4 ∨ j = 5 ∨ j = 6 ∨ j = 7 ∨ j = 8 ∨ j = 9 ∨ j = 10 ∨ j = 11 ∨ j = 12 ∨ j = 13 ∨ j = 14 ∨ j = 15 ∨ j = 16 ∨ j = 17 ∨ j = 18 ∨ j = 19 ∨ j = 20 ∨ j = 21 ∨ j = 22 ∨ j = 23 ∨ j = 24 ∨ j = 25 ∨ j = 26 ∨ j = 27 ∨ j = 28 ∨ j = 29 by omega) with rfl | rfl | rfl | rfl | rfl | rfl | rfl | rfl | rfl | rfl | rfl | rfl | rfl | rfl | rfl | rfl | rfl | rfl | rfl | rfl | rfl | rfl | rfl | rfl | rfl | rfl | rfl | rfl | rfl | rfl <;> rfl) (by decide) ⟨by decide, by decide⟩ dL_law_8 (fun g3 eg3 og3 => ?_)
  refine ab_dup C rfl dL_law_11 ?_
  refine ab_cI (st := [.ref 46]) C lm_L_12 (X9_init_ok (xl X) (a0 := 46) (by decide) rfl eg3) [] rfl (by decide) rfl rfl (by decide) ⟨by decide, by decide⟩ (Nat.le_of_ble_eq_true rfl) dL_law_12 (fun v g4 nx4 p4 => ?_)
  obtain ⟨rfl, rfl, hm, o4⟩ := p4
  have oo : ∀ q, q < 46 → g4 q = g2 q := fun q u => (o4 q u).trans (og3 q (by omega))
  show aV X G 4 15 [(1, .ref 4), (0, .ref 3)] [.ref 46] g4 66 62 3739
  refine ab_astore_n (lv' := [(2, .ref 46), (1, .ref 4), (0, .ref 3)]) C dL_law_15 rfl (by decide) rfl ?_
  refine ab_iconst (v := (0 : Int32)) C dL_law_16 (by decide) ?_
  refine ab_istore_n (lv' := [(3, .int 0), (2, .ref 46), (1, .ref 4), (0, .ref 3)]) C dL_law_17 rfl (by decide) rfl ?_
  refine aV.sub (lv' := [(0, .ref 3), (1, .ref 4), (2, .ref 46), (3, .int (nI (6 * 0)))]) [3, 2, 1, 0] rfl ?_
  exact LL 513 0 c0 m0 g4 66 (by omega) (by omega) ⟨(oo 4 (by omega)).trans b_X, X7_off b_tape (fun q i1 i2 => oo q (by omega)), X2_off b_now (fun q i1 i2 => oo q (by omega)), X4_off b_past (fun q i1 i2 => oo q (by omega)), ⟨(oo 17 (by omega)).trans b_images, (oo 18 (by omega)).trans b_sheets, Nat.le_refl _, fun i hi q hq => by simp [xrf, c0] at hq, fun i j _ _ _ q r hq => by simp [xrf, c0] at hq⟩, X2_off b_trial (fun q i1 i2 => oo q (by omega)), X2_off b_earlier (fun q i1 i2 => oo q (by omega)), X0_off b_sets (fun q i1 i2 => oo q (by omega)), X6_off b_survey (fun q i1 i2 => oo q (by omega)), X3_off b_marriages (fun q i1 i2 => oo q (by omega)), X1_off b_finder (fun q i1 i2 => oo q (by omega)), rfl, hm⟩ hI0
