/-! THE CLAIM OUT OF ONE WALK OF THE LAW'S BODY. Your part is whole_start (and what it stands on); all else here is the same for every law, but numbers. -/
def R_law : String := "ZigzagPiecesLaw"
def lw_P (b : Addr) (xs : List Int32) (args : Array Value) (s : State) : Prop := args = #[.ref b] ∧ s.IntsAt b xs ∧ xs.length ≤ 2048 ∧ (Jvm.Cond.and given_1 narrow_1).before args s = true
def lw_Q (_ : Array Value) (s : State) (o : Outcome) (t : State) : Prop := o = .returned (some (.int 1)) ∧ Framed s o t [] 600000 7302250
def lw_Z (below : List Frame) (a : Array Value) (s : State) : State → Prop := fun t => ∃ o, t.status = .running ∧ Ended t below o ∧ lw_Q a s o t
/-- the law's own end, with 1 on the stack, nothing written that was there before, its room as the claim has it -/
theorem lw_ret {p : Program} {l : Launch} {e : Env} {s : State} {m : MethodId} {below : List Frame} {meth : Method} {c : Code} {b : Nat} (hx : p.tables.exec = Jvm.exec) (hb : c.code = code) (hr : meth.sig.returnType = ret) (hlocks : meth.locks = false) {pc : Nat} {H : Heap} {ls : Array Slot} (hdg : decode code pc = .ok (.ireturn, 1)) : W p l e room_1 s m #[Value.ref b] below meth c H [] 600000 7302250 (lw_Z below #[Value.ref b] s) (F0 m pc ls [.int 1]) := by
  intro T hT X
  obtain ⟨fs, hret, hrun, hended, hW, hframe⟩ := X.leave (v := some (.int 1)) (hlocks := hlocks) (fun h => by rw [hr] at h; cases h)
  have hmeth' : T.vm.method? m = some meth := X.method'
  refine ⟨T.setFrames fs, ?_, .returned (some (.int 1)), hrun, hended, rfl, ⟨_, rfl⟩, hW, hframe⟩
  jvm_step X.here [X.here.top, hx, hb, hdg, hmeth', hr, ret, narrow_b1]
  (try refine ⟨rfl, ?_⟩); (try refine ⟨rfl, ?_⟩)
  first | (intro acts; rw [hret _ acts rfl rfl rfl]) | rw [hret _ _ rfl rfl rfl]
  exact Steps.refl _
/-- what holds at the law's entry: the machine, the code, the tables' words (any of lw_tbl by 'hts w (by decide +kernel)'), the script of L ints xs at the cell b, what the Statement gives of the start (any of its parts by flat_of_before) -/
def lw_At (p : Program) (s : State) (m : MethodId) (meth : Method) (c : Code) (b L : Nat) (xs : Nat → Int32) : Prop :=
  p.tables.exec = Jvm.exec ∧ c.code = code ∧ meth.sig.returnType = ret ∧ c.maxLocals = 4 ∧ s.vm.findClass R_law = some m.cls ∧ (∀ w ∈ lw_tbl, w.before #[Value.ref b] s = true) ∧ va_X b L xs s s.heap ∧ b < s.heap.size ∧ meth.locks = false ∧ (Jvm.Cond.and given_1 narrow_1).before #[Value.ref b] s = true
/-! the law: its instructions, its links (printed by wip/whole/p62.py) -/
theorem dL_0 : decode code 0 = .ok (.new 7, 3) := by decide +kernel
theorem dL_3 : decode code 3 = .ok (.dup, 1) := by decide +kernel
theorem dL_4 : decode code 4 = .ok (.invokespecial 9, 3) := by decide +kernel
theorem dL_7 : decode code 7 = .ok (.astore_n 1, 1) := by decide +kernel
theorem dL_8 : decode code 8 = .ok (.new 10, 3) := by decide +kernel
theorem dL_11 : decode code 11 = .ok (.dup, 1) := by decide +kernel
theorem dL_12 : decode code 12 = .ok (.invokespecial 12, 3) := by decide +kernel
theorem dL_15 : decode code 15 = .ok (.astore_n 2, 1) := by decide +kernel
theorem dL_16 : decode code 16 = .ok (.iconst 0, 1) := by decide +kernel
theorem dL_17 : decode code 17 = .ok (.istore_n 3, 1) := by decide +kernel
theorem dL_18 : decode code 18 = .ok (.iload_n 3, 1) := by decide +kernel
theorem dL_19 : decode code 19 = .ok (.aload_n 0, 1) := by decide +kernel
theorem dL_20 : decode code 20 = .ok (.arraylength, 1) := by decide +kernel
theorem dL_21 : decode code 21 = .ok (.iconst 4, 1) := by decide +kernel
theorem dL_22 : decode code 22 = .ok (.isub, 1) := by decide +kernel
theorem dL_23 : decode code 23 = .ok (.if_icmp .gt 659, 3) := by decide +kernel
theorem dL_26 : decode code 26 = .ok (.aload_n 0, 1) := by decide +kernel
theorem dL_27 : decode code 27 = .ok (.iload_n 3, 1) := by decide +kernel
theorem dL_28 : decode code 28 = .ok (.iaload, 1) := by decide +kernel
theorem dL_29 : decode code 29 = .ok (.bipush 31, 2) := by decide +kernel
theorem dL_31 : decode code 31 = .ok (.iand, 1) := by decide +kernel
theorem dL_32 : decode code 32 = .ok (.tableswitch 644 0 23 #[112, 135, 148, 161, 174, 217, 230, 253, 266, 279, 292, 315, 348, 381, 414, 437, 470, 503, 536, 559, 582, 595, 608, 621], 112) := by decide +kernel
theorem dL_144 : decode code 144 = .ok (.aload_n 1, 1) := by decide +kernel
theorem dL_145 : decode code 145 = .ok (.aload_n 0, 1) := by decide +kernel
theorem dL_146 : decode code 146 = .ok (.iload_n 3, 1) := by decide +kernel
theorem dL_147 : decode code 147 = .ok (.iconst 1, 1) := by decide +kernel
theorem dL_148 : decode code 148 = .ok (.iadd, 1) := by decide +kernel
theorem dL_149 : decode code 149 = .ok (.iaload, 1) := by decide +kernel
theorem dL_150 : decode code 150 = .ok (.invokevirtual 13, 3) := by decide +kernel
theorem dL_153 : decode code 153 = .ok (.aload_n 2, 1) := by decide +kernel
theorem dL_154 : decode code 154 = .ok (.aload_n 0, 1) := by decide +kernel
theorem dL_155 : decode code 155 = .ok (.iload_n 3, 1) := by decide +kernel
theorem dL_156 : decode code 156 = .ok (.iconst 1, 1) := by decide +kernel
theorem dL_157 : decode code 157 = .ok (.iadd, 1) := by decide +kernel
theorem dL_158 : decode code 158 = .ok (.iaload, 1) := by decide +kernel
theorem dL_159 : decode code 159 = .ok (.invokevirtual 17, 3) := by decide +kernel
theorem dL_162 : decode code 162 = .ok (.if_icmp .eq 514, 3) := by decide +kernel
theorem dL_165 : decode code 165 = .ok (.iconst 0, 1) := by decide +kernel
theorem dL_166 : decode code 166 = .ok (.ireturn, 1) := by decide +kernel
theorem dL_167 : decode code 167 = .ok (.aload_n 1, 1) := by decide +kernel
theorem dL_168 : decode code 168 = .ok (.invokevirtual 18, 3) := by decide +kernel
theorem dL_171 : decode code 171 = .ok (.aload_n 2, 1) := by decide +kernel
theorem dL_172 : decode code 172 = .ok (.invokevirtual 22, 3) := by decide +kernel
theorem dL_175 : decode code 175 = .ok (.if_icmp .eq 501, 3) := by decide +kernel
theorem dL_178 : decode code 178 = .ok (.iconst 0, 1) := by decide +kernel
theorem dL_179 : decode code 179 = .ok (.ireturn, 1) := by decide +kernel
theorem dL_180 : decode code 180 = .ok (.aload_n 1, 1) := by decide +kernel
theorem dL_181 : decode code 181 = .ok (.invokevirtual 23, 3) := by decide +kernel
theorem dL_184 : decode code 184 = .ok (.aload_n 2, 1) := by decide +kernel
theorem dL_185 : decode code 185 = .ok (.invokevirtual 26, 3) := by decide +kernel
theorem dL_188 : decode code 188 = .ok (.if_icmp .eq 488, 3) := by decide +kernel
theorem dL_191 : decode code 191 = .ok (.iconst 0, 1) := by decide +kernel
theorem dL_192 : decode code 192 = .ok (.ireturn, 1) := by decide +kernel
theorem dL_193 : decode code 193 = .ok (.aload_n 1, 1) := by decide +kernel
theorem dL_194 : decode code 194 = .ok (.invokevirtual 27, 3) := by decide +kernel
theorem dL_197 : decode code 197 = .ok (.aload_n 2, 1) := by decide +kernel
theorem dL_198 : decode code 198 = .ok (.invokevirtual 30, 3) := by decide +kernel
theorem dL_201 : decode code 201 = .ok (.if_icmp .eq 475, 3) := by decide +kernel
theorem dL_204 : decode code 204 = .ok (.iconst 0, 1) := by decide +kernel
theorem dL_205 : decode code 205 = .ok (.ireturn, 1) := by decide +kernel
theorem dL_206 : decode code 206 = .ok (.aload_n 1, 1) := by decide +kernel
theorem dL_207 : decode code 207 = .ok (.aload_n 0, 1) := by decide +kernel
theorem dL_208 : decode code 208 = .ok (.iload_n 3, 1) := by decide +kernel
theorem dL_209 : decode code 209 = .ok (.iconst 1, 1) := by decide +kernel
theorem dL_210 : decode code 210 = .ok (.iadd, 1) := by decide +kernel
theorem dL_211 : decode code 211 = .ok (.iaload, 1) := by decide +kernel
theorem dL_212 : decode code 212 = .ok (.aload_n 0, 1) := by decide +kernel
theorem dL_213 : decode code 213 = .ok (.iload_n 3, 1) := by decide +kernel
theorem dL_214 : decode code 214 = .ok (.iconst 2, 1) := by decide +kernel
theorem dL_215 : decode code 215 = .ok (.iadd, 1) := by decide +kernel
theorem dL_216 : decode code 216 = .ok (.iaload, 1) := by decide +kernel
theorem dL_217 : decode code 217 = .ok (.aload_n 0, 1) := by decide +kernel
theorem dL_218 : decode code 218 = .ok (.iload_n 3, 1) := by decide +kernel
theorem dL_219 : decode code 219 = .ok (.iconst 3, 1) := by decide +kernel
theorem dL_220 : decode code 220 = .ok (.iadd, 1) := by decide +kernel
theorem dL_221 : decode code 221 = .ok (.iaload, 1) := by decide +kernel
theorem dL_222 : decode code 222 = .ok (.invokevirtual 31, 3) := by decide +kernel
theorem dL_225 : decode code 225 = .ok (.aload_n 2, 1) := by decide +kernel
theorem dL_226 : decode code 226 = .ok (.aload_n 0, 1) := by decide +kernel
theorem dL_227 : decode code 227 = .ok (.iload_n 3, 1) := by decide +kernel
theorem dL_228 : decode code 228 = .ok (.iconst 1, 1) := by decide +kernel
theorem dL_229 : decode code 229 = .ok (.iadd, 1) := by decide +kernel
theorem dL_230 : decode code 230 = .ok (.iaload, 1) := by decide +kernel
theorem dL_231 : decode code 231 = .ok (.aload_n 0, 1) := by decide +kernel
theorem dL_232 : decode code 232 = .ok (.iload_n 3, 1) := by decide +kernel
theorem dL_233 : decode code 233 = .ok (.iconst 2, 1) := by decide +kernel
theorem dL_234 : decode code 234 = .ok (.iadd, 1) := by decide +kernel
theorem dL_235 : decode code 235 = .ok (.iaload, 1) := by decide +kernel
theorem dL_236 : decode code 236 = .ok (.aload_n 0, 1) := by decide +kernel
theorem dL_237 : decode code 237 = .ok (.iload_n 3, 1) := by decide +kernel
theorem dL_238 : decode code 238 = .ok (.iconst 3, 1) := by decide +kernel
theorem dL_239 : decode code 239 = .ok (.iadd, 1) := by decide +kernel
theorem dL_240 : decode code 240 = .ok (.iaload, 1) := by decide +kernel
theorem dL_241 : decode code 241 = .ok (.invokevirtual 35, 3) := by decide +kernel
theorem dL_244 : decode code 244 = .ok (.if_icmp .eq 432, 3) := by decide +kernel
theorem dL_247 : decode code 247 = .ok (.iconst 0, 1) := by decide +kernel
theorem dL_248 : decode code 248 = .ok (.ireturn, 1) := by decide +kernel
theorem dL_249 : decode code 249 = .ok (.aload_n 1, 1) := by decide +kernel
theorem dL_250 : decode code 250 = .ok (.invokevirtual 36, 3) := by decide +kernel
theorem dL_253 : decode code 253 = .ok (.aload_n 2, 1) := by decide +kernel
theorem dL_254 : decode code 254 = .ok (.invokevirtual 39, 3) := by decide +kernel
theorem dL_257 : decode code 257 = .ok (.if_icmp .eq 419, 3) := by decide +kernel
theorem dL_260 : decode code 260 = .ok (.iconst 0, 1) := by decide +kernel
theorem dL_261 : decode code 261 = .ok (.ireturn, 1) := by decide +kernel
theorem dL_262 : decode code 262 = .ok (.aload_n 1, 1) := by decide +kernel
theorem dL_263 : decode code 263 = .ok (.aload_n 0, 1) := by decide +kernel
theorem dL_264 : decode code 264 = .ok (.iload_n 3, 1) := by decide +kernel
theorem dL_265 : decode code 265 = .ok (.iconst 1, 1) := by decide +kernel
theorem dL_266 : decode code 266 = .ok (.iadd, 1) := by decide +kernel
theorem dL_267 : decode code 267 = .ok (.iaload, 1) := by decide +kernel
theorem dL_268 : decode code 268 = .ok (.invokevirtual 40, 3) := by decide +kernel
theorem dL_271 : decode code 271 = .ok (.aload_n 2, 1) := by decide +kernel
theorem dL_272 : decode code 272 = .ok (.aload_n 0, 1) := by decide +kernel
theorem dL_273 : decode code 273 = .ok (.iload_n 3, 1) := by decide +kernel
theorem dL_274 : decode code 274 = .ok (.iconst 1, 1) := by decide +kernel
theorem dL_275 : decode code 275 = .ok (.iadd, 1) := by decide +kernel
theorem dL_276 : decode code 276 = .ok (.iaload, 1) := by decide +kernel
theorem dL_277 : decode code 277 = .ok (.invokevirtual 43, 3) := by decide +kernel
theorem dL_280 : decode code 280 = .ok (.if_icmp .eq 396, 3) := by decide +kernel
theorem dL_283 : decode code 283 = .ok (.iconst 0, 1) := by decide +kernel
theorem dL_284 : decode code 284 = .ok (.ireturn, 1) := by decide +kernel
theorem dL_285 : decode code 285 = .ok (.aload_n 1, 1) := by decide +kernel
theorem dL_286 : decode code 286 = .ok (.invokevirtual 44, 3) := by decide +kernel
theorem dL_289 : decode code 289 = .ok (.aload_n 2, 1) := by decide +kernel
theorem dL_290 : decode code 290 = .ok (.invokevirtual 47, 3) := by decide +kernel
theorem dL_293 : decode code 293 = .ok (.if_icmp .eq 383, 3) := by decide +kernel
theorem dL_296 : decode code 296 = .ok (.iconst 0, 1) := by decide +kernel
theorem dL_297 : decode code 297 = .ok (.ireturn, 1) := by decide +kernel
theorem dL_298 : decode code 298 = .ok (.aload_n 1, 1) := by decide +kernel
theorem dL_299 : decode code 299 = .ok (.invokevirtual 48, 3) := by decide +kernel
theorem dL_302 : decode code 302 = .ok (.aload_n 2, 1) := by decide +kernel
theorem dL_303 : decode code 303 = .ok (.invokevirtual 51, 3) := by decide +kernel
theorem dL_306 : decode code 306 = .ok (.if_icmp .eq 370, 3) := by decide +kernel
theorem dL_309 : decode code 309 = .ok (.iconst 0, 1) := by decide +kernel
theorem dL_310 : decode code 310 = .ok (.ireturn, 1) := by decide +kernel
theorem dL_311 : decode code 311 = .ok (.aload_n 1, 1) := by decide +kernel
theorem dL_312 : decode code 312 = .ok (.invokevirtual 52, 3) := by decide +kernel
theorem dL_315 : decode code 315 = .ok (.aload_n 2, 1) := by decide +kernel
theorem dL_316 : decode code 316 = .ok (.invokevirtual 55, 3) := by decide +kernel
theorem dL_319 : decode code 319 = .ok (.if_icmp .eq 357, 3) := by decide +kernel
theorem dL_322 : decode code 322 = .ok (.iconst 0, 1) := by decide +kernel
theorem dL_323 : decode code 323 = .ok (.ireturn, 1) := by decide +kernel
theorem dL_324 : decode code 324 = .ok (.aload_n 1, 1) := by decide +kernel
theorem dL_325 : decode code 325 = .ok (.aload_n 0, 1) := by decide +kernel
theorem dL_326 : decode code 326 = .ok (.iload_n 3, 1) := by decide +kernel
theorem dL_327 : decode code 327 = .ok (.iconst 1, 1) := by decide +kernel
theorem dL_328 : decode code 328 = .ok (.iadd, 1) := by decide +kernel
theorem dL_329 : decode code 329 = .ok (.iaload, 1) := by decide +kernel
theorem dL_330 : decode code 330 = .ok (.invokevirtual 56, 3) := by decide +kernel
theorem dL_333 : decode code 333 = .ok (.aload_n 2, 1) := by decide +kernel
theorem dL_334 : decode code 334 = .ok (.aload_n 0, 1) := by decide +kernel
theorem dL_335 : decode code 335 = .ok (.iload_n 3, 1) := by decide +kernel
theorem dL_336 : decode code 336 = .ok (.iconst 1, 1) := by decide +kernel
theorem dL_337 : decode code 337 = .ok (.iadd, 1) := by decide +kernel
theorem dL_338 : decode code 338 = .ok (.iaload, 1) := by decide +kernel
theorem dL_339 : decode code 339 = .ok (.invokevirtual 59, 3) := by decide +kernel
theorem dL_342 : decode code 342 = .ok (.if_icmp .eq 334, 3) := by decide +kernel
theorem dL_345 : decode code 345 = .ok (.iconst 0, 1) := by decide +kernel
theorem dL_346 : decode code 346 = .ok (.ireturn, 1) := by decide +kernel
theorem dL_347 : decode code 347 = .ok (.aload_n 1, 1) := by decide +kernel
theorem dL_348 : decode code 348 = .ok (.aload_n 0, 1) := by decide +kernel
theorem dL_349 : decode code 349 = .ok (.iload_n 3, 1) := by decide +kernel
theorem dL_350 : decode code 350 = .ok (.iconst 1, 1) := by decide +kernel
theorem dL_351 : decode code 351 = .ok (.iadd, 1) := by decide +kernel
theorem dL_352 : decode code 352 = .ok (.iaload, 1) := by decide +kernel
theorem dL_353 : decode code 353 = .ok (.aload_n 0, 1) := by decide +kernel
theorem dL_354 : decode code 354 = .ok (.iload_n 3, 1) := by decide +kernel
theorem dL_355 : decode code 355 = .ok (.iconst 2, 1) := by decide +kernel
theorem dL_356 : decode code 356 = .ok (.iadd, 1) := by decide +kernel
theorem dL_357 : decode code 357 = .ok (.iaload, 1) := by decide +kernel
theorem dL_358 : decode code 358 = .ok (.invokevirtual 60, 3) := by decide +kernel
theorem dL_361 : decode code 361 = .ok (.aload_n 2, 1) := by decide +kernel
theorem dL_362 : decode code 362 = .ok (.aload_n 0, 1) := by decide +kernel
theorem dL_363 : decode code 363 = .ok (.iload_n 3, 1) := by decide +kernel
theorem dL_364 : decode code 364 = .ok (.iconst 1, 1) := by decide +kernel
theorem dL_365 : decode code 365 = .ok (.iadd, 1) := by decide +kernel
theorem dL_366 : decode code 366 = .ok (.iaload, 1) := by decide +kernel
theorem dL_367 : decode code 367 = .ok (.aload_n 0, 1) := by decide +kernel
theorem dL_368 : decode code 368 = .ok (.iload_n 3, 1) := by decide +kernel
theorem dL_369 : decode code 369 = .ok (.iconst 2, 1) := by decide +kernel
theorem dL_370 : decode code 370 = .ok (.iadd, 1) := by decide +kernel
theorem dL_371 : decode code 371 = .ok (.iaload, 1) := by decide +kernel
theorem dL_372 : decode code 372 = .ok (.invokevirtual 64, 3) := by decide +kernel
theorem dL_375 : decode code 375 = .ok (.if_icmp .eq 301, 3) := by decide +kernel
theorem dL_378 : decode code 378 = .ok (.iconst 0, 1) := by decide +kernel
theorem dL_379 : decode code 379 = .ok (.ireturn, 1) := by decide +kernel
theorem dL_380 : decode code 380 = .ok (.aload_n 1, 1) := by decide +kernel
theorem dL_381 : decode code 381 = .ok (.aload_n 0, 1) := by decide +kernel
theorem dL_382 : decode code 382 = .ok (.iload_n 3, 1) := by decide +kernel
theorem dL_383 : decode code 383 = .ok (.iconst 1, 1) := by decide +kernel
theorem dL_384 : decode code 384 = .ok (.iadd, 1) := by decide +kernel
theorem dL_385 : decode code 385 = .ok (.iaload, 1) := by decide +kernel
theorem dL_386 : decode code 386 = .ok (.aload_n 0, 1) := by decide +kernel
theorem dL_387 : decode code 387 = .ok (.iload_n 3, 1) := by decide +kernel
theorem dL_388 : decode code 388 = .ok (.iconst 2, 1) := by decide +kernel
theorem dL_389 : decode code 389 = .ok (.iadd, 1) := by decide +kernel
theorem dL_390 : decode code 390 = .ok (.iaload, 1) := by decide +kernel
theorem dL_391 : decode code 391 = .ok (.invokevirtual 65, 3) := by decide +kernel
theorem dL_394 : decode code 394 = .ok (.aload_n 2, 1) := by decide +kernel
theorem dL_395 : decode code 395 = .ok (.aload_n 0, 1) := by decide +kernel
theorem dL_396 : decode code 396 = .ok (.iload_n 3, 1) := by decide +kernel
theorem dL_397 : decode code 397 = .ok (.iconst 1, 1) := by decide +kernel
theorem dL_398 : decode code 398 = .ok (.iadd, 1) := by decide +kernel
theorem dL_399 : decode code 399 = .ok (.iaload, 1) := by decide +kernel
theorem dL_400 : decode code 400 = .ok (.aload_n 0, 1) := by decide +kernel
theorem dL_401 : decode code 401 = .ok (.iload_n 3, 1) := by decide +kernel
theorem dL_402 : decode code 402 = .ok (.iconst 2, 1) := by decide +kernel
theorem dL_403 : decode code 403 = .ok (.iadd, 1) := by decide +kernel
theorem dL_404 : decode code 404 = .ok (.iaload, 1) := by decide +kernel
theorem dL_405 : decode code 405 = .ok (.invokevirtual 68, 3) := by decide +kernel
theorem dL_408 : decode code 408 = .ok (.if_icmp .eq 268, 3) := by decide +kernel
theorem dL_411 : decode code 411 = .ok (.iconst 0, 1) := by decide +kernel
theorem dL_412 : decode code 412 = .ok (.ireturn, 1) := by decide +kernel
theorem dL_413 : decode code 413 = .ok (.aload_n 1, 1) := by decide +kernel
theorem dL_414 : decode code 414 = .ok (.aload_n 0, 1) := by decide +kernel
theorem dL_415 : decode code 415 = .ok (.iload_n 3, 1) := by decide +kernel
theorem dL_416 : decode code 416 = .ok (.iconst 1, 1) := by decide +kernel
theorem dL_417 : decode code 417 = .ok (.iadd, 1) := by decide +kernel
theorem dL_418 : decode code 418 = .ok (.iaload, 1) := by decide +kernel
theorem dL_419 : decode code 419 = .ok (.aload_n 0, 1) := by decide +kernel
theorem dL_420 : decode code 420 = .ok (.iload_n 3, 1) := by decide +kernel
theorem dL_421 : decode code 421 = .ok (.iconst 2, 1) := by decide +kernel
theorem dL_422 : decode code 422 = .ok (.iadd, 1) := by decide +kernel
theorem dL_423 : decode code 423 = .ok (.iaload, 1) := by decide +kernel
theorem dL_424 : decode code 424 = .ok (.invokevirtual 69, 3) := by decide +kernel
theorem dL_427 : decode code 427 = .ok (.aload_n 2, 1) := by decide +kernel
theorem dL_428 : decode code 428 = .ok (.aload_n 0, 1) := by decide +kernel
theorem dL_429 : decode code 429 = .ok (.iload_n 3, 1) := by decide +kernel
theorem dL_430 : decode code 430 = .ok (.iconst 1, 1) := by decide +kernel
theorem dL_431 : decode code 431 = .ok (.iadd, 1) := by decide +kernel
theorem dL_432 : decode code 432 = .ok (.iaload, 1) := by decide +kernel
theorem dL_433 : decode code 433 = .ok (.aload_n 0, 1) := by decide +kernel
theorem dL_434 : decode code 434 = .ok (.iload_n 3, 1) := by decide +kernel
theorem dL_435 : decode code 435 = .ok (.iconst 2, 1) := by decide +kernel
theorem dL_436 : decode code 436 = .ok (.iadd, 1) := by decide +kernel
theorem dL_437 : decode code 437 = .ok (.iaload, 1) := by decide +kernel
theorem dL_438 : decode code 438 = .ok (.invokevirtual 72, 3) := by decide +kernel
theorem dL_441 : decode code 441 = .ok (.if_icmp .eq 235, 3) := by decide +kernel
theorem dL_444 : decode code 444 = .ok (.iconst 0, 1) := by decide +kernel
theorem dL_445 : decode code 445 = .ok (.ireturn, 1) := by decide +kernel
theorem dL_446 : decode code 446 = .ok (.aload_n 1, 1) := by decide +kernel
theorem dL_447 : decode code 447 = .ok (.aload_n 0, 1) := by decide +kernel
theorem dL_448 : decode code 448 = .ok (.iload_n 3, 1) := by decide +kernel
theorem dL_449 : decode code 449 = .ok (.iconst 1, 1) := by decide +kernel
theorem dL_450 : decode code 450 = .ok (.iadd, 1) := by decide +kernel
theorem dL_451 : decode code 451 = .ok (.iaload, 1) := by decide +kernel
theorem dL_452 : decode code 452 = .ok (.invokevirtual 73, 3) := by decide +kernel
theorem dL_455 : decode code 455 = .ok (.aload_n 2, 1) := by decide +kernel
theorem dL_456 : decode code 456 = .ok (.aload_n 0, 1) := by decide +kernel
theorem dL_457 : decode code 457 = .ok (.iload_n 3, 1) := by decide +kernel
theorem dL_458 : decode code 458 = .ok (.iconst 1, 1) := by decide +kernel
theorem dL_459 : decode code 459 = .ok (.iadd, 1) := by decide +kernel
theorem dL_460 : decode code 460 = .ok (.iaload, 1) := by decide +kernel
theorem dL_461 : decode code 461 = .ok (.invokevirtual 76, 3) := by decide +kernel
theorem dL_464 : decode code 464 = .ok (.if_icmp .eq 212, 3) := by decide +kernel
theorem dL_467 : decode code 467 = .ok (.iconst 0, 1) := by decide +kernel
theorem dL_468 : decode code 468 = .ok (.ireturn, 1) := by decide +kernel
theorem dL_469 : decode code 469 = .ok (.aload_n 1, 1) := by decide +kernel
theorem dL_470 : decode code 470 = .ok (.aload_n 0, 1) := by decide +kernel
theorem dL_471 : decode code 471 = .ok (.iload_n 3, 1) := by decide +kernel
theorem dL_472 : decode code 472 = .ok (.iconst 1, 1) := by decide +kernel
theorem dL_473 : decode code 473 = .ok (.iadd, 1) := by decide +kernel
theorem dL_474 : decode code 474 = .ok (.iaload, 1) := by decide +kernel
theorem dL_475 : decode code 475 = .ok (.aload_n 0, 1) := by decide +kernel
theorem dL_476 : decode code 476 = .ok (.iload_n 3, 1) := by decide +kernel
theorem dL_477 : decode code 477 = .ok (.iconst 2, 1) := by decide +kernel
theorem dL_478 : decode code 478 = .ok (.iadd, 1) := by decide +kernel
theorem dL_479 : decode code 479 = .ok (.iaload, 1) := by decide +kernel
theorem dL_480 : decode code 480 = .ok (.invokevirtual 77, 3) := by decide +kernel
theorem dL_483 : decode code 483 = .ok (.aload_n 2, 1) := by decide +kernel
theorem dL_484 : decode code 484 = .ok (.aload_n 0, 1) := by decide +kernel
theorem dL_485 : decode code 485 = .ok (.iload_n 3, 1) := by decide +kernel
theorem dL_486 : decode code 486 = .ok (.iconst 1, 1) := by decide +kernel
theorem dL_487 : decode code 487 = .ok (.iadd, 1) := by decide +kernel
theorem dL_488 : decode code 488 = .ok (.iaload, 1) := by decide +kernel
theorem dL_489 : decode code 489 = .ok (.aload_n 0, 1) := by decide +kernel
theorem dL_490 : decode code 490 = .ok (.iload_n 3, 1) := by decide +kernel
theorem dL_491 : decode code 491 = .ok (.iconst 2, 1) := by decide +kernel
theorem dL_492 : decode code 492 = .ok (.iadd, 1) := by decide +kernel
theorem dL_493 : decode code 493 = .ok (.iaload, 1) := by decide +kernel
theorem dL_494 : decode code 494 = .ok (.invokevirtual 80, 3) := by decide +kernel
theorem dL_497 : decode code 497 = .ok (.if_icmp .eq 179, 3) := by decide +kernel
theorem dL_500 : decode code 500 = .ok (.iconst 0, 1) := by decide +kernel
theorem dL_501 : decode code 501 = .ok (.ireturn, 1) := by decide +kernel
theorem dL_502 : decode code 502 = .ok (.aload_n 1, 1) := by decide +kernel
theorem dL_503 : decode code 503 = .ok (.aload_n 0, 1) := by decide +kernel
theorem dL_504 : decode code 504 = .ok (.iload_n 3, 1) := by decide +kernel
theorem dL_505 : decode code 505 = .ok (.iconst 1, 1) := by decide +kernel
theorem dL_506 : decode code 506 = .ok (.iadd, 1) := by decide +kernel
theorem dL_507 : decode code 507 = .ok (.iaload, 1) := by decide +kernel
theorem dL_508 : decode code 508 = .ok (.aload_n 0, 1) := by decide +kernel
theorem dL_509 : decode code 509 = .ok (.iload_n 3, 1) := by decide +kernel
theorem dL_510 : decode code 510 = .ok (.iconst 2, 1) := by decide +kernel
theorem dL_511 : decode code 511 = .ok (.iadd, 1) := by decide +kernel
theorem dL_512 : decode code 512 = .ok (.iaload, 1) := by decide +kernel
theorem dL_513 : decode code 513 = .ok (.invokevirtual 81, 3) := by decide +kernel
theorem dL_516 : decode code 516 = .ok (.aload_n 2, 1) := by decide +kernel
theorem dL_517 : decode code 517 = .ok (.aload_n 0, 1) := by decide +kernel
theorem dL_518 : decode code 518 = .ok (.iload_n 3, 1) := by decide +kernel
theorem dL_519 : decode code 519 = .ok (.iconst 1, 1) := by decide +kernel
theorem dL_520 : decode code 520 = .ok (.iadd, 1) := by decide +kernel
theorem dL_521 : decode code 521 = .ok (.iaload, 1) := by decide +kernel
theorem dL_522 : decode code 522 = .ok (.aload_n 0, 1) := by decide +kernel
theorem dL_523 : decode code 523 = .ok (.iload_n 3, 1) := by decide +kernel
theorem dL_524 : decode code 524 = .ok (.iconst 2, 1) := by decide +kernel
theorem dL_525 : decode code 525 = .ok (.iadd, 1) := by decide +kernel
theorem dL_526 : decode code 526 = .ok (.iaload, 1) := by decide +kernel
theorem dL_527 : decode code 527 = .ok (.invokevirtual 84, 3) := by decide +kernel
theorem dL_530 : decode code 530 = .ok (.if_icmp .eq 146, 3) := by decide +kernel
theorem dL_533 : decode code 533 = .ok (.iconst 0, 1) := by decide +kernel
theorem dL_534 : decode code 534 = .ok (.ireturn, 1) := by decide +kernel
theorem dL_535 : decode code 535 = .ok (.aload_n 1, 1) := by decide +kernel
theorem dL_536 : decode code 536 = .ok (.aload_n 0, 1) := by decide +kernel
theorem dL_537 : decode code 537 = .ok (.iload_n 3, 1) := by decide +kernel
theorem dL_538 : decode code 538 = .ok (.iconst 1, 1) := by decide +kernel
theorem dL_539 : decode code 539 = .ok (.iadd, 1) := by decide +kernel
theorem dL_540 : decode code 540 = .ok (.iaload, 1) := by decide +kernel
theorem dL_541 : decode code 541 = .ok (.aload_n 0, 1) := by decide +kernel
theorem dL_542 : decode code 542 = .ok (.iload_n 3, 1) := by decide +kernel
theorem dL_543 : decode code 543 = .ok (.iconst 2, 1) := by decide +kernel
theorem dL_544 : decode code 544 = .ok (.iadd, 1) := by decide +kernel
theorem dL_545 : decode code 545 = .ok (.iaload, 1) := by decide +kernel
theorem dL_546 : decode code 546 = .ok (.invokevirtual 85, 3) := by decide +kernel
theorem dL_549 : decode code 549 = .ok (.aload_n 2, 1) := by decide +kernel
theorem dL_550 : decode code 550 = .ok (.aload_n 0, 1) := by decide +kernel
theorem dL_551 : decode code 551 = .ok (.iload_n 3, 1) := by decide +kernel
theorem dL_552 : decode code 552 = .ok (.iconst 1, 1) := by decide +kernel
theorem dL_553 : decode code 553 = .ok (.iadd, 1) := by decide +kernel
theorem dL_554 : decode code 554 = .ok (.iaload, 1) := by decide +kernel
theorem dL_555 : decode code 555 = .ok (.aload_n 0, 1) := by decide +kernel
theorem dL_556 : decode code 556 = .ok (.iload_n 3, 1) := by decide +kernel
theorem dL_557 : decode code 557 = .ok (.iconst 2, 1) := by decide +kernel
theorem dL_558 : decode code 558 = .ok (.iadd, 1) := by decide +kernel
theorem dL_559 : decode code 559 = .ok (.iaload, 1) := by decide +kernel
theorem dL_560 : decode code 560 = .ok (.invokevirtual 88, 3) := by decide +kernel
theorem dL_563 : decode code 563 = .ok (.if_icmp .eq 113, 3) := by decide +kernel
theorem dL_566 : decode code 566 = .ok (.iconst 0, 1) := by decide +kernel
theorem dL_567 : decode code 567 = .ok (.ireturn, 1) := by decide +kernel
theorem dL_568 : decode code 568 = .ok (.aload_n 1, 1) := by decide +kernel
theorem dL_569 : decode code 569 = .ok (.aload_n 0, 1) := by decide +kernel
theorem dL_570 : decode code 570 = .ok (.iload_n 3, 1) := by decide +kernel
theorem dL_571 : decode code 571 = .ok (.iconst 1, 1) := by decide +kernel
theorem dL_572 : decode code 572 = .ok (.iadd, 1) := by decide +kernel
theorem dL_573 : decode code 573 = .ok (.iaload, 1) := by decide +kernel
theorem dL_574 : decode code 574 = .ok (.invokevirtual 89, 3) := by decide +kernel
theorem dL_577 : decode code 577 = .ok (.aload_n 2, 1) := by decide +kernel
theorem dL_578 : decode code 578 = .ok (.aload_n 0, 1) := by decide +kernel
theorem dL_579 : decode code 579 = .ok (.iload_n 3, 1) := by decide +kernel
theorem dL_580 : decode code 580 = .ok (.iconst 1, 1) := by decide +kernel
theorem dL_581 : decode code 581 = .ok (.iadd, 1) := by decide +kernel
theorem dL_582 : decode code 582 = .ok (.iaload, 1) := by decide +kernel
theorem dL_583 : decode code 583 = .ok (.invokevirtual 92, 3) := by decide +kernel
theorem dL_586 : decode code 586 = .ok (.if_icmp .eq 90, 3) := by decide +kernel
theorem dL_589 : decode code 589 = .ok (.iconst 0, 1) := by decide +kernel
theorem dL_590 : decode code 590 = .ok (.ireturn, 1) := by decide +kernel
theorem dL_591 : decode code 591 = .ok (.aload_n 1, 1) := by decide +kernel
theorem dL_592 : decode code 592 = .ok (.aload_n 0, 1) := by decide +kernel
theorem dL_593 : decode code 593 = .ok (.iload_n 3, 1) := by decide +kernel
theorem dL_594 : decode code 594 = .ok (.iconst 1, 1) := by decide +kernel
theorem dL_595 : decode code 595 = .ok (.iadd, 1) := by decide +kernel
theorem dL_596 : decode code 596 = .ok (.iaload, 1) := by decide +kernel
theorem dL_597 : decode code 597 = .ok (.invokevirtual 93, 3) := by decide +kernel
theorem dL_600 : decode code 600 = .ok (.aload_n 2, 1) := by decide +kernel
theorem dL_601 : decode code 601 = .ok (.aload_n 0, 1) := by decide +kernel
theorem dL_602 : decode code 602 = .ok (.iload_n 3, 1) := by decide +kernel
theorem dL_603 : decode code 603 = .ok (.iconst 1, 1) := by decide +kernel
theorem dL_604 : decode code 604 = .ok (.iadd, 1) := by decide +kernel
theorem dL_605 : decode code 605 = .ok (.iaload, 1) := by decide +kernel
theorem dL_606 : decode code 606 = .ok (.invokevirtual 96, 3) := by decide +kernel
theorem dL_609 : decode code 609 = .ok (.if_icmp .eq 67, 3) := by decide +kernel
theorem dL_612 : decode code 612 = .ok (.iconst 0, 1) := by decide +kernel
theorem dL_613 : decode code 613 = .ok (.ireturn, 1) := by decide +kernel
theorem dL_614 : decode code 614 = .ok (.aload_n 1, 1) := by decide +kernel
theorem dL_615 : decode code 615 = .ok (.invokevirtual 97, 3) := by decide +kernel
theorem dL_618 : decode code 618 = .ok (.aload_n 2, 1) := by decide +kernel
theorem dL_619 : decode code 619 = .ok (.invokevirtual 100, 3) := by decide +kernel
theorem dL_622 : decode code 622 = .ok (.if_icmp .eq 54, 3) := by decide +kernel
theorem dL_625 : decode code 625 = .ok (.iconst 0, 1) := by decide +kernel
theorem dL_626 : decode code 626 = .ok (.ireturn, 1) := by decide +kernel
theorem dL_627 : decode code 627 = .ok (.aload_n 1, 1) := by decide +kernel
theorem dL_628 : decode code 628 = .ok (.invokevirtual 101, 3) := by decide +kernel
theorem dL_631 : decode code 631 = .ok (.aload_n 2, 1) := by decide +kernel
theorem dL_632 : decode code 632 = .ok (.invokevirtual 104, 3) := by decide +kernel
theorem dL_635 : decode code 635 = .ok (.if_icmp .eq 41, 3) := by decide +kernel
theorem dL_638 : decode code 638 = .ok (.iconst 0, 1) := by decide +kernel
theorem dL_639 : decode code 639 = .ok (.ireturn, 1) := by decide +kernel
theorem dL_640 : decode code 640 = .ok (.aload_n 1, 1) := by decide +kernel
theorem dL_641 : decode code 641 = .ok (.invokevirtual 105, 3) := by decide +kernel
theorem dL_644 : decode code 644 = .ok (.aload_n 2, 1) := by decide +kernel
theorem dL_645 : decode code 645 = .ok (.invokevirtual 108, 3) := by decide +kernel
theorem dL_648 : decode code 648 = .ok (.if_icmp .eq 28, 3) := by decide +kernel
theorem dL_651 : decode code 651 = .ok (.iconst 0, 1) := by decide +kernel
theorem dL_652 : decode code 652 = .ok (.ireturn, 1) := by decide +kernel
theorem dL_653 : decode code 653 = .ok (.aload_n 1, 1) := by decide +kernel
theorem dL_654 : decode code 654 = .ok (.aload_n 0, 1) := by decide +kernel
theorem dL_655 : decode code 655 = .ok (.iload_n 3, 1) := by decide +kernel
theorem dL_656 : decode code 656 = .ok (.iconst 1, 1) := by decide +kernel
theorem dL_657 : decode code 657 = .ok (.iadd, 1) := by decide +kernel
theorem dL_658 : decode code 658 = .ok (.iaload, 1) := by decide +kernel
theorem dL_659 : decode code 659 = .ok (.invokevirtual 109, 3) := by decide +kernel
theorem dL_662 : decode code 662 = .ok (.aload_n 2, 1) := by decide +kernel
theorem dL_663 : decode code 663 = .ok (.aload_n 0, 1) := by decide +kernel
theorem dL_664 : decode code 664 = .ok (.iload_n 3, 1) := by decide +kernel
theorem dL_665 : decode code 665 = .ok (.iconst 1, 1) := by decide +kernel
theorem dL_666 : decode code 666 = .ok (.iadd, 1) := by decide +kernel
theorem dL_667 : decode code 667 = .ok (.iaload, 1) := by decide +kernel
theorem dL_668 : decode code 668 = .ok (.invokevirtual 112, 3) := by decide +kernel
theorem dL_671 : decode code 671 = .ok (.if_icmp .eq 5, 3) := by decide +kernel
theorem dL_674 : decode code 674 = .ok (.iconst 0, 1) := by decide +kernel
theorem dL_675 : decode code 675 = .ok (.ireturn, 1) := by decide +kernel
theorem dL_676 : decode code 676 = .ok (.iinc 3 4, 3) := by decide +kernel
theorem dL_679 : decode code 679 = .ok (.goto (-661), 3) := by decide +kernel
theorem dL_682 : decode code 682 = .ok (.iconst 1, 1) := by decide +kernel
theorem dL_683 : decode code 683 = .ok (.ireturn, 1) := by decide +kernel
set_option maxRecDepth 20000 in
theorem vL_13 : VOK mprog R_law 13 n_Z_write 2 7 := ⟨⟨"ZigzagPieces", "write", "(I)I"⟩, prog_1_method_2_code, 2, (some .int), k_Z_write, 1, rfl, rfl, by decide +kernel, Tb_at 497 rfl rfl, Tb_at 498 rfl rfl, ⟨TX7, 7, rfl⟩, Or.inl (Tb_at 496 rfl rfl)⟩
set_option maxRecDepth 20000 in
theorem vL_17 : VOK mprog R_law 17 n_M_write 2 8 := ⟨⟨"ZigzagPiecesModel", "write", "(I)I"⟩, prog_10_method_28_code, 2, (some .int), k_M_write, 1, rfl, rfl, by decide +kernel, Tb_at 788 rfl rfl, Tb_at 789 rfl rfl, ⟨TX8, 22, rfl⟩, Or.inl (Tb_at 787 rfl rfl)⟩
set_option maxRecDepth 20000 in
theorem vL_18 : VOK mprog R_law 18 n_Z_wipe 1 7 := ⟨⟨"ZigzagPieces", "wipe", "()I"⟩, prog_1_method_3_code, 2, (some .int), k_Z_wipe, 0, rfl, rfl, by decide +kernel, Tb_at 501 rfl rfl, Tb_at 502 rfl rfl, ⟨TX7, 7, rfl⟩, Or.inl (Tb_at 500 rfl rfl)⟩
set_option maxRecDepth 20000 in
theorem vL_22 : VOK mprog R_law 22 n_M_wipe 1 8 := ⟨⟨"ZigzagPiecesModel", "wipe", "()I"⟩, prog_10_method_29_code, 2, (some .int), k_M_wipe, 0, rfl, rfl, by decide +kernel, Tb_at 795 rfl rfl, Tb_at 796 rfl rfl, ⟨TX8, 22, rfl⟩, Or.inl (Tb_at 794 rfl rfl)⟩
set_option maxRecDepth 20000 in
theorem vL_23 : VOK mprog R_law 23 n_Z_fault 1 7 := ⟨⟨"ZigzagPieces", "fault", "()I"⟩, prog_1_method_4_code, 1, (some .int), k_Z_fault, 0, rfl, rfl, by decide +kernel, Tb_at 505 rfl rfl, Tb_at 506 rfl rfl, ⟨TX7, 7, rfl⟩, Or.inl (Tb_at 504 rfl rfl)⟩
set_option maxRecDepth 20000 in
theorem vL_26 : VOK mprog R_law 26 n_M_fault 1 8 := ⟨⟨"ZigzagPiecesModel", "fault", "()I"⟩, prog_10_method_33_code, 1, (some .int), k_M_fault, 0, rfl, rfl, by decide +kernel, Tb_at 799 rfl rfl, Tb_at 800 rfl rfl, ⟨TX8, 22, rfl⟩, Or.inl (Tb_at 798 rfl rfl)⟩
set_option maxRecDepth 20000 in
theorem vL_27 : VOK mprog R_law 27 n_Z_lay 1 7 := ⟨⟨"ZigzagPieces", "lay", "()I"⟩, prog_1_method_5_code, 1, (some .int), k_Z_lay, 0, rfl, rfl, by decide +kernel, Tb_at 509 rfl rfl, Tb_at 510 rfl rfl, ⟨TX7, 7, rfl⟩, Or.inl (Tb_at 508 rfl rfl)⟩
set_option maxRecDepth 20000 in
theorem vL_30 : VOK mprog R_law 30 n_M_lay 1 8 := ⟨⟨"ZigzagPiecesModel", "lay", "()I"⟩, prog_10_method_34_code, 2, (some .int), k_M_lay, 0, rfl, rfl, by decide +kernel, Tb_at 882 rfl rfl, Tb_at 883 rfl rfl, ⟨TX8, 22, rfl⟩, Or.inl (Tb_at 881 rfl rfl)⟩
set_option maxRecDepth 20000 in
theorem vL_31 : VOK mprog R_law 31 n_Z_act 4 7 := ⟨⟨"ZigzagPieces", "act", "(III)I"⟩, prog_1_method_6_code, 5, (some .int), k_Z_act, 3, rfl, rfl, by decide +kernel, Tb_at 513 rfl rfl, Tb_at 514 rfl rfl, ⟨TX7, 7, rfl⟩, Or.inl (Tb_at 512 rfl rfl)⟩
set_option maxRecDepth 20000 in
theorem vL_35 : VOK mprog R_law 35 n_M_act 4 8 := ⟨⟨"ZigzagPiecesModel", "act", "(III)I"⟩, prog_10_method_36_code, 5, (some .int), k_M_act, 3, rfl, rfl, by decide +kernel, Tb_at 886 rfl rfl, Tb_at 887 rfl rfl, ⟨TX8, 22, rfl⟩, Or.inl (Tb_at 885 rfl rfl)⟩
set_option maxRecDepth 20000 in
theorem vL_36 : VOK mprog R_law 36 n_Z_drop 1 7 := ⟨⟨"ZigzagPieces", "drop", "()I"⟩, prog_1_method_7_code, 1, (some .int), k_Z_drop, 0, rfl, rfl, by decide +kernel, Tb_at 533 rfl rfl, Tb_at 534 rfl rfl, ⟨TX7, 7, rfl⟩, Or.inl (Tb_at 532 rfl rfl)⟩
set_option maxRecDepth 20000 in
theorem vL_39 : VOK mprog R_law 39 n_M_drop 1 8 := ⟨⟨"ZigzagPiecesModel", "drop", "()I"⟩, prog_10_method_37_code, 1, (some .int), k_M_drop, 0, rfl, rfl, by decide +kernel, Tb_at 898 rfl rfl, Tb_at 899 rfl rfl, ⟨TX8, 22, rfl⟩, Or.inl (Tb_at 897 rfl rfl)⟩
set_option maxRecDepth 20000 in
theorem vL_40 : VOK mprog R_law 40 n_Z_exchange 2 7 := ⟨⟨"ZigzagPieces", "exchange", "(I)I"⟩, prog_1_method_8_code, 3, (some .int), k_Z_exchange, 1, rfl, rfl, by decide +kernel, Tb_at 541 rfl rfl, Tb_at 542 rfl rfl, ⟨TX7, 7, rfl⟩, Or.inl (Tb_at 540 rfl rfl)⟩
set_option maxRecDepth 20000 in
theorem vL_43 : VOK mprog R_law 43 n_M_exchange 2 8 := ⟨⟨"ZigzagPiecesModel", "exchange", "(I)I"⟩, prog_10_method_41_code, 3, (some .int), k_M_exchange, 1, rfl, rfl, by decide +kernel, Tb_at 902 rfl rfl, Tb_at 903 rfl rfl, ⟨TX8, 22, rfl⟩, Or.inl (Tb_at 901 rfl rfl)⟩
set_option maxRecDepth 20000 in
theorem vL_44 : VOK mprog R_law 44 n_Z_backwards 1 7 := ⟨⟨"ZigzagPieces", "backwards", "()I"⟩, prog_1_method_9_code, 2, (some .int), k_Z_backwards, 0, rfl, rfl, by decide +kernel, Tb_at 557 rfl rfl, Tb_at 558 rfl rfl, ⟨TX7, 7, rfl⟩, Or.inl (Tb_at 556 rfl rfl)⟩
set_option maxRecDepth 20000 in
theorem vL_47 : VOK mprog R_law 47 n_M_backwards 1 8 := ⟨⟨"ZigzagPiecesModel", "backwards", "()I"⟩, prog_10_method_42_code, 4, (some .int), k_M_backwards, 0, rfl, rfl, by decide +kernel, Tb_at 926 rfl rfl, Tb_at 927 rfl rfl, ⟨TX8, 22, rfl⟩, Or.inl (Tb_at 925 rfl rfl)⟩
set_option maxRecDepth 20000 in
theorem vL_48 : VOK mprog R_law 48 n_Z_clear 1 7 := ⟨⟨"ZigzagPieces", "clear", "()I"⟩, prog_1_method_10_code, 2, (some .int), k_Z_clear, 0, rfl, rfl, by decide +kernel, Tb_at 568 rfl rfl, Tb_at 569 rfl rfl, ⟨TX7, 7, rfl⟩, Or.inl (Tb_at 567 rfl rfl)⟩
set_option maxRecDepth 20000 in
theorem vL_51 : VOK mprog R_law 51 n_M_clear 1 8 := ⟨⟨"ZigzagPiecesModel", "clear", "()I"⟩, prog_10_method_43_code, 4, (some .int), k_M_clear, 0, rfl, rfl, by decide +kernel, Tb_at 930 rfl rfl, Tb_at 931 rfl rfl, ⟨TX8, 22, rfl⟩, Or.inl (Tb_at 929 rfl rfl)⟩
set_option maxRecDepth 20000 in
theorem vL_52 : VOK mprog R_law 52 n_Z_undo 1 7 := ⟨⟨"ZigzagPieces", "undo", "()I"⟩, prog_1_method_11_code, 2, (some .int), k_Z_undo, 0, rfl, rfl, by decide +kernel, Tb_at 592 rfl rfl, Tb_at 593 rfl rfl, ⟨TX7, 7, rfl⟩, Or.inl (Tb_at 591 rfl rfl)⟩
set_option maxRecDepth 20000 in
theorem vL_55 : VOK mprog R_law 55 n_M_undo 1 8 := ⟨⟨"ZigzagPiecesModel", "undo", "()I"⟩, prog_10_method_44_code, 2, (some .int), k_M_undo, 0, rfl, rfl, by decide +kernel, Tb_at 941 rfl rfl, Tb_at 942 rfl rfl, ⟨TX8, 22, rfl⟩, Or.inl (Tb_at 940 rfl rfl)⟩
set_option maxRecDepth 20000 in
theorem vL_56 : VOK mprog R_law 56 n_Z_spelt 2 7 := ⟨⟨"ZigzagPieces", "spelt", "(I)I"⟩, prog_1_method_12_code, 6, (some .int), k_Z_spelt, 1, rfl, rfl, by decide +kernel, Tb_at 605 rfl rfl, Tb_at 606 rfl rfl, ⟨TX7, 7, rfl⟩, Or.inl (Tb_at 604 rfl rfl)⟩
set_option maxRecDepth 20000 in
theorem vL_59 : VOK mprog R_law 59 n_M_spelt 2 8 := ⟨⟨"ZigzagPiecesModel", "spelt", "(I)I"⟩, prog_10_method_46_code, 5, (some .int), k_M_spelt, 1, rfl, rfl, by decide +kernel, Tb_at 945 rfl rfl, Tb_at 946 rfl rfl, ⟨TX8, 22, rfl⟩, Or.inl (Tb_at 944 rfl rfl)⟩
set_option maxRecDepth 20000 in
theorem vL_60 : VOK mprog R_law 60 n_Z_told 3 7 := ⟨⟨"ZigzagPieces", "told", "(II)I"⟩, prog_1_method_13_code, 4, (some .int), k_Z_told, 2, rfl, rfl, by decide +kernel, Tb_at 615 rfl rfl, Tb_at 616 rfl rfl, ⟨TX7, 7, rfl⟩, Or.inl (Tb_at 614 rfl rfl)⟩
set_option maxRecDepth 20000 in
theorem vL_64 : VOK mprog R_law 64 n_M_told 3 8 := ⟨⟨"ZigzagPiecesModel", "told", "(II)I"⟩, prog_10_method_47_code, 4, (some .int), k_M_told, 2, rfl, rfl, by decide +kernel, Tb_at 953 rfl rfl, Tb_at 954 rfl rfl, ⟨TX8, 22, rfl⟩, Or.inl (Tb_at 952 rfl rfl)⟩
set_option maxRecDepth 20000 in
theorem vL_65 : VOK mprog R_law 65 n_Z_graph 3 7 := ⟨⟨"ZigzagPieces", "graph", "(II)I"⟩, prog_1_method_14_code, 3, (some .int), k_Z_graph, 2, rfl, rfl, by decide +kernel, Tb_at 619 rfl rfl, Tb_at 620 rfl rfl, ⟨TX7, 7, rfl⟩, Or.inl (Tb_at 618 rfl rfl)⟩
set_option maxRecDepth 20000 in
theorem vL_68 : VOK mprog R_law 68 n_M_graph 3 8 := ⟨⟨"ZigzagPiecesModel", "graph", "(II)I"⟩, prog_10_method_48_code, 4, (some .int), k_M_graph, 2, rfl, rfl, by decide +kernel, Tb_at 957 rfl rfl, Tb_at 958 rfl rfl, ⟨TX8, 22, rfl⟩, Or.inl (Tb_at 956 rfl rfl)⟩
set_option maxRecDepth 20000 in
theorem vL_69 : VOK mprog R_law 69 n_Z_piece 3 7 := ⟨⟨"ZigzagPieces", "piece", "(II)I"⟩, prog_1_method_15_code, 3, (some .int), k_Z_piece, 2, rfl, rfl, by decide +kernel, Tb_at 634 rfl rfl, Tb_at 635 rfl rfl, ⟨TX7, 7, rfl⟩, Or.inl (Tb_at 633 rfl rfl)⟩
set_option maxRecDepth 20000 in
theorem vL_72 : VOK mprog R_law 72 n_M_piece 3 8 := ⟨⟨"ZigzagPiecesModel", "piece", "(II)I"⟩, prog_10_method_49_code, 3, (some .int), k_M_piece, 2, rfl, rfl, by decide +kernel, Tb_at 961 rfl rfl, Tb_at 962 rfl rfl, ⟨TX8, 22, rfl⟩, Or.inl (Tb_at 960 rfl rfl)⟩
set_option maxRecDepth 20000 in
theorem vL_73 : VOK mprog R_law 73 n_Z_root 2 7 := ⟨⟨"ZigzagPieces", "root", "(I)I"⟩, prog_1_method_16_code, 2, (some .int), k_Z_root, 1, rfl, rfl, by decide +kernel, Tb_at 640 rfl rfl, Tb_at 641 rfl rfl, ⟨TX7, 7, rfl⟩, Or.inl (Tb_at 639 rfl rfl)⟩
set_option maxRecDepth 20000 in
theorem vL_76 : VOK mprog R_law 76 n_M_root 2 8 := ⟨⟨"ZigzagPiecesModel", "root", "(I)I"⟩, prog_10_method_50_code, 2, (some .int), k_M_root, 1, rfl, rfl, by decide +kernel, Tb_at 965 rfl rfl, Tb_at 966 rfl rfl, ⟨TX8, 22, rfl⟩, Or.inl (Tb_at 964 rfl rfl)⟩
set_option maxRecDepth 20000 in
theorem vL_77 : VOK mprog R_law 77 n_Z_kin 3 7 := ⟨⟨"ZigzagPieces", "kin", "(II)I"⟩, prog_1_method_17_code, 4, (some .int), k_Z_kin, 2, rfl, rfl, by decide +kernel, Tb_at 645 rfl rfl, Tb_at 646 rfl rfl, ⟨TX7, 7, rfl⟩, Or.inl (Tb_at 644 rfl rfl)⟩
set_option maxRecDepth 20000 in
theorem vL_80 : VOK mprog R_law 80 n_M_kin 3 8 := ⟨⟨"ZigzagPiecesModel", "kin", "(II)I"⟩, prog_10_method_51_code, 4, (some .int), k_M_kin, 2, rfl, rfl, by decide +kernel, Tb_at 969 rfl rfl, Tb_at 970 rfl rfl, ⟨TX8, 22, rfl⟩, Or.inl (Tb_at 968 rfl rfl)⟩
set_option maxRecDepth 20000 in
theorem vL_81 : VOK mprog R_law 81 n_Z_bar 3 7 := ⟨⟨"ZigzagPieces", "bar", "(II)I"⟩, prog_1_method_18_code, 3, (some .int), k_Z_bar, 2, rfl, rfl, by decide +kernel, Tb_at 651 rfl rfl, Tb_at 652 rfl rfl, ⟨TX7, 7, rfl⟩, Or.inl (Tb_at 650 rfl rfl)⟩
set_option maxRecDepth 20000 in
theorem vL_84 : VOK mprog R_law 84 n_M_bar 3 8 := ⟨⟨"ZigzagPiecesModel", "bar", "(II)I"⟩, prog_10_method_53_code, 3, (some .int), k_M_bar, 2, rfl, rfl, by decide +kernel, Tb_at 973 rfl rfl, Tb_at 974 rfl rfl, ⟨TX8, 22, rfl⟩, Or.inl (Tb_at 972 rfl rfl)⟩
set_option maxRecDepth 20000 in
theorem vL_85 : VOK mprog R_law 85 n_Z_lasting 3 7 := ⟨⟨"ZigzagPieces", "lasting", "(II)I"⟩, prog_1_method_19_code, 3, (some .int), k_Z_lasting, 2, rfl, rfl, by decide +kernel, Tb_at 673 rfl rfl, Tb_at 674 rfl rfl, ⟨TX7, 7, rfl⟩, Or.inl (Tb_at 672 rfl rfl)⟩
set_option maxRecDepth 20000 in
theorem vL_88 : VOK mprog R_law 88 n_M_lasting 3 8 := ⟨⟨"ZigzagPiecesModel", "lasting", "(II)I"⟩, prog_10_method_54_code, 5, (some .int), k_M_lasting, 2, rfl, rfl, by decide +kernel, Tb_at 985 rfl rfl, Tb_at 986 rfl rfl, ⟨TX8, 22, rfl⟩, Or.inl (Tb_at 984 rfl rfl)⟩
set_option maxRecDepth 20000 in
theorem vL_89 : VOK mprog R_law 89 n_Z_longer 2 7 := ⟨⟨"ZigzagPieces", "longer", "(I)I"⟩, prog_1_method_20_code, 2, (some .int), k_Z_longer, 1, rfl, rfl, by decide +kernel, Tb_at 681 rfl rfl, Tb_at 682 rfl rfl, ⟨TX7, 7, rfl⟩, Or.inl (Tb_at 680 rfl rfl)⟩
set_option maxRecDepth 20000 in
theorem vL_92 : VOK mprog R_law 92 n_M_longer 2 8 := ⟨⟨"ZigzagPiecesModel", "longer", "(I)I"⟩, prog_10_method_55_code, 4, (some .int), k_M_longer, 1, rfl, rfl, by decide +kernel, Tb_at 989 rfl rfl, Tb_at 990 rfl rfl, ⟨TX8, 22, rfl⟩, Or.inl (Tb_at 988 rfl rfl)⟩
set_option maxRecDepth 20000 in
theorem vL_93 : VOK mprog R_law 93 n_Z_steadiest 2 7 := ⟨⟨"ZigzagPieces", "steadiest", "(I)I"⟩, prog_1_method_21_code, 6, (some .int), k_Z_steadiest, 1, rfl, rfl, by decide +kernel, Tb_at 690 rfl rfl, Tb_at 691 rfl rfl, ⟨TX7, 7, rfl⟩, Or.inl (Tb_at 689 rfl rfl)⟩
set_option maxRecDepth 20000 in
theorem vL_96 : VOK mprog R_law 96 n_M_steadiest 2 8 := ⟨⟨"ZigzagPiecesModel", "steadiest", "(I)I"⟩, prog_10_method_57_code, 6, (some .int), k_M_steadiest, 1, rfl, rfl, by decide +kernel, Tb_at 993 rfl rfl, Tb_at 994 rfl rfl, ⟨TX8, 22, rfl⟩, Or.inl (Tb_at 992 rfl rfl)⟩
set_option maxRecDepth 20000 in
theorem vL_97 : VOK mprog R_law 97 n_Z_keep 1 7 := ⟨⟨"ZigzagPieces", "keep", "()I"⟩, prog_1_method_22_code, 1, (some .int), k_Z_keep, 0, rfl, rfl, by decide +kernel, Tb_at 699 rfl rfl, Tb_at 700 rfl rfl, ⟨TX7, 7, rfl⟩, Or.inl (Tb_at 698 rfl rfl)⟩
set_option maxRecDepth 20000 in
theorem vL_100 : VOK mprog R_law 100 n_M_keep 1 8 := ⟨⟨"ZigzagPiecesModel", "keep", "()I"⟩, prog_10_method_58_code, 2, (some .int), k_M_keep, 0, rfl, rfl, by decide +kernel, Tb_at 1001 rfl rfl, Tb_at 1002 rfl rfl, ⟨TX8, 22, rfl⟩, Or.inl (Tb_at 1000 rfl rfl)⟩
set_option maxRecDepth 20000 in
theorem vL_101 : VOK mprog R_law 101 n_Z_other 1 7 := ⟨⟨"ZigzagPieces", "other", "()I"⟩, prog_1_method_23_code, 2, (some .int), k_Z_other, 0, rfl, rfl, by decide +kernel, Tb_at 703 rfl rfl, Tb_at 704 rfl rfl, ⟨TX7, 7, rfl⟩, Or.inl (Tb_at 702 rfl rfl)⟩
set_option maxRecDepth 20000 in
theorem vL_104 : VOK mprog R_law 104 n_M_other 1 8 := ⟨⟨"ZigzagPiecesModel", "other", "()I"⟩, prog_10_method_60_code, 2, (some .int), k_M_other, 0, rfl, rfl, by decide +kernel, Tb_at 1005 rfl rfl, Tb_at 1006 rfl rfl, ⟨TX8, 22, rfl⟩, Or.inl (Tb_at 1004 rfl rfl)⟩
set_option maxRecDepth 20000 in
theorem vL_105 : VOK mprog R_law 105 n_Z_back 1 7 := ⟨⟨"ZigzagPieces", "back", "()I"⟩, prog_1_method_24_code, 2, (some .int), k_Z_back, 0, rfl, rfl, by decide +kernel, Tb_at 707 rfl rfl, Tb_at 708 rfl rfl, ⟨TX7, 7, rfl⟩, Or.inl (Tb_at 706 rfl rfl)⟩
set_option maxRecDepth 20000 in
theorem vL_108 : VOK mprog R_law 108 n_M_back 1 8 := ⟨⟨"ZigzagPiecesModel", "back", "()I"⟩, prog_10_method_61_code, 1, (some .int), k_M_back, 0, rfl, rfl, by decide +kernel, Tb_at 1013 rfl rfl, Tb_at 1014 rfl rfl, ⟨TX8, 22, rfl⟩, Or.inl (Tb_at 1012 rfl rfl)⟩
set_option maxRecDepth 20000 in
theorem vL_109 : VOK mprog R_law 109 n_Z_count 2 7 := ⟨⟨"ZigzagPieces", "count", "(I)I"⟩, prog_1_method_25_code, 2, (some .int), k_Z_count, 1, rfl, rfl, by decide +kernel, Tb_at 711 rfl rfl, Tb_at 712 rfl rfl, ⟨TX7, 7, rfl⟩, Or.inl (Tb_at 710 rfl rfl)⟩
set_option maxRecDepth 20000 in
theorem vL_112 : VOK mprog R_law 112 n_M_count 2 8 := ⟨⟨"ZigzagPiecesModel", "count", "(I)I"⟩, prog_10_method_62_code, 2, (some .int), k_M_count, 1, rfl, rfl, by decide +kernel, Tb_at 1017 rfl rfl, Tb_at 1018 rfl rfl, ⟨TX8, 22, rfl⟩, Or.inl (Tb_at 1016 rfl rfl)⟩
