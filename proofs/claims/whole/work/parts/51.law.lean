/-! THE LAW: its start and end (the skeleton's), rows for its calls -/
def R_law : String := "WallpaperGroupsLaw"
def lw_P (b : Addr) (xs : List Int32) (args : Array Value) (s : State) : Prop := args = #[.ref b] ∧ s.IntsAt b xs ∧ xs.length ≤ 2560 ∧ (Jvm.Cond.and given_1 narrow_1).before args s = true
def lw_Q (_ : Array Value) (s : State) (o : Outcome) (t : State) : Prop := o = .returned (some (.int 1)) ∧ Framed s o t [] 600000 7302250
def lw_Z (below : List Frame) (a : Array Value) (s : State) : State → Prop := fun t => ∃ o, t.status = .running ∧ Ended t below o ∧ lw_Q a s o t
/-- the law's own end, with 1 on the stack, nothing written that was there before, its room as the claim has it -/
theorem lw_ret {p : Program} {l : Launch} {e : Env} {s : State} {m : MethodId} {below : List Frame} {meth : Method} {c : Code} {b : Nat} (hx : p.tables.exec = Jvm.exec) (hb : c.code = code) (hr : meth.sig.returnType = ret) (hlocks : meth.locks = false) {pc : Nat} {H : Heap} {ls : Array Slot} (hdg : decode code pc = .ok (.ireturn, 1)) : W p l e room_1 s m #[Value.ref b] below meth c H [] 600000 7302250 (lw_Z below #[Value.ref b] s) (F0 m pc ls [.int 1]) := by
  intro T hT X
  obtain ⟨fs, hret, hrun, hended, hW, hframe⟩ := X.leave (v := some (.int 1)) (hlocks := hlocks) (fun h => by rw [hr] at h; cases h)
  have hmeth' : T.vm.method? m = some meth := X.method'
  refine ⟨T.setFrames fs, ?_, .returned (some (.int 1)), hrun, hended, rfl, ⟨_, rfl⟩, hW, hframe⟩
  jvm_step X.here [X.here.top, hx, hb, hdg, hmeth', hr, ret, narrow_b1]
  (try refine ⟨rfl, ?_⟩); (try refine ⟨rfl, ?_⟩)
  first | (intro acts; rw [hret _ acts rfl rfl rfl]) | rw [hret _ _ rfl rfl rfl]
  exact Steps.refl _
/-- what holds at the law's entry: the machine, the code, the tables' words (any of lw_tbl by 'hts w (by decide +kernel)'), the script of L ints xs at the cell b, what the Statement gives of the start (any of its parts by flat_of_before) -/
def lw_At (p : Program) (s : State) (m : MethodId) (meth : Method) (c : Code) (b L : Nat) (xs : Nat → Int32) : Prop :=
  p.tables.exec = Jvm.exec ∧ c.code = code ∧ meth.sig.returnType = ret ∧ c.maxLocals = 4 ∧ s.vm.findClass R_law = some m.cls ∧ (∀ w ∈ lw_tbl, w.before #[Value.ref b] s = true) ∧ va_X b L xs s s.heap ∧ b < s.heap.size ∧ meth.locks = false ∧ (Jvm.Cond.and given_1 narrow_1).before #[Value.ref b] s = true
theorem dl_0 : decode code 0 = .ok (.new 7, 3) := by decide +kernel
theorem dl_3 : decode code 3 = .ok (.dup, 1) := by decide +kernel
theorem dl_4 : decode code 4 = .ok (.invokespecial 9, 3) := by decide +kernel
theorem dl_7 : decode code 7 = .ok (.astore_n 1, 1) := by decide +kernel
theorem dl_8 : decode code 8 = .ok (.new 10, 3) := by decide +kernel
theorem dl_11 : decode code 11 = .ok (.dup, 1) := by decide +kernel
theorem dl_12 : decode code 12 = .ok (.invokespecial 12, 3) := by decide +kernel
theorem dl_15 : decode code 15 = .ok (.astore_n 2, 1) := by decide +kernel
theorem dl_16 : decode code 16 = .ok (.iconst 0, 1) := by decide +kernel
theorem dl_17 : decode code 17 = .ok (.istore_n 3, 1) := by decide +kernel
theorem dl_18 : decode code 18 = .ok (.iload_n 3, 1) := by decide +kernel
theorem dl_19 : decode code 19 = .ok (.aload_n 0, 1) := by decide +kernel
theorem dl_20 : decode code 20 = .ok (.arraylength, 1) := by decide +kernel
theorem dl_21 : decode code 21 = .ok (.iconst 5, 1) := by decide +kernel
theorem dl_22 : decode code 22 = .ok (.isub, 1) := by decide +kernel
theorem dl_23 : decode code 23 = .ok (.if_icmp .gt 752, 3) := by decide +kernel
theorem dl_26 : decode code 26 = .ok (.aload_n 0, 1) := by decide +kernel
theorem dl_27 : decode code 27 = .ok (.iload_n 3, 1) := by decide +kernel
theorem dl_28 : decode code 28 = .ok (.iaload, 1) := by decide +kernel
theorem dl_29 : decode code 29 = .ok (.bipush 31, 2) := by decide +kernel
theorem dl_31 : decode code 31 = .ok (.iand, 1) := by decide +kernel
theorem dl_32 : decode code 32 = .ok (.tableswitch 737 0 26 #[124, 157, 200, 223, 276, 289, 312, 325, 348, 371, 404, 427, 450, 473, 486, 499, 512, 525, 538, 551, 564, 597, 630, 663, 676, 689, 713], 124) := by decide +kernel
theorem dl_156 : decode code 156 = .ok (.aload_n 1, 1) := by decide +kernel
theorem dl_157 : decode code 157 = .ok (.aload_n 0, 1) := by decide +kernel
theorem dl_158 : decode code 158 = .ok (.iload_n 3, 1) := by decide +kernel
theorem dl_159 : decode code 159 = .ok (.iconst 1, 1) := by decide +kernel
theorem dl_160 : decode code 160 = .ok (.iadd, 1) := by decide +kernel
theorem dl_161 : decode code 161 = .ok (.iaload, 1) := by decide +kernel
theorem dl_162 : decode code 162 = .ok (.aload_n 0, 1) := by decide +kernel
theorem dl_163 : decode code 163 = .ok (.iload_n 3, 1) := by decide +kernel
theorem dl_164 : decode code 164 = .ok (.iconst 2, 1) := by decide +kernel
theorem dl_165 : decode code 165 = .ok (.iadd, 1) := by decide +kernel
theorem dl_166 : decode code 166 = .ok (.iaload, 1) := by decide +kernel
theorem dl_167 : decode code 167 = .ok (.invokevirtual 13, 3) := by decide +kernel
theorem dl_170 : decode code 170 = .ok (.aload_n 2, 1) := by decide +kernel
theorem dl_171 : decode code 171 = .ok (.aload_n 0, 1) := by decide +kernel
theorem dl_172 : decode code 172 = .ok (.iload_n 3, 1) := by decide +kernel
theorem dl_173 : decode code 173 = .ok (.iconst 1, 1) := by decide +kernel
theorem dl_174 : decode code 174 = .ok (.iadd, 1) := by decide +kernel
theorem dl_175 : decode code 175 = .ok (.iaload, 1) := by decide +kernel
theorem dl_176 : decode code 176 = .ok (.aload_n 0, 1) := by decide +kernel
theorem dl_177 : decode code 177 = .ok (.iload_n 3, 1) := by decide +kernel
theorem dl_178 : decode code 178 = .ok (.iconst 2, 1) := by decide +kernel
theorem dl_179 : decode code 179 = .ok (.iadd, 1) := by decide +kernel
theorem dl_180 : decode code 180 = .ok (.iaload, 1) := by decide +kernel
theorem dl_181 : decode code 181 = .ok (.invokevirtual 17, 3) := by decide +kernel
theorem dl_184 : decode code 184 = .ok (.if_icmp .eq 585, 3) := by decide +kernel
theorem dl_187 : decode code 187 = .ok (.iconst 0, 1) := by decide +kernel
theorem dl_188 : decode code 188 = .ok (.ireturn, 1) := by decide +kernel
theorem dl_189 : decode code 189 = .ok (.aload_n 1, 1) := by decide +kernel
theorem dl_190 : decode code 190 = .ok (.aload_n 0, 1) := by decide +kernel
theorem dl_191 : decode code 191 = .ok (.iload_n 3, 1) := by decide +kernel
theorem dl_192 : decode code 192 = .ok (.iconst 1, 1) := by decide +kernel
theorem dl_193 : decode code 193 = .ok (.iadd, 1) := by decide +kernel
theorem dl_194 : decode code 194 = .ok (.iaload, 1) := by decide +kernel
theorem dl_195 : decode code 195 = .ok (.aload_n 0, 1) := by decide +kernel
theorem dl_196 : decode code 196 = .ok (.iload_n 3, 1) := by decide +kernel
theorem dl_197 : decode code 197 = .ok (.iconst 2, 1) := by decide +kernel
theorem dl_198 : decode code 198 = .ok (.iadd, 1) := by decide +kernel
theorem dl_199 : decode code 199 = .ok (.iaload, 1) := by decide +kernel
theorem dl_200 : decode code 200 = .ok (.aload_n 0, 1) := by decide +kernel
theorem dl_201 : decode code 201 = .ok (.iload_n 3, 1) := by decide +kernel
theorem dl_202 : decode code 202 = .ok (.iconst 3, 1) := by decide +kernel
theorem dl_203 : decode code 203 = .ok (.iadd, 1) := by decide +kernel
theorem dl_204 : decode code 204 = .ok (.iaload, 1) := by decide +kernel
theorem dl_205 : decode code 205 = .ok (.invokevirtual 18, 3) := by decide +kernel
theorem dl_208 : decode code 208 = .ok (.aload_n 2, 1) := by decide +kernel
theorem dl_209 : decode code 209 = .ok (.aload_n 0, 1) := by decide +kernel
theorem dl_210 : decode code 210 = .ok (.iload_n 3, 1) := by decide +kernel
theorem dl_211 : decode code 211 = .ok (.iconst 1, 1) := by decide +kernel
theorem dl_212 : decode code 212 = .ok (.iadd, 1) := by decide +kernel
theorem dl_213 : decode code 213 = .ok (.iaload, 1) := by decide +kernel
theorem dl_214 : decode code 214 = .ok (.aload_n 0, 1) := by decide +kernel
theorem dl_215 : decode code 215 = .ok (.iload_n 3, 1) := by decide +kernel
theorem dl_216 : decode code 216 = .ok (.iconst 2, 1) := by decide +kernel
theorem dl_217 : decode code 217 = .ok (.iadd, 1) := by decide +kernel
theorem dl_218 : decode code 218 = .ok (.iaload, 1) := by decide +kernel
theorem dl_219 : decode code 219 = .ok (.aload_n 0, 1) := by decide +kernel
theorem dl_220 : decode code 220 = .ok (.iload_n 3, 1) := by decide +kernel
theorem dl_221 : decode code 221 = .ok (.iconst 3, 1) := by decide +kernel
theorem dl_222 : decode code 222 = .ok (.iadd, 1) := by decide +kernel
theorem dl_223 : decode code 223 = .ok (.iaload, 1) := by decide +kernel
theorem dl_224 : decode code 224 = .ok (.invokevirtual 22, 3) := by decide +kernel
theorem dl_227 : decode code 227 = .ok (.if_icmp .eq 542, 3) := by decide +kernel
theorem dl_230 : decode code 230 = .ok (.iconst 0, 1) := by decide +kernel
theorem dl_231 : decode code 231 = .ok (.ireturn, 1) := by decide +kernel
theorem dl_232 : decode code 232 = .ok (.aload_n 1, 1) := by decide +kernel
theorem dl_233 : decode code 233 = .ok (.aload_n 0, 1) := by decide +kernel
theorem dl_234 : decode code 234 = .ok (.iload_n 3, 1) := by decide +kernel
theorem dl_235 : decode code 235 = .ok (.iconst 1, 1) := by decide +kernel
theorem dl_236 : decode code 236 = .ok (.iadd, 1) := by decide +kernel
theorem dl_237 : decode code 237 = .ok (.iaload, 1) := by decide +kernel
theorem dl_238 : decode code 238 = .ok (.invokevirtual 23, 3) := by decide +kernel
theorem dl_241 : decode code 241 = .ok (.aload_n 2, 1) := by decide +kernel
theorem dl_242 : decode code 242 = .ok (.aload_n 0, 1) := by decide +kernel
theorem dl_243 : decode code 243 = .ok (.iload_n 3, 1) := by decide +kernel
theorem dl_244 : decode code 244 = .ok (.iconst 1, 1) := by decide +kernel
theorem dl_245 : decode code 245 = .ok (.iadd, 1) := by decide +kernel
theorem dl_246 : decode code 246 = .ok (.iaload, 1) := by decide +kernel
theorem dl_247 : decode code 247 = .ok (.invokevirtual 27, 3) := by decide +kernel
theorem dl_250 : decode code 250 = .ok (.if_icmp .eq 519, 3) := by decide +kernel
theorem dl_253 : decode code 253 = .ok (.iconst 0, 1) := by decide +kernel
theorem dl_254 : decode code 254 = .ok (.ireturn, 1) := by decide +kernel
theorem dl_255 : decode code 255 = .ok (.aload_n 1, 1) := by decide +kernel
theorem dl_256 : decode code 256 = .ok (.aload_n 0, 1) := by decide +kernel
theorem dl_257 : decode code 257 = .ok (.iload_n 3, 1) := by decide +kernel
theorem dl_258 : decode code 258 = .ok (.iconst 1, 1) := by decide +kernel
theorem dl_259 : decode code 259 = .ok (.iadd, 1) := by decide +kernel
theorem dl_260 : decode code 260 = .ok (.iaload, 1) := by decide +kernel
theorem dl_261 : decode code 261 = .ok (.aload_n 0, 1) := by decide +kernel
theorem dl_262 : decode code 262 = .ok (.iload_n 3, 1) := by decide +kernel
theorem dl_263 : decode code 263 = .ok (.iconst 2, 1) := by decide +kernel
theorem dl_264 : decode code 264 = .ok (.iadd, 1) := by decide +kernel
theorem dl_265 : decode code 265 = .ok (.iaload, 1) := by decide +kernel
theorem dl_266 : decode code 266 = .ok (.aload_n 0, 1) := by decide +kernel
theorem dl_267 : decode code 267 = .ok (.iload_n 3, 1) := by decide +kernel
theorem dl_268 : decode code 268 = .ok (.iconst 3, 1) := by decide +kernel
theorem dl_269 : decode code 269 = .ok (.iadd, 1) := by decide +kernel
theorem dl_270 : decode code 270 = .ok (.iaload, 1) := by decide +kernel
theorem dl_271 : decode code 271 = .ok (.aload_n 0, 1) := by decide +kernel
theorem dl_272 : decode code 272 = .ok (.iload_n 3, 1) := by decide +kernel
theorem dl_273 : decode code 273 = .ok (.iconst 4, 1) := by decide +kernel
theorem dl_274 : decode code 274 = .ok (.iadd, 1) := by decide +kernel
theorem dl_275 : decode code 275 = .ok (.iaload, 1) := by decide +kernel
theorem dl_276 : decode code 276 = .ok (.invokevirtual 28, 3) := by decide +kernel
theorem dl_279 : decode code 279 = .ok (.aload_n 2, 1) := by decide +kernel
theorem dl_280 : decode code 280 = .ok (.aload_n 0, 1) := by decide +kernel
theorem dl_281 : decode code 281 = .ok (.iload_n 3, 1) := by decide +kernel
theorem dl_282 : decode code 282 = .ok (.iconst 1, 1) := by decide +kernel
theorem dl_283 : decode code 283 = .ok (.iadd, 1) := by decide +kernel
theorem dl_284 : decode code 284 = .ok (.iaload, 1) := by decide +kernel
theorem dl_285 : decode code 285 = .ok (.aload_n 0, 1) := by decide +kernel
theorem dl_286 : decode code 286 = .ok (.iload_n 3, 1) := by decide +kernel
theorem dl_287 : decode code 287 = .ok (.iconst 2, 1) := by decide +kernel
theorem dl_288 : decode code 288 = .ok (.iadd, 1) := by decide +kernel
theorem dl_289 : decode code 289 = .ok (.iaload, 1) := by decide +kernel
theorem dl_290 : decode code 290 = .ok (.aload_n 0, 1) := by decide +kernel
theorem dl_291 : decode code 291 = .ok (.iload_n 3, 1) := by decide +kernel
theorem dl_292 : decode code 292 = .ok (.iconst 3, 1) := by decide +kernel
theorem dl_293 : decode code 293 = .ok (.iadd, 1) := by decide +kernel
theorem dl_294 : decode code 294 = .ok (.iaload, 1) := by decide +kernel
theorem dl_295 : decode code 295 = .ok (.aload_n 0, 1) := by decide +kernel
theorem dl_296 : decode code 296 = .ok (.iload_n 3, 1) := by decide +kernel
theorem dl_297 : decode code 297 = .ok (.iconst 4, 1) := by decide +kernel
theorem dl_298 : decode code 298 = .ok (.iadd, 1) := by decide +kernel
theorem dl_299 : decode code 299 = .ok (.iaload, 1) := by decide +kernel
theorem dl_300 : decode code 300 = .ok (.invokevirtual 32, 3) := by decide +kernel
theorem dl_303 : decode code 303 = .ok (.if_icmp .eq 466, 3) := by decide +kernel
theorem dl_306 : decode code 306 = .ok (.iconst 0, 1) := by decide +kernel
theorem dl_307 : decode code 307 = .ok (.ireturn, 1) := by decide +kernel
theorem dl_308 : decode code 308 = .ok (.aload_n 1, 1) := by decide +kernel
theorem dl_309 : decode code 309 = .ok (.invokevirtual 33, 3) := by decide +kernel
theorem dl_312 : decode code 312 = .ok (.aload_n 2, 1) := by decide +kernel
theorem dl_313 : decode code 313 = .ok (.invokevirtual 37, 3) := by decide +kernel
theorem dl_316 : decode code 316 = .ok (.if_icmp .eq 453, 3) := by decide +kernel
theorem dl_319 : decode code 319 = .ok (.iconst 0, 1) := by decide +kernel
theorem dl_320 : decode code 320 = .ok (.ireturn, 1) := by decide +kernel
theorem dl_321 : decode code 321 = .ok (.aload_n 1, 1) := by decide +kernel
theorem dl_322 : decode code 322 = .ok (.aload_n 0, 1) := by decide +kernel
theorem dl_323 : decode code 323 = .ok (.iload_n 3, 1) := by decide +kernel
theorem dl_324 : decode code 324 = .ok (.iconst 1, 1) := by decide +kernel
theorem dl_325 : decode code 325 = .ok (.iadd, 1) := by decide +kernel
theorem dl_326 : decode code 326 = .ok (.iaload, 1) := by decide +kernel
theorem dl_327 : decode code 327 = .ok (.invokevirtual 38, 3) := by decide +kernel
theorem dl_330 : decode code 330 = .ok (.aload_n 2, 1) := by decide +kernel
theorem dl_331 : decode code 331 = .ok (.aload_n 0, 1) := by decide +kernel
theorem dl_332 : decode code 332 = .ok (.iload_n 3, 1) := by decide +kernel
theorem dl_333 : decode code 333 = .ok (.iconst 1, 1) := by decide +kernel
theorem dl_334 : decode code 334 = .ok (.iadd, 1) := by decide +kernel
theorem dl_335 : decode code 335 = .ok (.iaload, 1) := by decide +kernel
theorem dl_336 : decode code 336 = .ok (.invokevirtual 41, 3) := by decide +kernel
theorem dl_339 : decode code 339 = .ok (.if_icmp .eq 430, 3) := by decide +kernel
theorem dl_342 : decode code 342 = .ok (.iconst 0, 1) := by decide +kernel
theorem dl_343 : decode code 343 = .ok (.ireturn, 1) := by decide +kernel
theorem dl_344 : decode code 344 = .ok (.aload_n 1, 1) := by decide +kernel
theorem dl_345 : decode code 345 = .ok (.invokevirtual 42, 3) := by decide +kernel
theorem dl_348 : decode code 348 = .ok (.aload_n 2, 1) := by decide +kernel
theorem dl_349 : decode code 349 = .ok (.invokevirtual 45, 3) := by decide +kernel
theorem dl_352 : decode code 352 = .ok (.if_icmp .eq 417, 3) := by decide +kernel
theorem dl_355 : decode code 355 = .ok (.iconst 0, 1) := by decide +kernel
theorem dl_356 : decode code 356 = .ok (.ireturn, 1) := by decide +kernel
theorem dl_357 : decode code 357 = .ok (.aload_n 1, 1) := by decide +kernel
theorem dl_358 : decode code 358 = .ok (.aload_n 0, 1) := by decide +kernel
theorem dl_359 : decode code 359 = .ok (.iload_n 3, 1) := by decide +kernel
theorem dl_360 : decode code 360 = .ok (.iconst 1, 1) := by decide +kernel
theorem dl_361 : decode code 361 = .ok (.iadd, 1) := by decide +kernel
theorem dl_362 : decode code 362 = .ok (.iaload, 1) := by decide +kernel
theorem dl_363 : decode code 363 = .ok (.invokevirtual 46, 3) := by decide +kernel
theorem dl_366 : decode code 366 = .ok (.aload_n 2, 1) := by decide +kernel
theorem dl_367 : decode code 367 = .ok (.aload_n 0, 1) := by decide +kernel
theorem dl_368 : decode code 368 = .ok (.iload_n 3, 1) := by decide +kernel
theorem dl_369 : decode code 369 = .ok (.iconst 1, 1) := by decide +kernel
theorem dl_370 : decode code 370 = .ok (.iadd, 1) := by decide +kernel
theorem dl_371 : decode code 371 = .ok (.iaload, 1) := by decide +kernel
theorem dl_372 : decode code 372 = .ok (.invokevirtual 49, 3) := by decide +kernel
theorem dl_375 : decode code 375 = .ok (.if_icmp .eq 394, 3) := by decide +kernel
theorem dl_378 : decode code 378 = .ok (.iconst 0, 1) := by decide +kernel
theorem dl_379 : decode code 379 = .ok (.ireturn, 1) := by decide +kernel
theorem dl_380 : decode code 380 = .ok (.aload_n 1, 1) := by decide +kernel
theorem dl_381 : decode code 381 = .ok (.aload_n 0, 1) := by decide +kernel
theorem dl_382 : decode code 382 = .ok (.iload_n 3, 1) := by decide +kernel
theorem dl_383 : decode code 383 = .ok (.iconst 1, 1) := by decide +kernel
theorem dl_384 : decode code 384 = .ok (.iadd, 1) := by decide +kernel
theorem dl_385 : decode code 385 = .ok (.iaload, 1) := by decide +kernel
theorem dl_386 : decode code 386 = .ok (.invokevirtual 50, 3) := by decide +kernel
theorem dl_389 : decode code 389 = .ok (.aload_n 2, 1) := by decide +kernel
theorem dl_390 : decode code 390 = .ok (.aload_n 0, 1) := by decide +kernel
theorem dl_391 : decode code 391 = .ok (.iload_n 3, 1) := by decide +kernel
theorem dl_392 : decode code 392 = .ok (.iconst 1, 1) := by decide +kernel
theorem dl_393 : decode code 393 = .ok (.iadd, 1) := by decide +kernel
theorem dl_394 : decode code 394 = .ok (.iaload, 1) := by decide +kernel
theorem dl_395 : decode code 395 = .ok (.invokevirtual 53, 3) := by decide +kernel
theorem dl_398 : decode code 398 = .ok (.if_icmp .eq 371, 3) := by decide +kernel
theorem dl_401 : decode code 401 = .ok (.iconst 0, 1) := by decide +kernel
theorem dl_402 : decode code 402 = .ok (.ireturn, 1) := by decide +kernel
theorem dl_403 : decode code 403 = .ok (.aload_n 1, 1) := by decide +kernel
theorem dl_404 : decode code 404 = .ok (.aload_n 0, 1) := by decide +kernel
theorem dl_405 : decode code 405 = .ok (.iload_n 3, 1) := by decide +kernel
theorem dl_406 : decode code 406 = .ok (.iconst 1, 1) := by decide +kernel
theorem dl_407 : decode code 407 = .ok (.iadd, 1) := by decide +kernel
theorem dl_408 : decode code 408 = .ok (.iaload, 1) := by decide +kernel
theorem dl_409 : decode code 409 = .ok (.aload_n 0, 1) := by decide +kernel
theorem dl_410 : decode code 410 = .ok (.iload_n 3, 1) := by decide +kernel
theorem dl_411 : decode code 411 = .ok (.iconst 2, 1) := by decide +kernel
theorem dl_412 : decode code 412 = .ok (.iadd, 1) := by decide +kernel
theorem dl_413 : decode code 413 = .ok (.iaload, 1) := by decide +kernel
theorem dl_414 : decode code 414 = .ok (.invokevirtual 54, 3) := by decide +kernel
theorem dl_417 : decode code 417 = .ok (.aload_n 2, 1) := by decide +kernel
theorem dl_418 : decode code 418 = .ok (.aload_n 0, 1) := by decide +kernel
theorem dl_419 : decode code 419 = .ok (.iload_n 3, 1) := by decide +kernel
theorem dl_420 : decode code 420 = .ok (.iconst 1, 1) := by decide +kernel
theorem dl_421 : decode code 421 = .ok (.iadd, 1) := by decide +kernel
theorem dl_422 : decode code 422 = .ok (.iaload, 1) := by decide +kernel
theorem dl_423 : decode code 423 = .ok (.aload_n 0, 1) := by decide +kernel
theorem dl_424 : decode code 424 = .ok (.iload_n 3, 1) := by decide +kernel
theorem dl_425 : decode code 425 = .ok (.iconst 2, 1) := by decide +kernel
theorem dl_426 : decode code 426 = .ok (.iadd, 1) := by decide +kernel
theorem dl_427 : decode code 427 = .ok (.iaload, 1) := by decide +kernel
theorem dl_428 : decode code 428 = .ok (.invokevirtual 57, 3) := by decide +kernel
theorem dl_431 : decode code 431 = .ok (.if_icmp .eq 338, 3) := by decide +kernel
theorem dl_434 : decode code 434 = .ok (.iconst 0, 1) := by decide +kernel
theorem dl_435 : decode code 435 = .ok (.ireturn, 1) := by decide +kernel
theorem dl_436 : decode code 436 = .ok (.aload_n 1, 1) := by decide +kernel
theorem dl_437 : decode code 437 = .ok (.aload_n 0, 1) := by decide +kernel
theorem dl_438 : decode code 438 = .ok (.iload_n 3, 1) := by decide +kernel
theorem dl_439 : decode code 439 = .ok (.iconst 1, 1) := by decide +kernel
theorem dl_440 : decode code 440 = .ok (.iadd, 1) := by decide +kernel
theorem dl_441 : decode code 441 = .ok (.iaload, 1) := by decide +kernel
theorem dl_442 : decode code 442 = .ok (.invokevirtual 58, 3) := by decide +kernel
theorem dl_445 : decode code 445 = .ok (.aload_n 2, 1) := by decide +kernel
theorem dl_446 : decode code 446 = .ok (.aload_n 0, 1) := by decide +kernel
theorem dl_447 : decode code 447 = .ok (.iload_n 3, 1) := by decide +kernel
theorem dl_448 : decode code 448 = .ok (.iconst 1, 1) := by decide +kernel
theorem dl_449 : decode code 449 = .ok (.iadd, 1) := by decide +kernel
theorem dl_450 : decode code 450 = .ok (.iaload, 1) := by decide +kernel
theorem dl_451 : decode code 451 = .ok (.invokevirtual 61, 3) := by decide +kernel
theorem dl_454 : decode code 454 = .ok (.if_icmp .eq 315, 3) := by decide +kernel
theorem dl_457 : decode code 457 = .ok (.iconst 0, 1) := by decide +kernel
theorem dl_458 : decode code 458 = .ok (.ireturn, 1) := by decide +kernel
theorem dl_459 : decode code 459 = .ok (.aload_n 1, 1) := by decide +kernel
theorem dl_460 : decode code 460 = .ok (.aload_n 0, 1) := by decide +kernel
theorem dl_461 : decode code 461 = .ok (.iload_n 3, 1) := by decide +kernel
theorem dl_462 : decode code 462 = .ok (.iconst 1, 1) := by decide +kernel
theorem dl_463 : decode code 463 = .ok (.iadd, 1) := by decide +kernel
theorem dl_464 : decode code 464 = .ok (.iaload, 1) := by decide +kernel
theorem dl_465 : decode code 465 = .ok (.invokevirtual 62, 3) := by decide +kernel
theorem dl_468 : decode code 468 = .ok (.aload_n 2, 1) := by decide +kernel
theorem dl_469 : decode code 469 = .ok (.aload_n 0, 1) := by decide +kernel
theorem dl_470 : decode code 470 = .ok (.iload_n 3, 1) := by decide +kernel
theorem dl_471 : decode code 471 = .ok (.iconst 1, 1) := by decide +kernel
theorem dl_472 : decode code 472 = .ok (.iadd, 1) := by decide +kernel
theorem dl_473 : decode code 473 = .ok (.iaload, 1) := by decide +kernel
theorem dl_474 : decode code 474 = .ok (.invokevirtual 65, 3) := by decide +kernel
theorem dl_477 : decode code 477 = .ok (.if_icmp .eq 292, 3) := by decide +kernel
theorem dl_480 : decode code 480 = .ok (.iconst 0, 1) := by decide +kernel
theorem dl_481 : decode code 481 = .ok (.ireturn, 1) := by decide +kernel
theorem dl_482 : decode code 482 = .ok (.aload_n 1, 1) := by decide +kernel
theorem dl_483 : decode code 483 = .ok (.aload_n 0, 1) := by decide +kernel
theorem dl_484 : decode code 484 = .ok (.iload_n 3, 1) := by decide +kernel
theorem dl_485 : decode code 485 = .ok (.iconst 1, 1) := by decide +kernel
theorem dl_486 : decode code 486 = .ok (.iadd, 1) := by decide +kernel
theorem dl_487 : decode code 487 = .ok (.iaload, 1) := by decide +kernel
theorem dl_488 : decode code 488 = .ok (.invokevirtual 66, 3) := by decide +kernel
theorem dl_491 : decode code 491 = .ok (.aload_n 2, 1) := by decide +kernel
theorem dl_492 : decode code 492 = .ok (.aload_n 0, 1) := by decide +kernel
theorem dl_493 : decode code 493 = .ok (.iload_n 3, 1) := by decide +kernel
theorem dl_494 : decode code 494 = .ok (.iconst 1, 1) := by decide +kernel
theorem dl_495 : decode code 495 = .ok (.iadd, 1) := by decide +kernel
theorem dl_496 : decode code 496 = .ok (.iaload, 1) := by decide +kernel
theorem dl_497 : decode code 497 = .ok (.invokevirtual 69, 3) := by decide +kernel
theorem dl_500 : decode code 500 = .ok (.if_icmp .eq 269, 3) := by decide +kernel
theorem dl_503 : decode code 503 = .ok (.iconst 0, 1) := by decide +kernel
theorem dl_504 : decode code 504 = .ok (.ireturn, 1) := by decide +kernel
theorem dl_505 : decode code 505 = .ok (.aload_n 1, 1) := by decide +kernel
theorem dl_506 : decode code 506 = .ok (.invokevirtual 70, 3) := by decide +kernel
theorem dl_509 : decode code 509 = .ok (.aload_n 2, 1) := by decide +kernel
theorem dl_510 : decode code 510 = .ok (.invokevirtual 73, 3) := by decide +kernel
theorem dl_513 : decode code 513 = .ok (.if_icmp .eq 256, 3) := by decide +kernel
theorem dl_516 : decode code 516 = .ok (.iconst 0, 1) := by decide +kernel
theorem dl_517 : decode code 517 = .ok (.ireturn, 1) := by decide +kernel
theorem dl_518 : decode code 518 = .ok (.aload_n 1, 1) := by decide +kernel
theorem dl_519 : decode code 519 = .ok (.invokevirtual 74, 3) := by decide +kernel
theorem dl_522 : decode code 522 = .ok (.aload_n 2, 1) := by decide +kernel
theorem dl_523 : decode code 523 = .ok (.invokevirtual 77, 3) := by decide +kernel
theorem dl_526 : decode code 526 = .ok (.if_icmp .eq 243, 3) := by decide +kernel
theorem dl_529 : decode code 529 = .ok (.iconst 0, 1) := by decide +kernel
theorem dl_530 : decode code 530 = .ok (.ireturn, 1) := by decide +kernel
theorem dl_531 : decode code 531 = .ok (.aload_n 1, 1) := by decide +kernel
theorem dl_532 : decode code 532 = .ok (.invokevirtual 78, 3) := by decide +kernel
theorem dl_535 : decode code 535 = .ok (.aload_n 2, 1) := by decide +kernel
theorem dl_536 : decode code 536 = .ok (.invokevirtual 81, 3) := by decide +kernel
theorem dl_539 : decode code 539 = .ok (.if_icmp .eq 230, 3) := by decide +kernel
theorem dl_542 : decode code 542 = .ok (.iconst 0, 1) := by decide +kernel
theorem dl_543 : decode code 543 = .ok (.ireturn, 1) := by decide +kernel
theorem dl_544 : decode code 544 = .ok (.aload_n 1, 1) := by decide +kernel
theorem dl_545 : decode code 545 = .ok (.invokevirtual 82, 3) := by decide +kernel
theorem dl_548 : decode code 548 = .ok (.aload_n 2, 1) := by decide +kernel
theorem dl_549 : decode code 549 = .ok (.invokevirtual 85, 3) := by decide +kernel
theorem dl_552 : decode code 552 = .ok (.if_icmp .eq 217, 3) := by decide +kernel
theorem dl_555 : decode code 555 = .ok (.iconst 0, 1) := by decide +kernel
theorem dl_556 : decode code 556 = .ok (.ireturn, 1) := by decide +kernel
theorem dl_557 : decode code 557 = .ok (.aload_n 1, 1) := by decide +kernel
theorem dl_558 : decode code 558 = .ok (.invokevirtual 86, 3) := by decide +kernel
theorem dl_561 : decode code 561 = .ok (.aload_n 2, 1) := by decide +kernel
theorem dl_562 : decode code 562 = .ok (.invokevirtual 89, 3) := by decide +kernel
theorem dl_565 : decode code 565 = .ok (.if_icmp .eq 204, 3) := by decide +kernel
theorem dl_568 : decode code 568 = .ok (.iconst 0, 1) := by decide +kernel
theorem dl_569 : decode code 569 = .ok (.ireturn, 1) := by decide +kernel
theorem dl_570 : decode code 570 = .ok (.aload_n 1, 1) := by decide +kernel
theorem dl_571 : decode code 571 = .ok (.invokevirtual 90, 3) := by decide +kernel
theorem dl_574 : decode code 574 = .ok (.aload_n 2, 1) := by decide +kernel
theorem dl_575 : decode code 575 = .ok (.invokevirtual 93, 3) := by decide +kernel
theorem dl_578 : decode code 578 = .ok (.if_icmp .eq 191, 3) := by decide +kernel
theorem dl_581 : decode code 581 = .ok (.iconst 0, 1) := by decide +kernel
theorem dl_582 : decode code 582 = .ok (.ireturn, 1) := by decide +kernel
theorem dl_583 : decode code 583 = .ok (.aload_n 1, 1) := by decide +kernel
theorem dl_584 : decode code 584 = .ok (.invokevirtual 94, 3) := by decide +kernel
theorem dl_587 : decode code 587 = .ok (.aload_n 2, 1) := by decide +kernel
theorem dl_588 : decode code 588 = .ok (.invokevirtual 97, 3) := by decide +kernel
theorem dl_591 : decode code 591 = .ok (.if_icmp .eq 178, 3) := by decide +kernel
theorem dl_594 : decode code 594 = .ok (.iconst 0, 1) := by decide +kernel
theorem dl_595 : decode code 595 = .ok (.ireturn, 1) := by decide +kernel
theorem dl_596 : decode code 596 = .ok (.aload_n 1, 1) := by decide +kernel
theorem dl_597 : decode code 597 = .ok (.aload_n 0, 1) := by decide +kernel
theorem dl_598 : decode code 598 = .ok (.iload_n 3, 1) := by decide +kernel
theorem dl_599 : decode code 599 = .ok (.iconst 1, 1) := by decide +kernel
theorem dl_600 : decode code 600 = .ok (.iadd, 1) := by decide +kernel
theorem dl_601 : decode code 601 = .ok (.iaload, 1) := by decide +kernel
theorem dl_602 : decode code 602 = .ok (.aload_n 0, 1) := by decide +kernel
theorem dl_603 : decode code 603 = .ok (.iload_n 3, 1) := by decide +kernel
theorem dl_604 : decode code 604 = .ok (.iconst 2, 1) := by decide +kernel
theorem dl_605 : decode code 605 = .ok (.iadd, 1) := by decide +kernel
theorem dl_606 : decode code 606 = .ok (.iaload, 1) := by decide +kernel
theorem dl_607 : decode code 607 = .ok (.invokevirtual 98, 3) := by decide +kernel
theorem dl_610 : decode code 610 = .ok (.aload_n 2, 1) := by decide +kernel
theorem dl_611 : decode code 611 = .ok (.aload_n 0, 1) := by decide +kernel
theorem dl_612 : decode code 612 = .ok (.iload_n 3, 1) := by decide +kernel
theorem dl_613 : decode code 613 = .ok (.iconst 1, 1) := by decide +kernel
theorem dl_614 : decode code 614 = .ok (.iadd, 1) := by decide +kernel
theorem dl_615 : decode code 615 = .ok (.iaload, 1) := by decide +kernel
theorem dl_616 : decode code 616 = .ok (.aload_n 0, 1) := by decide +kernel
theorem dl_617 : decode code 617 = .ok (.iload_n 3, 1) := by decide +kernel
theorem dl_618 : decode code 618 = .ok (.iconst 2, 1) := by decide +kernel
theorem dl_619 : decode code 619 = .ok (.iadd, 1) := by decide +kernel
theorem dl_620 : decode code 620 = .ok (.iaload, 1) := by decide +kernel
theorem dl_621 : decode code 621 = .ok (.invokevirtual 101, 3) := by decide +kernel
theorem dl_624 : decode code 624 = .ok (.if_icmp .eq 145, 3) := by decide +kernel
theorem dl_627 : decode code 627 = .ok (.iconst 0, 1) := by decide +kernel
theorem dl_628 : decode code 628 = .ok (.ireturn, 1) := by decide +kernel
theorem dl_629 : decode code 629 = .ok (.aload_n 1, 1) := by decide +kernel
theorem dl_630 : decode code 630 = .ok (.aload_n 0, 1) := by decide +kernel
theorem dl_631 : decode code 631 = .ok (.iload_n 3, 1) := by decide +kernel
theorem dl_632 : decode code 632 = .ok (.iconst 1, 1) := by decide +kernel
theorem dl_633 : decode code 633 = .ok (.iadd, 1) := by decide +kernel
theorem dl_634 : decode code 634 = .ok (.iaload, 1) := by decide +kernel
theorem dl_635 : decode code 635 = .ok (.aload_n 0, 1) := by decide +kernel
theorem dl_636 : decode code 636 = .ok (.iload_n 3, 1) := by decide +kernel
theorem dl_637 : decode code 637 = .ok (.iconst 2, 1) := by decide +kernel
theorem dl_638 : decode code 638 = .ok (.iadd, 1) := by decide +kernel
theorem dl_639 : decode code 639 = .ok (.iaload, 1) := by decide +kernel
theorem dl_640 : decode code 640 = .ok (.invokevirtual 102, 3) := by decide +kernel
theorem dl_643 : decode code 643 = .ok (.aload_n 2, 1) := by decide +kernel
theorem dl_644 : decode code 644 = .ok (.aload_n 0, 1) := by decide +kernel
theorem dl_645 : decode code 645 = .ok (.iload_n 3, 1) := by decide +kernel
theorem dl_646 : decode code 646 = .ok (.iconst 1, 1) := by decide +kernel
theorem dl_647 : decode code 647 = .ok (.iadd, 1) := by decide +kernel
theorem dl_648 : decode code 648 = .ok (.iaload, 1) := by decide +kernel
theorem dl_649 : decode code 649 = .ok (.aload_n 0, 1) := by decide +kernel
theorem dl_650 : decode code 650 = .ok (.iload_n 3, 1) := by decide +kernel
theorem dl_651 : decode code 651 = .ok (.iconst 2, 1) := by decide +kernel
theorem dl_652 : decode code 652 = .ok (.iadd, 1) := by decide +kernel
theorem dl_653 : decode code 653 = .ok (.iaload, 1) := by decide +kernel
theorem dl_654 : decode code 654 = .ok (.invokevirtual 105, 3) := by decide +kernel
theorem dl_657 : decode code 657 = .ok (.if_icmp .eq 112, 3) := by decide +kernel
theorem dl_660 : decode code 660 = .ok (.iconst 0, 1) := by decide +kernel
theorem dl_661 : decode code 661 = .ok (.ireturn, 1) := by decide +kernel
theorem dl_662 : decode code 662 = .ok (.aload_n 1, 1) := by decide +kernel
theorem dl_663 : decode code 663 = .ok (.aload_n 0, 1) := by decide +kernel
theorem dl_664 : decode code 664 = .ok (.iload_n 3, 1) := by decide +kernel
theorem dl_665 : decode code 665 = .ok (.iconst 1, 1) := by decide +kernel
theorem dl_666 : decode code 666 = .ok (.iadd, 1) := by decide +kernel
theorem dl_667 : decode code 667 = .ok (.iaload, 1) := by decide +kernel
theorem dl_668 : decode code 668 = .ok (.aload_n 0, 1) := by decide +kernel
theorem dl_669 : decode code 669 = .ok (.iload_n 3, 1) := by decide +kernel
theorem dl_670 : decode code 670 = .ok (.iconst 2, 1) := by decide +kernel
theorem dl_671 : decode code 671 = .ok (.iadd, 1) := by decide +kernel
theorem dl_672 : decode code 672 = .ok (.iaload, 1) := by decide +kernel
theorem dl_673 : decode code 673 = .ok (.invokevirtual 106, 3) := by decide +kernel
theorem dl_676 : decode code 676 = .ok (.aload_n 2, 1) := by decide +kernel
theorem dl_677 : decode code 677 = .ok (.aload_n 0, 1) := by decide +kernel
theorem dl_678 : decode code 678 = .ok (.iload_n 3, 1) := by decide +kernel
theorem dl_679 : decode code 679 = .ok (.iconst 1, 1) := by decide +kernel
theorem dl_680 : decode code 680 = .ok (.iadd, 1) := by decide +kernel
theorem dl_681 : decode code 681 = .ok (.iaload, 1) := by decide +kernel
theorem dl_682 : decode code 682 = .ok (.aload_n 0, 1) := by decide +kernel
theorem dl_683 : decode code 683 = .ok (.iload_n 3, 1) := by decide +kernel
theorem dl_684 : decode code 684 = .ok (.iconst 2, 1) := by decide +kernel
theorem dl_685 : decode code 685 = .ok (.iadd, 1) := by decide +kernel
theorem dl_686 : decode code 686 = .ok (.iaload, 1) := by decide +kernel
theorem dl_687 : decode code 687 = .ok (.invokevirtual 109, 3) := by decide +kernel
theorem dl_690 : decode code 690 = .ok (.if_icmp .eq 79, 3) := by decide +kernel
theorem dl_693 : decode code 693 = .ok (.iconst 0, 1) := by decide +kernel
theorem dl_694 : decode code 694 = .ok (.ireturn, 1) := by decide +kernel
theorem dl_695 : decode code 695 = .ok (.aload_n 1, 1) := by decide +kernel
theorem dl_696 : decode code 696 = .ok (.invokevirtual 110, 3) := by decide +kernel
theorem dl_699 : decode code 699 = .ok (.aload_n 2, 1) := by decide +kernel
theorem dl_700 : decode code 700 = .ok (.invokevirtual 113, 3) := by decide +kernel
theorem dl_703 : decode code 703 = .ok (.if_icmp .eq 66, 3) := by decide +kernel
theorem dl_706 : decode code 706 = .ok (.iconst 0, 1) := by decide +kernel
theorem dl_707 : decode code 707 = .ok (.ireturn, 1) := by decide +kernel
theorem dl_708 : decode code 708 = .ok (.aload_n 1, 1) := by decide +kernel
theorem dl_709 : decode code 709 = .ok (.invokevirtual 114, 3) := by decide +kernel
theorem dl_712 : decode code 712 = .ok (.aload_n 2, 1) := by decide +kernel
theorem dl_713 : decode code 713 = .ok (.invokevirtual 117, 3) := by decide +kernel
theorem dl_716 : decode code 716 = .ok (.if_icmp .eq 53, 3) := by decide +kernel
theorem dl_719 : decode code 719 = .ok (.iconst 0, 1) := by decide +kernel
theorem dl_720 : decode code 720 = .ok (.ireturn, 1) := by decide +kernel
theorem dl_721 : decode code 721 = .ok (.aload_n 1, 1) := by decide +kernel
theorem dl_722 : decode code 722 = .ok (.aload_n 0, 1) := by decide +kernel
theorem dl_723 : decode code 723 = .ok (.iload_n 3, 1) := by decide +kernel
theorem dl_724 : decode code 724 = .ok (.iconst 1, 1) := by decide +kernel
theorem dl_725 : decode code 725 = .ok (.iadd, 1) := by decide +kernel
theorem dl_726 : decode code 726 = .ok (.iaload, 1) := by decide +kernel
theorem dl_727 : decode code 727 = .ok (.invokevirtual 118, 3) := by decide +kernel
theorem dl_730 : decode code 730 = .ok (.aload_n 2, 1) := by decide +kernel
theorem dl_731 : decode code 731 = .ok (.aload_n 0, 1) := by decide +kernel
theorem dl_732 : decode code 732 = .ok (.iload_n 3, 1) := by decide +kernel
theorem dl_733 : decode code 733 = .ok (.iconst 1, 1) := by decide +kernel
theorem dl_734 : decode code 734 = .ok (.iadd, 1) := by decide +kernel
theorem dl_735 : decode code 735 = .ok (.iaload, 1) := by decide +kernel
theorem dl_736 : decode code 736 = .ok (.invokevirtual 122, 3) := by decide +kernel
theorem dl_739 : decode code 739 = .ok (.lcmp, 1) := by decide +kernel
theorem dl_740 : decode code 740 = .ok (.ifCond .eq 29, 3) := by decide +kernel
theorem dl_743 : decode code 743 = .ok (.iconst 0, 1) := by decide +kernel
theorem dl_744 : decode code 744 = .ok (.ireturn, 1) := by decide +kernel
theorem dl_745 : decode code 745 = .ok (.aload_n 1, 1) := by decide +kernel
theorem dl_746 : decode code 746 = .ok (.aload_n 0, 1) := by decide +kernel
theorem dl_747 : decode code 747 = .ok (.iload_n 3, 1) := by decide +kernel
theorem dl_748 : decode code 748 = .ok (.iconst 1, 1) := by decide +kernel
theorem dl_749 : decode code 749 = .ok (.iadd, 1) := by decide +kernel
theorem dl_750 : decode code 750 = .ok (.iaload, 1) := by decide +kernel
theorem dl_751 : decode code 751 = .ok (.invokevirtual 123, 3) := by decide +kernel
theorem dl_754 : decode code 754 = .ok (.aload_n 2, 1) := by decide +kernel
theorem dl_755 : decode code 755 = .ok (.aload_n 0, 1) := by decide +kernel
theorem dl_756 : decode code 756 = .ok (.iload_n 3, 1) := by decide +kernel
theorem dl_757 : decode code 757 = .ok (.iconst 1, 1) := by decide +kernel
theorem dl_758 : decode code 758 = .ok (.iadd, 1) := by decide +kernel
theorem dl_759 : decode code 759 = .ok (.iaload, 1) := by decide +kernel
theorem dl_760 : decode code 760 = .ok (.invokevirtual 126, 3) := by decide +kernel
theorem dl_763 : decode code 763 = .ok (.lcmp, 1) := by decide +kernel
theorem dl_764 : decode code 764 = .ok (.ifCond .eq 5, 3) := by decide +kernel
theorem dl_767 : decode code 767 = .ok (.iconst 0, 1) := by decide +kernel
theorem dl_768 : decode code 768 = .ok (.ireturn, 1) := by decide +kernel
theorem dl_769 : decode code 769 = .ok (.iinc 3 5, 3) := by decide +kernel
theorem dl_772 : decode code 772 = .ok (.goto (-754), 3) := by decide +kernel
theorem dl_775 : decode code 775 = .ok (.iconst 1, 1) := by decide +kernel
theorem dl_776 : decode code 776 = .ok (.ireturn, 1) := by decide +kernel
theorem vL_13 : vOK R_law 13 2 mi_X6_setLattice := ⟨wTbl_2 76 (by rfl) (by decide +kernel), wTbl_2 77 (by rfl) (by decide +kernel), wTbl_2 78 (by rfl) (by decide +kernel), by decide +kernel⟩
theorem vL_17 : vOK R_law 17 2 mi_X7_setLattice := ⟨wTbl_4 75 (by rfl) (by decide +kernel), wTbl_4 76 (by rfl) (by decide +kernel), wTbl_4 77 (by rfl) (by decide +kernel), by decide +kernel⟩
theorem vL_18 : vOK R_law 18 3 mi_X6_addGenerator := ⟨wTbl_2 101 (by rfl) (by decide +kernel), wTbl_2 102 (by rfl) (by decide +kernel), wTbl_2 103 (by rfl) (by decide +kernel), by decide +kernel⟩
theorem vL_22 : vOK R_law 22 3 mi_X7_addGenerator := ⟨wTbl_4 86 (by rfl) (by decide +kernel), wTbl_4 87 (by rfl) (by decide +kernel), wTbl_4 88 (by rfl) (by decide +kernel), by decide +kernel⟩
theorem vL_23 : vOK R_law 23 1 mi_X6_removeGenerator := ⟨wTbl_2 132 (by rfl) (by decide +kernel), wTbl_2 133 (by rfl) (by decide +kernel), wTbl_2 134 (by rfl) (by decide +kernel), by decide +kernel⟩
theorem vL_27 : vOK R_law 27 1 mi_X7_removeGenerator := ⟨wTbl_4 94 (by rfl) (by decide +kernel), wTbl_4 95 (by rfl) (by decide +kernel), wTbl_4 96 (by rfl) (by decide +kernel), by decide +kernel⟩
theorem vL_28 : vOK R_law 28 4 mi_X6_setGenerator := ⟨wTbl_2 146 (by rfl) (by decide +kernel), wTbl_2 147 (by rfl) (by decide +kernel), wTbl_2 148 (by rfl) (by decide +kernel), by decide +kernel⟩
theorem vL_32 : vOK R_law 32 4 mi_X7_setGenerator := ⟨wTbl_4 102 (by rfl) (by decide +kernel), wTbl_4 103 (by rfl) (by decide +kernel), wTbl_4 104 (by rfl) (by decide +kernel), by decide +kernel⟩
theorem vL_33 : vOK R_law 33 0 mi_X6_undo := ⟨wTbl_2 152 (by rfl) (by decide +kernel), wTbl_2 153 (by rfl) (by decide +kernel), wTbl_2 154 (by rfl) (by decide +kernel), by decide +kernel⟩
theorem vL_37 : vOK R_law 37 0 mi_X7_undo := ⟨wTbl_4 71 (by rfl) (by decide +kernel), wTbl_4 72 (by rfl) (by decide +kernel), wTbl_4 73 (by rfl) (by decide +kernel), by decide +kernel⟩
theorem vL_38 : vOK R_law 38 1 mi_X6_generator := ⟨wTbl_2 169 (by rfl) (by decide +kernel), wTbl_2 170 (by rfl) (by decide +kernel), wTbl_2 171 (by rfl) (by decide +kernel), by decide +kernel⟩
theorem vL_41 : vOK R_law 41 1 mi_X7_generator := ⟨wTbl_4 106 (by rfl) (by decide +kernel), wTbl_4 107 (by rfl) (by decide +kernel), wTbl_4 108 (by rfl) (by decide +kernel), by decide +kernel⟩
theorem vL_42 : vOK R_law 42 0 mi_X6_order := ⟨wTbl_2 173 (by rfl) (by decide +kernel), wTbl_2 174 (by rfl) (by decide +kernel), wTbl_2 175 (by rfl) (by decide +kernel), by decide +kernel⟩
theorem vL_45 : vOK R_law 45 0 mi_X7_order := ⟨wTbl_4 110 (by rfl) (by decide +kernel), wTbl_4 111 (by rfl) (by decide +kernel), wTbl_4 112 (by rfl) (by decide +kernel), by decide +kernel⟩
theorem vL_46 : vOK R_law 46 1 mi_X6_element := ⟨wTbl_2 177 (by rfl) (by decide +kernel), wTbl_2 178 (by rfl) (by decide +kernel), wTbl_2 179 (by rfl) (by decide +kernel), by decide +kernel⟩
theorem vL_49 : vOK R_law 49 1 mi_X7_element := ⟨wTbl_4 114 (by rfl) (by decide +kernel), wTbl_4 115 (by rfl) (by decide +kernel), wTbl_4 116 (by rfl) (by decide +kernel), by decide +kernel⟩
theorem vL_50 : vOK R_law 50 1 mi_X6_contains := ⟨wTbl_2 182 (by rfl) (by decide +kernel), wTbl_2 183 (by rfl) (by decide +kernel), wTbl_2 184 (by rfl) (by decide +kernel), by decide +kernel⟩
theorem vL_53 : vOK R_law 53 1 mi_X7_contains := ⟨wTbl_4 118 (by rfl) (by decide +kernel), wTbl_4 119 (by rfl) (by decide +kernel), wTbl_4 120 (by rfl) (by decide +kernel), by decide +kernel⟩
theorem vL_54 : vOK R_law 54 2 mi_X6_product := ⟨wTbl_2 201 (by rfl) (by decide +kernel), wTbl_2 202 (by rfl) (by decide +kernel), wTbl_2 203 (by rfl) (by decide +kernel), by decide +kernel⟩
theorem vL_57 : vOK R_law 57 2 mi_X7_product := ⟨wTbl_4 126 (by rfl) (by decide +kernel), wTbl_4 127 (by rfl) (by decide +kernel), wTbl_4 128 (by rfl) (by decide +kernel), by decide +kernel⟩
theorem vL_58 : vOK R_law 58 1 mi_X6_orderOf := ⟨wTbl_2 206 (by rfl) (by decide +kernel), wTbl_2 207 (by rfl) (by decide +kernel), wTbl_2 208 (by rfl) (by decide +kernel), by decide +kernel⟩
theorem vL_61 : vOK R_law 61 1 mi_X7_orderOf := ⟨wTbl_4 130 (by rfl) (by decide +kernel), wTbl_4 131 (by rfl) (by decide +kernel), wTbl_4 132 (by rfl) (by decide +kernel), by decide +kernel⟩
theorem vL_62 : vOK R_law 62 1 mi_X6_kindOf := ⟨wTbl_2 215 (by rfl) (by decide +kernel), wTbl_2 216 (by rfl) (by decide +kernel), wTbl_2 217 (by rfl) (by decide +kernel), by decide +kernel⟩
theorem vL_65 : vOK R_law 65 1 mi_X7_kindOf := ⟨wTbl_4 134 (by rfl) (by decide +kernel), wTbl_4 135 (by rfl) (by decide +kernel), wTbl_4 136 (by rfl) (by decide +kernel), by decide +kernel⟩
theorem vL_66 : vOK R_law 66 1 mi_X6_count := ⟨wTbl_2 220 (by rfl) (by decide +kernel), wTbl_2 221 (by rfl) (by decide +kernel), wTbl_2 222 (by rfl) (by decide +kernel), by decide +kernel⟩
theorem vL_69 : vOK R_law 69 1 mi_X7_count := ⟨wTbl_4 153 (by rfl) (by decide +kernel), wTbl_4 154 (by rfl) (by decide +kernel), wTbl_4 155 (by rfl) (by decide +kernel), by decide +kernel⟩
theorem vL_70 : vOK R_law 70 0 mi_X6_isAbelian := ⟨wTbl_2 228 (by rfl) (by decide +kernel), wTbl_2 229 (by rfl) (by decide +kernel), wTbl_2 230 (by rfl) (by decide +kernel), by decide +kernel⟩
theorem vL_73 : vOK R_law 73 0 mi_X7_isAbelian := ⟨wTbl_4 157 (by rfl) (by decide +kernel), wTbl_4 158 (by rfl) (by decide +kernel), wTbl_4 159 (by rfl) (by decide +kernel), by decide +kernel⟩
theorem vL_74 : vOK R_law 74 0 mi_X6_conjugacyClasses := ⟨wTbl_2 236 (by rfl) (by decide +kernel), wTbl_2 237 (by rfl) (by decide +kernel), wTbl_2 238 (by rfl) (by decide +kernel), by decide +kernel⟩
theorem vL_77 : vOK R_law 77 0 mi_X7_conjugacyClasses := ⟨wTbl_4 165 (by rfl) (by decide +kernel), wTbl_4 166 (by rfl) (by decide +kernel), wTbl_4 167 (by rfl) (by decide +kernel), by decide +kernel⟩
theorem vL_78 : vOK R_law 78 0 mi_X6_linearParts := ⟨wTbl_3 20 (by rfl) (by decide +kernel), wTbl_3 21 (by rfl) (by decide +kernel), wTbl_3 22 (by rfl) (by decide +kernel), by decide +kernel⟩
theorem vL_81 : vOK R_law 81 0 mi_X7_linearParts := ⟨wTbl_4 169 (by rfl) (by decide +kernel), wTbl_4 170 (by rfl) (by decide +kernel), wTbl_4 171 (by rfl) (by decide +kernel), by decide +kernel⟩
theorem vL_82 : vOK R_law 82 0 mi_X6_rotationOrder := ⟨wTbl_3 31 (by rfl) (by decide +kernel), wTbl_3 32 (by rfl) (by decide +kernel), wTbl_3 33 (by rfl) (by decide +kernel), by decide +kernel⟩
theorem vL_85 : vOK R_law 85 0 mi_X7_rotationOrder := ⟨wTbl_4 180 (by rfl) (by decide +kernel), wTbl_4 181 (by rfl) (by decide +kernel), wTbl_4 182 (by rfl) (by decide +kernel), by decide +kernel⟩
theorem vL_86 : vOK R_law 86 0 mi_X6_mirrorDirections := ⟨wTbl_3 51 (by rfl) (by decide +kernel), wTbl_3 52 (by rfl) (by decide +kernel), wTbl_3 53 (by rfl) (by decide +kernel), by decide +kernel⟩
theorem vL_89 : vOK R_law 89 0 mi_X7_mirrorDirections := ⟨wTbl_4 192 (by rfl) (by decide +kernel), wTbl_4 193 (by rfl) (by decide +kernel), wTbl_4 194 (by rfl) (by decide +kernel), by decide +kernel⟩
theorem vL_90 : vOK R_law 90 0 mi_X6_isCentered := ⟨wTbl_3 59 (by rfl) (by decide +kernel), wTbl_3 60 (by rfl) (by decide +kernel), wTbl_3 61 (by rfl) (by decide +kernel), by decide +kernel⟩
theorem vL_93 : vOK R_law 93 0 mi_X7_isCentered := ⟨wTbl_4 200 (by rfl) (by decide +kernel), wTbl_4 201 (by rfl) (by decide +kernel), wTbl_4 202 (by rfl) (by decide +kernel), by decide +kernel⟩
theorem vL_94 : vOK R_law 94 0 mi_X6_type := ⟨wTbl_3 84 (by rfl) (by decide +kernel), wTbl_3 85 (by rfl) (by decide +kernel), wTbl_3 86 (by rfl) (by decide +kernel), by decide +kernel⟩
theorem vL_97 : vOK R_law 97 0 mi_X7_type := ⟨wTbl_4 220 (by rfl) (by decide +kernel), wTbl_4 221 (by rfl) (by decide +kernel), wTbl_4 222 (by rfl) (by decide +kernel), by decide +kernel⟩
theorem vL_98 : vOK R_law 98 2 mi_X6_orbitSize := ⟨wTbl_3 131 (by rfl) (by decide +kernel), wTbl_3 132 (by rfl) (by decide +kernel), wTbl_3 133 (by rfl) (by decide +kernel), by decide +kernel⟩
theorem vL_101 : vOK R_law 101 2 mi_X7_orbitSize := ⟨wTbl_4 236 (by rfl) (by decide +kernel), wTbl_4 237 (by rfl) (by decide +kernel), wTbl_4 238 (by rfl) (by decide +kernel), by decide +kernel⟩
theorem vL_102 : vOK R_law 102 2 mi_X6_orbitFirst := ⟨wTbl_3 141 (by rfl) (by decide +kernel), wTbl_3 142 (by rfl) (by decide +kernel), wTbl_3 143 (by rfl) (by decide +kernel), by decide +kernel⟩
theorem vL_105 : vOK R_law 105 2 mi_X7_orbitFirst := ⟨wTbl_5 15 (by rfl) (by decide +kernel), wTbl_5 16 (by rfl) (by decide +kernel), wTbl_5 17 (by rfl) (by decide +kernel), by decide +kernel⟩
theorem vL_106 : vOK R_law 106 2 mi_X6_stabilizerOrder := ⟨wTbl_3 149 (by rfl) (by decide +kernel), wTbl_3 150 (by rfl) (by decide +kernel), wTbl_3 151 (by rfl) (by decide +kernel), by decide +kernel⟩
theorem vL_109 : vOK R_law 109 2 mi_X7_stabilizerOrder := ⟨wTbl_5 22 (by rfl) (by decide +kernel), wTbl_5 23 (by rfl) (by decide +kernel), wTbl_5 24 (by rfl) (by decide +kernel), by decide +kernel⟩
theorem vL_110 : vOK R_law 110 0 mi_X6_orbitCount := ⟨wTbl_3 160 (by rfl) (by decide +kernel), wTbl_3 161 (by rfl) (by decide +kernel), wTbl_3 162 (by rfl) (by decide +kernel), by decide +kernel⟩
theorem vL_113 : vOK R_law 113 0 mi_X7_orbitCount := ⟨wTbl_5 30 (by rfl) (by decide +kernel), wTbl_5 31 (by rfl) (by decide +kernel), wTbl_5 32 (by rfl) (by decide +kernel), by decide +kernel⟩
theorem vL_114 : vOK R_law 114 0 mi_X6_isSymmorphic := ⟨wTbl_3 168 (by rfl) (by decide +kernel), wTbl_3 169 (by rfl) (by decide +kernel), wTbl_3 170 (by rfl) (by decide +kernel), by decide +kernel⟩
theorem vL_117 : vOK R_law 117 0 mi_X7_isSymmorphic := ⟨wTbl_5 38 (by rfl) (by decide +kernel), wTbl_5 39 (by rfl) (by decide +kernel), wTbl_5 40 (by rfl) (by decide +kernel), by decide +kernel⟩
theorem vL_118 : vOK R_law 118 1 mi_X6_invariantColorings := ⟨wTbl_3 177 (by rfl) (by decide +kernel), wTbl_3 178 (by rfl) (by decide +kernel), wTbl_3 179 (by rfl) (by decide +kernel), by decide +kernel⟩
theorem vL_122 : vOK R_law 122 1 mi_X7_invariantColorings := ⟨wTbl_5 42 (by rfl) (by decide +kernel), wTbl_5 43 (by rfl) (by decide +kernel), wTbl_5 44 (by rfl) (by decide +kernel), by decide +kernel⟩
theorem vL_123 : vOK R_law 123 1 mi_X6_coloringClasses := ⟨wTbl_3 185 (by rfl) (by decide +kernel), wTbl_3 186 (by rfl) (by decide +kernel), wTbl_3 187 (by rfl) (by decide +kernel), by decide +kernel⟩
theorem vL_126 : vOK R_law 126 1 mi_X7_coloringClasses := ⟨wTbl_5 50 (by rfl) (by decide +kernel), wTbl_5 51 (by rfl) (by decide +kernel), wTbl_5 52 (by rfl) (by decide +kernel), by decide +kernel⟩
theorem tbl_sub : ∀ w ∈ wTbl, w ∈ lw_tbl := fun w hw => (List.mem_filter.mp hw).1
abbrev lA (s : State) : Nat → Prop := fun q => s.heap.size ≤ q
def LX (p : Program) (s : State) (m : MethodId) (meth : Method) (c : Code) (b L : Nat) (xs : Nat → Int32) (ad1 ad2 : Nat → Nat) (D : va_G) (cI cZ cA : ClassId) : Prop :=
  lw_At p s m meth c b L xs ∧ va_K D clW (wTy cI cZ cA) s ∧ wT2 (ad1 1000) (ad1 1001) (lA s) s s.heap ∧ wT2 (ad2 1000) (ad2 1001) (lA s) s s.heap ∧ (∀ i j, i < SHC.length → j < SHC.length → ad1 i = ad1 j → i = j) ∧ (∀ i j, i < SHM.length → j < SHM.length → ad2 i = ad2 j → i = j) ∧ (∀ q, wF ad1 SHC q → lA s q) ∧ (∀ q, wF ad2 SHM q → lA s q) ∧ ∀ i j, i < SHC.length → j < SHM.length → ad1 i ≠ ad2 j
theorem keep_w {ad1 ad2 : Nat → Nat} {D : va_G} {cI cZ cA : ClassId} {S1 S2 : List Shp} {M2 : Mem} {H H1 : Heap} (hP2 : va_P D clW (wW ad2 cI cZ cA S2 M2) H) (hd : ∀ i j, i < S1.length → j < S2.length → ad1 i ≠ ad2 j) (hk : ∀ q : Nat, q < H.size → ¬ wF ad1 S1 q → H1[q]? = H[q]?) : va_P D clW (wW ad2 cI cZ cA S2 M2) H1 := by
  refine hP2.kept (fun k x hx => hk x.1 ((hP2 k x hx).lt) ?_)
  rintro ⟨j, hj, e⟩
  obtain ⟨sh, h1, rfl⟩ := wW_get' hx
  exact hd j k hj (List.getElem?_eq_some_iff.mp h1).1 e
section LAW
variable {p : Program} {l : Launch} {e : Env} {s : State} {m : MethodId} {below : List Frame} {meth : Method} {c : Code} {b L : Nat} {xs : Nat → Int32} {ad1 ad2 : Nat → Nat} {D : va_G} {cI cZ cA : ClassId} {H : Heap} {locs : List Loc} {M1 M2 : Mem} {r : Row} {hs : List Row} {ls : Array Slot} {pc : Nat}
theorem ld (C0 : lw_At p s m meth c b L xs) (hL : L ≤ 2560) {i : Nat} (j : Nat) (hj : i + j < L) {cells slots : Nat} {Q : State → Prop} {rest : List Value} (hS : va_S (lA s) s.heap H locs) (hl : lv_has ls 4 [(3, .int (i3 i)), (2, .ref (ad2 0)), (1, .ref (ad1 0)), (0, .ref b)])
    (d0 : decode code pc = .ok (.aload_n 0, 1)) (d1 : decode code (pc + 1) = .ok (.iload_n 3, 1)) (d2 : decode code (pc + 1 + 1) = .ok (.iconst (j : Int), 1)) (d3 : decode code (pc + 1 + 1 + 1) = .ok (.iadd, 1)) (d4 : decode code (pc + 1 + 1 + 1 + 1) = .ok (.iaload, 1))
    (k : W p l e room_1 s m #[Value.ref b] below meth c H locs cells slots Q (F0 m (pc + 1 + 1 + 1 + 1 + 1) ls (.int (xs (i + j)) :: rest))) : W p l e room_1 s m #[Value.ref b] below meth c H locs cells slots Q (F0 m pc ls rest) := by
  obtain ⟨hx, hb, hr, hml, hown, hts, hX, hbl, hlocks, hgv⟩ := C0
  have hbA : ¬ (lA s) b := Nat.not_le.mpr hbl
  have e1 : i3 (i : Int) + i3 (j : Int) = i3 ((i + j : Nat) : Int) := by rw [i3_add, Int.natCast_add]
  have hin : vp_in (i3 ((i + j : Nat) : Int)) L := vp_in_i3 (by omega) (by omega) (by omega)
  have e2 : (i3 ((i + j : Nat) : Int)).toNatClampNeg = i + j := by
    rw [i3_clamp (by unfold inR; omega) (by omega)]
    omega
  refine lv_aload_n hx hb d0 rfl (lv_at hl 3 rfl) ?_
  refine lv_iload_n hx hb d1 rfl (lv_at hl 0 rfl) ?_
  refine lv_iconst (v := i3 (j : Int)) hx hb d2 rfl ?_
  refine lv_iadd hx hb d3 ?_
  rw [e1]
  refine va_sld hx hb hX hbl hbA hS hin d4 ?_
  rw [e2]
  exact k
theorem lw_Ci (hX : LX p s m meth c b L xs ad1 ad2 D cI cZ cA) {cells slots : Nat} {Q : State → Prop} (hP1 : va_P D clW (wW ad1 cI cZ cA SHC M1) H) (hP2 : va_P D clW (wW ad2 cI cZ cA SHM M2) H) (hS : va_S (lA s) s.heap H locs) (hsz : ls.size = 4) {mj : MI} {idx n : Nat} (As : List PV) {rest st0 : List Value} {A : Int → Row → List Row → Prop} (hd : decode code pc = .ok (.invokevirtual idx, 3)) (hok : mOK mj) (hw : vOK R_law idx n mj) (hc : cOK 6 mj) (hn : As.length = n) (hnl : noLongs As = true) (hnL : n + 1 ≤ mj.2.2.1)
    (hR : (mRm mj).frames + 1 ≤ room_1.frames ∧ 8 + (mj.2.2.1 + 11) + (mRm mj).locals ≤ room_1.locals) (hcat : (rest.map fun v => v.category).sum ≤ 8) (hst : st0 = (As.map (rv ad1)).reverse ++ .ref (ad1 0) :: rest) (hfit : cells ≤ room_1.cells ∧ slots ≤ room_1.slots) (h1 : J SHC mj 0 (ent (vR 0 :: As) mj.2.2.1) [] M1 (AnsI CI A))
    (k : ∀ (z : Int) (r' : Row) (hs' : List Row) (N1 : Mem) (H1 : Heap) (locs1 : List Loc), A z r' hs' → CI N1 r' hs' → va_P D clW (wW ad1 cI cZ cA SHC N1) H1 → va_P D clW (wW ad2 cI cZ cA SHM M2) H1 → va_S (lA s) s.heap H1 locs1 → W p l e room_1 s m #[Value.ref b] below meth c H1 locs1 cells slots Q (F0 m (pc + 3) ls (.int (i3 z) :: rest))) : W p l e room_1 s m #[Value.ref b] below meth c H locs cells slots Q (F0 m pc ls st0) := by
  obtain ⟨⟨hx, hb, hr, hml, hown, hts, _⟩, h2, h3, h4, h5, h6, h7, h8, h9⟩ := hX
  refine jc_V (r := 0) hx hb hml hown hts tbl_sub h5 h2 h3 h7 hS hP1 hd hok hw hc rfl hn hnl hnL hR hsz hcat hst hfit h1 (fun v N1 H1 locs1 q hQ1 _ hk hS1 => ?_)
  obtain ⟨z, r', hs', rfl, a1, a2⟩ := q
  exact k z r' hs' N1 H1 locs1 a1 a2 hQ1 (keep_w hP2 h9 hk) hS1
theorem lw_Cl (hX : LX p s m meth c b L xs ad1 ad2 D cI cZ cA) {cells slots : Nat} {Q : State → Prop} (hP1 : va_P D clW (wW ad1 cI cZ cA SHC M1) H) (hP2 : va_P D clW (wW ad2 cI cZ cA SHM M2) H) (hS : va_S (lA s) s.heap H locs) (hsz : ls.size = 4) {mj : MI} {idx n : Nat} (As : List PV) {rest st0 : List Value} {A : Int → Row → List Row → Prop} (hd : decode code pc = .ok (.invokevirtual idx, 3)) (hok : mOK mj) (hw : vOK R_law idx n mj) (hc : cOK 6 mj) (hn : As.length = n) (hnl : noLongs As = true) (hnL : n + 1 ≤ mj.2.2.1)
    (hR : (mRm mj).frames + 1 ≤ room_1.frames ∧ 8 + (mj.2.2.1 + 11) + (mRm mj).locals ≤ room_1.locals) (hcat : (rest.map fun v => v.category).sum ≤ 8) (hst : st0 = (As.map (rv ad1)).reverse ++ .ref (ad1 0) :: rest) (hfit : cells ≤ room_1.cells ∧ slots ≤ room_1.slots) (h1 : J SHC mj 0 (ent (vR 0 :: As) mj.2.2.1) [] M1 (AnsL CI A))
    (k : ∀ (z : Int) (r' : Row) (hs' : List Row) (N1 : Mem) (H1 : Heap) (locs1 : List Loc), A z r' hs' → CI N1 r' hs' → va_P D clW (wW ad1 cI cZ cA SHC N1) H1 → va_P D clW (wW ad2 cI cZ cA SHM M2) H1 → va_S (lA s) s.heap H1 locs1 → W p l e room_1 s m #[Value.ref b] below meth c H1 locs1 cells slots Q (F0 m (pc + 3) ls (.long (i6 z) :: rest))) : W p l e room_1 s m #[Value.ref b] below meth c H locs cells slots Q (F0 m pc ls st0) := by
  obtain ⟨⟨hx, hb, hr, hml, hown, hts, _⟩, h2, h3, h4, h5, h6, h7, h8, h9⟩ := hX
  refine jc_V (r := 0) hx hb hml hown hts tbl_sub h5 h2 h3 h7 hS hP1 hd hok hw hc rfl hn hnl hnL hR hsz hcat hst hfit h1 (fun v N1 H1 locs1 q hQ1 _ hk hS1 => ?_)
  obtain ⟨z, r', hs', rfl, a1, a2⟩ := q
  exact k z r' hs' N1 H1 locs1 a1 a2 hQ1 (keep_w hP2 h9 hk) hS1
theorem lw_Mi (hX : LX p s m meth c b L xs ad1 ad2 D cI cZ cA) {cells slots : Nat} {Q : State → Prop} (hP1 : va_P D clW (wW ad1 cI cZ cA SHC M1) H) (hP2 : va_P D clW (wW ad2 cI cZ cA SHM M2) H) (hS : va_S (lA s) s.heap H locs) (hsz : ls.size = 4) {mj : MI} {idx n : Nat} (As : List PV) {rest st0 : List Value} {A : Int → Row → List Row → Prop} (hd : decode code pc = .ok (.invokevirtual idx, 3)) (hok : mOK mj) (hw : vOK R_law idx n mj) (hc : cOK 7 mj) (hn : As.length = n) (hnl : noLongs As = true) (hnL : n + 1 ≤ mj.2.2.1)
    (hR : (mRm mj).frames + 1 ≤ room_1.frames ∧ 8 + (mj.2.2.1 + 11) + (mRm mj).locals ≤ room_1.locals) (hcat : (rest.map fun v => v.category).sum ≤ 8) (hst : st0 = (As.map (rv ad2)).reverse ++ .ref (ad2 0) :: rest) (hfit : cells ≤ room_1.cells ∧ slots ≤ room_1.slots) (h1 : J SHM mj 0 (ent (vR 0 :: As) mj.2.2.1) [] M2 (AnsI MS A))
    (k : ∀ (z : Int) (r' : Row) (hs' : List Row) (N1 : Mem) (H1 : Heap) (locs1 : List Loc), A z r' hs' → MS N1 r' hs' → va_P D clW (wW ad2 cI cZ cA SHM N1) H1 → va_P D clW (wW ad1 cI cZ cA SHC M1) H1 → va_S (lA s) s.heap H1 locs1 → W p l e room_1 s m #[Value.ref b] below meth c H1 locs1 cells slots Q (F0 m (pc + 3) ls (.int (i3 z) :: rest))) : W p l e room_1 s m #[Value.ref b] below meth c H locs cells slots Q (F0 m pc ls st0) := by
  obtain ⟨⟨hx, hb, hr, hml, hown, hts, _⟩, h2, h3, h4, h5, h6, h7, h8, h9⟩ := hX
  refine jc_V (r := 0) hx hb hml hown hts tbl_sub h6 h2 h4 h8 hS hP2 hd hok hw hc rfl hn hnl hnL hR hsz hcat hst hfit h1 (fun v N1 H1 locs1 q hQ1 _ hk hS1 => ?_)
  obtain ⟨z, r', hs', rfl, a1, a2⟩ := q
  exact k z r' hs' N1 H1 locs1 a1 a2 hQ1 (keep_w hP1 (fun i j a b z => h9 j i b a z.symm) hk) hS1
theorem lw_Ml (hX : LX p s m meth c b L xs ad1 ad2 D cI cZ cA) {cells slots : Nat} {Q : State → Prop} (hP1 : va_P D clW (wW ad1 cI cZ cA SHC M1) H) (hP2 : va_P D clW (wW ad2 cI cZ cA SHM M2) H) (hS : va_S (lA s) s.heap H locs) (hsz : ls.size = 4) {mj : MI} {idx n : Nat} (As : List PV) {rest st0 : List Value} {A : Int → Row → List Row → Prop} (hd : decode code pc = .ok (.invokevirtual idx, 3)) (hok : mOK mj) (hw : vOK R_law idx n mj) (hc : cOK 7 mj) (hn : As.length = n) (hnl : noLongs As = true) (hnL : n + 1 ≤ mj.2.2.1)
    (hR : (mRm mj).frames + 1 ≤ room_1.frames ∧ 8 + (mj.2.2.1 + 11) + (mRm mj).locals ≤ room_1.locals) (hcat : (rest.map fun v => v.category).sum ≤ 8) (hst : st0 = (As.map (rv ad2)).reverse ++ .ref (ad2 0) :: rest) (hfit : cells ≤ room_1.cells ∧ slots ≤ room_1.slots) (h1 : J SHM mj 0 (ent (vR 0 :: As) mj.2.2.1) [] M2 (AnsL MS A))
    (k : ∀ (z : Int) (r' : Row) (hs' : List Row) (N1 : Mem) (H1 : Heap) (locs1 : List Loc), A z r' hs' → MS N1 r' hs' → va_P D clW (wW ad2 cI cZ cA SHM N1) H1 → va_P D clW (wW ad1 cI cZ cA SHC M1) H1 → va_S (lA s) s.heap H1 locs1 → W p l e room_1 s m #[Value.ref b] below meth c H1 locs1 cells slots Q (F0 m (pc + 3) ls (.long (i6 z) :: rest))) : W p l e room_1 s m #[Value.ref b] below meth c H locs cells slots Q (F0 m pc ls st0) := by
  obtain ⟨⟨hx, hb, hr, hml, hown, hts, _⟩, h2, h3, h4, h5, h6, h7, h8, h9⟩ := hX
  refine jc_V (r := 0) hx hb hml hown hts tbl_sub h6 h2 h4 h8 hS hP2 hd hok hw hc rfl hn hnl hnL hR hsz hcat hst hfit h1 (fun v N1 H1 locs1 q hQ1 _ hk hS1 => ?_)
  obtain ⟨z, r', hs', rfl, a1, a2⟩ := q
  exact k z r' hs' N1 H1 locs1 a1 a2 hQ1 (keep_w hP1 (fun i j a b z => h9 j i b a z.symm) hk) hS1
end LAW
