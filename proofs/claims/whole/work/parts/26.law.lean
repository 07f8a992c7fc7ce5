/-! THE CLAIM OUT OF ONE WALK OF THE LAW'S BODY. Your part is whole_start (and what it stands on); all else here is the same for every law, but numbers. -/
def R_law : String := "PagerloomLaw"
def lw_P (b : Addr) (xs : List Int32) (args : Array Value) (s : State) : Prop := args = #[.ref b] ∧ s.IntsAt b xs ∧ xs.length ≤ 2560 ∧ (Jvm.Cond.and given_1 narrow_1).before args s = true
def lw_Q (_ : Array Value) (s : State) (o : Outcome) (t : State) : Prop := o = .returned (some (.int 1)) ∧ Framed s o t [] 601024 7293034
def lw_Z (below : List Frame) (a : Array Value) (s : State) : State → Prop := fun t => ∃ o, t.status = .running ∧ Ended t below o ∧ lw_Q a s o t
/-- the law's own end, with 1 on the stack, nothing written that was there before, its room as the claim has it -/
theorem lw_ret {p : Program} {l : Launch} {e : Env} {s : State} {m : MethodId} {below : List Frame} {meth : Method} {c : Code} {b : Nat} (hx : p.tables.exec = Jvm.exec) (hb : c.code = code) (hr : meth.sig.returnType = ret) (hlocks : meth.locks = false) {pc : Nat} {H : Heap} {ls : Array Slot} (hdg : decode code pc = .ok (.ireturn, 1)) : W p l e room_1 s m #[Value.ref b] below meth c H [] 601024 7293034 (lw_Z below #[Value.ref b] s) (F0 m pc ls [.int 1]) := by
  intro T hT X
  obtain ⟨fs, hret, hrun, hended, hW, hframe⟩ := X.leave (v := some (.int 1)) (hlocks := hlocks) (fun h => by rw [hr] at h; cases h)
  have hmeth' : T.vm.method? m = some meth := X.method'
  refine ⟨T.setFrames fs, ?_, .returned (some (.int 1)), hrun, hended, rfl, ⟨_, rfl⟩, hW, hframe⟩
  jvm_step X.here [X.here.top, hx, hb, hdg, hmeth', hr, ret, narrow_b1]
  (try refine ⟨rfl, ?_⟩); (try refine ⟨rfl, ?_⟩)
  first | (intro acts; rw [hret _ acts rfl rfl rfl]) | rw [hret _ _ rfl rfl rfl]
  exact Steps.refl _
/-- what holds at the law's entry: the machine, the code, the tables' words (any of lw_tbl by 'hts w (by decide +kernel)'), the script of L ints xs at the cell b, what the Statement gives of the start (any of its parts by flat_of_before) -/
def lw_At (p : Program) (s : State) (m : MethodId) (meth : Method) (c : Code) (b L : Nat) (xs : Nat → Int32) : Prop :=
  p.tables.exec = Jvm.exec ∧ c.code = code ∧ meth.sig.returnType = ret ∧ c.maxLocals = 8 ∧ s.vm.findClass R_law = some m.cls ∧ (∀ w ∈ lw_tbl, w.before #[Value.ref b] s = true) ∧ va_X b L xs s s.heap ∧ b < s.heap.size ∧ meth.locks = false ∧ (Jvm.Cond.and given_1 narrow_1).before #[Value.ref b] s = true
theorem dL_law_0 : decode cL_law 0 = .ok (.new 8, 3) := by decide +kernel
theorem dL_law_3 : decode cL_law 3 = .ok (.dup, 1) := by decide +kernel
theorem dL_law_4 : decode cL_law 4 = .ok (.invokespecial 97, 3) := by decide +kernel
theorem dL_law_7 : decode cL_law 7 = .ok (.astore_n 1, 1) := by decide +kernel
theorem dL_law_8 : decode cL_law 8 = .ok (.new 98, 3) := by decide +kernel
theorem dL_law_11 : decode cL_law 11 = .ok (.dup, 1) := by decide +kernel
theorem dL_law_12 : decode cL_law 12 = .ok (.invokespecial 100, 3) := by decide +kernel
theorem dL_law_15 : decode cL_law 15 = .ok (.astore_n 2, 1) := by decide +kernel
theorem dL_law_16 : decode cL_law 16 = .ok (.iconst 1, 1) := by decide +kernel
theorem dL_law_17 : decode cL_law 17 = .ok (.newarray .long, 2) := by decide +kernel
theorem dL_law_19 : decode cL_law 19 = .ok (.astore_n 3, 1) := by decide +kernel
theorem dL_law_20 : decode cL_law 20 = .ok (.iconst 0, 1) := by decide +kernel
theorem dL_law_21 : decode cL_law 21 = .ok (.istore 4, 2) := by decide +kernel
theorem dL_law_23 : decode cL_law 23 = .ok (.iload 4, 2) := by decide +kernel
theorem dL_law_25 : decode cL_law 25 = .ok (.aload_n 0, 1) := by decide +kernel
theorem dL_law_26 : decode cL_law 26 = .ok (.arraylength, 1) := by decide +kernel
theorem dL_law_27 : decode cL_law 27 = .ok (.iconst 5, 1) := by decide +kernel
theorem dL_law_28 : decode cL_law 28 = .ok (.isub, 1) := by decide +kernel
theorem dL_law_29 : decode cL_law 29 = .ok (.if_icmp .gt 1665, 3) := by decide +kernel
theorem dL_law_32 : decode cL_law 32 = .ok (.aload_n 0, 1) := by decide +kernel
theorem dL_law_33 : decode cL_law 33 = .ok (.iload 4, 2) := by decide +kernel
theorem dL_law_35 : decode cL_law 35 = .ok (.iaload, 1) := by decide +kernel
theorem dL_law_36 : decode cL_law 36 = .ok (.bipush 31, 2) := by decide +kernel
theorem dL_law_38 : decode cL_law 38 = .ok (.iand, 1) := by decide +kernel
theorem dL_law_39 : decode cL_law 39 = .ok (.tableswitch 1649 0 28 #[129, 187, 200, 213, 280, 347, 403, 416, 508, 552, 627, 675, 731, 744, 800, 856, 924, 1004, 1060, 1140, 1196, 1252, 1308, 1321, 1334, 1390, 1446, 1502, 1586], 129) := by decide +kernel
theorem dL_law_168 : decode cL_law 168 = .ok (.aload_n 1, 1) := by decide +kernel
theorem dL_law_169 : decode cL_law 169 = .ok (.aload_n 0, 1) := by decide +kernel
theorem dL_law_170 : decode cL_law 170 = .ok (.iload 4, 2) := by decide +kernel
theorem dL_law_172 : decode cL_law 172 = .ok (.iconst 1, 1) := by decide +kernel
theorem dL_law_173 : decode cL_law 173 = .ok (.iadd, 1) := by decide +kernel
theorem dL_law_174 : decode cL_law 174 = .ok (.iaload, 1) := by decide +kernel
theorem dL_law_175 : decode cL_law 175 = .ok (.i2c, 1) := by decide +kernel
theorem dL_law_176 : decode cL_law 176 = .ok (.aload_n 3, 1) := by decide +kernel
theorem dL_law_177 : decode cL_law 177 = .ok (.invokestatic 101, 3) := by decide +kernel
theorem dL_law_180 : decode cL_law 180 = .ok (.istore 5, 2) := by decide +kernel
theorem dL_law_182 : decode cL_law 182 = .ok (.aload_n 2, 1) := by decide +kernel
theorem dL_law_183 : decode cL_law 183 = .ok (.aload_n 0, 1) := by decide +kernel
theorem dL_law_184 : decode cL_law 184 = .ok (.iload 4, 2) := by decide +kernel
theorem dL_law_186 : decode cL_law 186 = .ok (.iconst 1, 1) := by decide +kernel
theorem dL_law_187 : decode cL_law 187 = .ok (.iadd, 1) := by decide +kernel
theorem dL_law_188 : decode cL_law 188 = .ok (.iaload, 1) := by decide +kernel
theorem dL_law_189 : decode cL_law 189 = .ok (.i2c, 1) := by decide +kernel
theorem dL_law_190 : decode cL_law 190 = .ok (.invokevirtual 106, 3) := by decide +kernel
theorem dL_law_193 : decode cL_law 193 = .ok (.istore 6, 2) := by decide +kernel
theorem dL_law_195 : decode cL_law 195 = .ok (.aload_n 2, 1) := by decide +kernel
theorem dL_law_196 : decode cL_law 196 = .ok (.invokevirtual 107, 3) := by decide +kernel
theorem dL_law_199 : decode cL_law 199 = .ok (.iload 5, 2) := by decide +kernel
theorem dL_law_201 : decode cL_law 201 = .ok (.if_icmp .eq 5, 3) := by decide +kernel
theorem dL_law_204 : decode cL_law 204 = .ok (.iconst 0, 1) := by decide +kernel
theorem dL_law_205 : decode cL_law 205 = .ok (.ireturn, 1) := by decide +kernel
theorem dL_law_206 : decode cL_law 206 = .ok (.iload 5, 2) := by decide +kernel
theorem dL_law_208 : decode cL_law 208 = .ok (.ifCond .ne 15, 3) := by decide +kernel
theorem dL_law_211 : decode cL_law 211 = .ok (.aload_n 3, 1) := by decide +kernel
theorem dL_law_212 : decode cL_law 212 = .ok (.iconst 0, 1) := by decide +kernel
theorem dL_law_213 : decode cL_law 213 = .ok (.laload, 1) := by decide +kernel
theorem dL_law_214 : decode cL_law 214 = .ok (.iload 6, 2) := by decide +kernel
theorem dL_law_216 : decode cL_law 216 = .ok (.i2l, 1) := by decide +kernel
theorem dL_law_217 : decode cL_law 217 = .ok (.lcmp, 1) := by decide +kernel
theorem dL_law_218 : decode cL_law 218 = .ok (.ifCond .eq 5, 3) := by decide +kernel
theorem dL_law_221 : decode cL_law 221 = .ok (.iconst 0, 1) := by decide +kernel
theorem dL_law_222 : decode cL_law 222 = .ok (.ireturn, 1) := by decide +kernel
theorem dL_law_223 : decode cL_law 223 = .ok (.goto 1465, 3) := by decide +kernel
theorem dL_law_226 : decode cL_law 226 = .ok (.aload_n 1, 1) := by decide +kernel
theorem dL_law_227 : decode cL_law 227 = .ok (.invokevirtual 110, 3) := by decide +kernel
theorem dL_law_230 : decode cL_law 230 = .ok (.aload_n 2, 1) := by decide +kernel
theorem dL_law_231 : decode cL_law 231 = .ok (.invokevirtual 113, 3) := by decide +kernel
theorem dL_law_234 : decode cL_law 234 = .ok (.if_icmp .eq 1454, 3) := by decide +kernel
theorem dL_law_237 : decode cL_law 237 = .ok (.iconst 0, 1) := by decide +kernel
theorem dL_law_238 : decode cL_law 238 = .ok (.ireturn, 1) := by decide +kernel
theorem dL_law_239 : decode cL_law 239 = .ok (.aload_n 1, 1) := by decide +kernel
theorem dL_law_240 : decode cL_law 240 = .ok (.invokevirtual 114, 3) := by decide +kernel
theorem dL_law_243 : decode cL_law 243 = .ok (.aload_n 2, 1) := by decide +kernel
theorem dL_law_244 : decode cL_law 244 = .ok (.invokevirtual 117, 3) := by decide +kernel
theorem dL_law_247 : decode cL_law 247 = .ok (.if_icmp .eq 1441, 3) := by decide +kernel
theorem dL_law_250 : decode cL_law 250 = .ok (.iconst 0, 1) := by decide +kernel
theorem dL_law_251 : decode cL_law 251 = .ok (.ireturn, 1) := by decide +kernel
theorem dL_law_252 : decode cL_law 252 = .ok (.aload_n 1, 1) := by decide +kernel
theorem dL_law_253 : decode cL_law 253 = .ok (.aload_n 0, 1) := by decide +kernel
theorem dL_law_254 : decode cL_law 254 = .ok (.iload 4, 2) := by decide +kernel
theorem dL_law_256 : decode cL_law 256 = .ok (.iconst 1, 1) := by decide +kernel
theorem dL_law_257 : decode cL_law 257 = .ok (.iadd, 1) := by decide +kernel
theorem dL_law_258 : decode cL_law 258 = .ok (.iaload, 1) := by decide +kernel
theorem dL_law_259 : decode cL_law 259 = .ok (.aload_n 0, 1) := by decide +kernel
theorem dL_law_260 : decode cL_law 260 = .ok (.iload 4, 2) := by decide +kernel
theorem dL_law_262 : decode cL_law 262 = .ok (.iconst 2, 1) := by decide +kernel
theorem dL_law_263 : decode cL_law 263 = .ok (.iadd, 1) := by decide +kernel
theorem dL_law_264 : decode cL_law 264 = .ok (.iaload, 1) := by decide +kernel
theorem dL_law_265 : decode cL_law 265 = .ok (.aload_n 3, 1) := by decide +kernel
theorem dL_law_266 : decode cL_law 266 = .ok (.invokestatic 118, 3) := by decide +kernel
theorem dL_law_269 : decode cL_law 269 = .ok (.istore 5, 2) := by decide +kernel
theorem dL_law_271 : decode cL_law 271 = .ok (.aload_n 2, 1) := by decide +kernel
theorem dL_law_272 : decode cL_law 272 = .ok (.aload_n 0, 1) := by decide +kernel
theorem dL_law_273 : decode cL_law 273 = .ok (.iload 4, 2) := by decide +kernel
theorem dL_law_275 : decode cL_law 275 = .ok (.iconst 1, 1) := by decide +kernel
theorem dL_law_276 : decode cL_law 276 = .ok (.iadd, 1) := by decide +kernel
theorem dL_law_277 : decode cL_law 277 = .ok (.iaload, 1) := by decide +kernel
theorem dL_law_278 : decode cL_law 278 = .ok (.aload_n 0, 1) := by decide +kernel
theorem dL_law_279 : decode cL_law 279 = .ok (.iload 4, 2) := by decide +kernel
theorem dL_law_281 : decode cL_law 281 = .ok (.iconst 2, 1) := by decide +kernel
theorem dL_law_282 : decode cL_law 282 = .ok (.iadd, 1) := by decide +kernel
theorem dL_law_283 : decode cL_law 283 = .ok (.iaload, 1) := by decide +kernel
theorem dL_law_284 : decode cL_law 284 = .ok (.invokevirtual 121, 3) := by decide +kernel
theorem dL_law_287 : decode cL_law 287 = .ok (.lstore 6, 2) := by decide +kernel
theorem dL_law_289 : decode cL_law 289 = .ok (.aload_n 2, 1) := by decide +kernel
theorem dL_law_290 : decode cL_law 290 = .ok (.invokevirtual 107, 3) := by decide +kernel
theorem dL_law_293 : decode cL_law 293 = .ok (.iload 5, 2) := by decide +kernel
theorem dL_law_295 : decode cL_law 295 = .ok (.if_icmp .eq 5, 3) := by decide +kernel
theorem dL_law_298 : decode cL_law 298 = .ok (.iconst 0, 1) := by decide +kernel
theorem dL_law_299 : decode cL_law 299 = .ok (.ireturn, 1) := by decide +kernel
theorem dL_law_300 : decode cL_law 300 = .ok (.iload 5, 2) := by decide +kernel
theorem dL_law_302 : decode cL_law 302 = .ok (.ifCond .ne 14, 3) := by decide +kernel
theorem dL_law_305 : decode cL_law 305 = .ok (.aload_n 3, 1) := by decide +kernel
theorem dL_law_306 : decode cL_law 306 = .ok (.iconst 0, 1) := by decide +kernel
theorem dL_law_307 : decode cL_law 307 = .ok (.laload, 1) := by decide +kernel
theorem dL_law_308 : decode cL_law 308 = .ok (.lload 6, 2) := by decide +kernel
theorem dL_law_310 : decode cL_law 310 = .ok (.lcmp, 1) := by decide +kernel
theorem dL_law_311 : decode cL_law 311 = .ok (.ifCond .eq 5, 3) := by decide +kernel
theorem dL_law_314 : decode cL_law 314 = .ok (.iconst 0, 1) := by decide +kernel
theorem dL_law_315 : decode cL_law 315 = .ok (.ireturn, 1) := by decide +kernel
theorem dL_law_316 : decode cL_law 316 = .ok (.goto 1372, 3) := by decide +kernel
theorem dL_law_319 : decode cL_law 319 = .ok (.aload_n 1, 1) := by decide +kernel
theorem dL_law_320 : decode cL_law 320 = .ok (.aload_n 0, 1) := by decide +kernel
theorem dL_law_321 : decode cL_law 321 = .ok (.iload 4, 2) := by decide +kernel
theorem dL_law_323 : decode cL_law 323 = .ok (.iconst 1, 1) := by decide +kernel
theorem dL_law_324 : decode cL_law 324 = .ok (.iadd, 1) := by decide +kernel
theorem dL_law_325 : decode cL_law 325 = .ok (.iaload, 1) := by decide +kernel
theorem dL_law_326 : decode cL_law 326 = .ok (.aload_n 0, 1) := by decide +kernel
theorem dL_law_327 : decode cL_law 327 = .ok (.iload 4, 2) := by decide +kernel
theorem dL_law_329 : decode cL_law 329 = .ok (.iconst 2, 1) := by decide +kernel
theorem dL_law_330 : decode cL_law 330 = .ok (.iadd, 1) := by decide +kernel
theorem dL_law_331 : decode cL_law 331 = .ok (.iaload, 1) := by decide +kernel
theorem dL_law_332 : decode cL_law 332 = .ok (.aload_n 3, 1) := by decide +kernel
theorem dL_law_333 : decode cL_law 333 = .ok (.invokestatic 122, 3) := by decide +kernel
theorem dL_law_336 : decode cL_law 336 = .ok (.istore 5, 2) := by decide +kernel
theorem dL_law_338 : decode cL_law 338 = .ok (.aload_n 2, 1) := by decide +kernel
theorem dL_law_339 : decode cL_law 339 = .ok (.aload_n 0, 1) := by decide +kernel
theorem dL_law_340 : decode cL_law 340 = .ok (.iload 4, 2) := by decide +kernel
theorem dL_law_342 : decode cL_law 342 = .ok (.iconst 1, 1) := by decide +kernel
theorem dL_law_343 : decode cL_law 343 = .ok (.iadd, 1) := by decide +kernel
theorem dL_law_344 : decode cL_law 344 = .ok (.iaload, 1) := by decide +kernel
theorem dL_law_345 : decode cL_law 345 = .ok (.aload_n 0, 1) := by decide +kernel
theorem dL_law_346 : decode cL_law 346 = .ok (.iload 4, 2) := by decide +kernel
theorem dL_law_348 : decode cL_law 348 = .ok (.iconst 2, 1) := by decide +kernel
theorem dL_law_349 : decode cL_law 349 = .ok (.iadd, 1) := by decide +kernel
theorem dL_law_350 : decode cL_law 350 = .ok (.iaload, 1) := by decide +kernel
theorem dL_law_351 : decode cL_law 351 = .ok (.invokevirtual 124, 3) := by decide +kernel
theorem dL_law_354 : decode cL_law 354 = .ok (.lstore 6, 2) := by decide +kernel
theorem dL_law_356 : decode cL_law 356 = .ok (.aload_n 2, 1) := by decide +kernel
theorem dL_law_357 : decode cL_law 357 = .ok (.invokevirtual 107, 3) := by decide +kernel
theorem dL_law_360 : decode cL_law 360 = .ok (.iload 5, 2) := by decide +kernel
theorem dL_law_362 : decode cL_law 362 = .ok (.if_icmp .eq 5, 3) := by decide +kernel
theorem dL_law_365 : decode cL_law 365 = .ok (.iconst 0, 1) := by decide +kernel
theorem dL_law_366 : decode cL_law 366 = .ok (.ireturn, 1) := by decide +kernel
theorem dL_law_367 : decode cL_law 367 = .ok (.iload 5, 2) := by decide +kernel
theorem dL_law_369 : decode cL_law 369 = .ok (.ifCond .ne 14, 3) := by decide +kernel
theorem dL_law_372 : decode cL_law 372 = .ok (.aload_n 3, 1) := by decide +kernel
theorem dL_law_373 : decode cL_law 373 = .ok (.iconst 0, 1) := by decide +kernel
theorem dL_law_374 : decode cL_law 374 = .ok (.laload, 1) := by decide +kernel
theorem dL_law_375 : decode cL_law 375 = .ok (.lload 6, 2) := by decide +kernel
theorem dL_law_377 : decode cL_law 377 = .ok (.lcmp, 1) := by decide +kernel
theorem dL_law_378 : decode cL_law 378 = .ok (.ifCond .eq 5, 3) := by decide +kernel
theorem dL_law_381 : decode cL_law 381 = .ok (.iconst 0, 1) := by decide +kernel
theorem dL_law_382 : decode cL_law 382 = .ok (.ireturn, 1) := by decide +kernel
theorem dL_law_383 : decode cL_law 383 = .ok (.goto 1305, 3) := by decide +kernel
theorem dL_law_386 : decode cL_law 386 = .ok (.aload_n 1, 1) := by decide +kernel
theorem dL_law_387 : decode cL_law 387 = .ok (.aload_n 0, 1) := by decide +kernel
theorem dL_law_388 : decode cL_law 388 = .ok (.iload 4, 2) := by decide +kernel
theorem dL_law_390 : decode cL_law 390 = .ok (.iconst 1, 1) := by decide +kernel
theorem dL_law_391 : decode cL_law 391 = .ok (.iadd, 1) := by decide +kernel
theorem dL_law_392 : decode cL_law 392 = .ok (.iaload, 1) := by decide +kernel
theorem dL_law_393 : decode cL_law 393 = .ok (.aload_n 3, 1) := by decide +kernel
theorem dL_law_394 : decode cL_law 394 = .ok (.invokestatic 125, 3) := by decide +kernel
theorem dL_law_397 : decode cL_law 397 = .ok (.istore 5, 2) := by decide +kernel
theorem dL_law_399 : decode cL_law 399 = .ok (.aload_n 2, 1) := by decide +kernel
theorem dL_law_400 : decode cL_law 400 = .ok (.aload_n 0, 1) := by decide +kernel
theorem dL_law_401 : decode cL_law 401 = .ok (.iload 4, 2) := by decide +kernel
theorem dL_law_403 : decode cL_law 403 = .ok (.iconst 1, 1) := by decide +kernel
theorem dL_law_404 : decode cL_law 404 = .ok (.iadd, 1) := by decide +kernel
theorem dL_law_405 : decode cL_law 405 = .ok (.iaload, 1) := by decide +kernel
theorem dL_law_406 : decode cL_law 406 = .ok (.invokevirtual 128, 3) := by decide +kernel
theorem dL_law_409 : decode cL_law 409 = .ok (.istore 6, 2) := by decide +kernel
theorem dL_law_411 : decode cL_law 411 = .ok (.aload_n 2, 1) := by decide +kernel
theorem dL_law_412 : decode cL_law 412 = .ok (.invokevirtual 107, 3) := by decide +kernel
theorem dL_law_415 : decode cL_law 415 = .ok (.iload 5, 2) := by decide +kernel
theorem dL_law_417 : decode cL_law 417 = .ok (.if_icmp .eq 5, 3) := by decide +kernel
theorem dL_law_420 : decode cL_law 420 = .ok (.iconst 0, 1) := by decide +kernel
theorem dL_law_421 : decode cL_law 421 = .ok (.ireturn, 1) := by decide +kernel
theorem dL_law_422 : decode cL_law 422 = .ok (.iload 5, 2) := by decide +kernel
theorem dL_law_424 : decode cL_law 424 = .ok (.ifCond .ne 15, 3) := by decide +kernel
theorem dL_law_427 : decode cL_law 427 = .ok (.aload_n 3, 1) := by decide +kernel
theorem dL_law_428 : decode cL_law 428 = .ok (.iconst 0, 1) := by decide +kernel
theorem dL_law_429 : decode cL_law 429 = .ok (.laload, 1) := by decide +kernel
theorem dL_law_430 : decode cL_law 430 = .ok (.iload 6, 2) := by decide +kernel
theorem dL_law_432 : decode cL_law 432 = .ok (.i2l, 1) := by decide +kernel
theorem dL_law_433 : decode cL_law 433 = .ok (.lcmp, 1) := by decide +kernel
theorem dL_law_434 : decode cL_law 434 = .ok (.ifCond .eq 5, 3) := by decide +kernel
theorem dL_law_437 : decode cL_law 437 = .ok (.iconst 0, 1) := by decide +kernel
theorem dL_law_438 : decode cL_law 438 = .ok (.ireturn, 1) := by decide +kernel
theorem dL_law_439 : decode cL_law 439 = .ok (.goto 1249, 3) := by decide +kernel
theorem dL_law_442 : decode cL_law 442 = .ok (.aload_n 1, 1) := by decide +kernel
theorem dL_law_443 : decode cL_law 443 = .ok (.invokevirtual 129, 3) := by decide +kernel
theorem dL_law_446 : decode cL_law 446 = .ok (.aload_n 2, 1) := by decide +kernel
theorem dL_law_447 : decode cL_law 447 = .ok (.invokevirtual 132, 3) := by decide +kernel
theorem dL_law_450 : decode cL_law 450 = .ok (.if_icmp .eq 1238, 3) := by decide +kernel
theorem dL_law_453 : decode cL_law 453 = .ok (.iconst 0, 1) := by decide +kernel
theorem dL_law_454 : decode cL_law 454 = .ok (.ireturn, 1) := by decide +kernel
theorem dL_law_455 : decode cL_law 455 = .ok (.aload_n 1, 1) := by decide +kernel
theorem dL_law_456 : decode cL_law 456 = .ok (.aload_n 0, 1) := by decide +kernel
theorem dL_law_457 : decode cL_law 457 = .ok (.iload 4, 2) := by decide +kernel
theorem dL_law_459 : decode cL_law 459 = .ok (.iconst 1, 1) := by decide +kernel
theorem dL_law_460 : decode cL_law 460 = .ok (.iadd, 1) := by decide +kernel
theorem dL_law_461 : decode cL_law 461 = .ok (.iaload, 1) := by decide +kernel
theorem dL_law_462 : decode cL_law 462 = .ok (.aload_n 0, 1) := by decide +kernel
theorem dL_law_463 : decode cL_law 463 = .ok (.iload 4, 2) := by decide +kernel
theorem dL_law_465 : decode cL_law 465 = .ok (.iconst 2, 1) := by decide +kernel
theorem dL_law_466 : decode cL_law 466 = .ok (.iadd, 1) := by decide +kernel
theorem dL_law_467 : decode cL_law 467 = .ok (.iaload, 1) := by decide +kernel
theorem dL_law_468 : decode cL_law 468 = .ok (.aload_n 0, 1) := by decide +kernel
theorem dL_law_469 : decode cL_law 469 = .ok (.iload 4, 2) := by decide +kernel
theorem dL_law_471 : decode cL_law 471 = .ok (.iconst 3, 1) := by decide +kernel
theorem dL_law_472 : decode cL_law 472 = .ok (.iadd, 1) := by decide +kernel
theorem dL_law_473 : decode cL_law 473 = .ok (.iaload, 1) := by decide +kernel
theorem dL_law_474 : decode cL_law 474 = .ok (.aload_n 0, 1) := by decide +kernel
theorem dL_law_475 : decode cL_law 475 = .ok (.iload 4, 2) := by decide +kernel
theorem dL_law_477 : decode cL_law 477 = .ok (.iconst 4, 1) := by decide +kernel
theorem dL_law_478 : decode cL_law 478 = .ok (.iadd, 1) := by decide +kernel
theorem dL_law_479 : decode cL_law 479 = .ok (.iaload, 1) := by decide +kernel
theorem dL_law_480 : decode cL_law 480 = .ok (.aload_n 3, 1) := by decide +kernel
theorem dL_law_481 : decode cL_law 481 = .ok (.invokestatic 133, 3) := by decide +kernel
theorem dL_law_484 : decode cL_law 484 = .ok (.istore 5, 2) := by decide +kernel
theorem dL_law_486 : decode cL_law 486 = .ok (.aload_n 2, 1) := by decide +kernel
theorem dL_law_487 : decode cL_law 487 = .ok (.aload_n 0, 1) := by decide +kernel
theorem dL_law_488 : decode cL_law 488 = .ok (.iload 4, 2) := by decide +kernel
theorem dL_law_490 : decode cL_law 490 = .ok (.iconst 1, 1) := by decide +kernel
theorem dL_law_491 : decode cL_law 491 = .ok (.iadd, 1) := by decide +kernel
theorem dL_law_492 : decode cL_law 492 = .ok (.iaload, 1) := by decide +kernel
theorem dL_law_493 : decode cL_law 493 = .ok (.aload_n 0, 1) := by decide +kernel
theorem dL_law_494 : decode cL_law 494 = .ok (.iload 4, 2) := by decide +kernel
theorem dL_law_496 : decode cL_law 496 = .ok (.iconst 2, 1) := by decide +kernel
theorem dL_law_497 : decode cL_law 497 = .ok (.iadd, 1) := by decide +kernel
theorem dL_law_498 : decode cL_law 498 = .ok (.iaload, 1) := by decide +kernel
theorem dL_law_499 : decode cL_law 499 = .ok (.aload_n 0, 1) := by decide +kernel
theorem dL_law_500 : decode cL_law 500 = .ok (.iload 4, 2) := by decide +kernel
theorem dL_law_502 : decode cL_law 502 = .ok (.iconst 3, 1) := by decide +kernel
theorem dL_law_503 : decode cL_law 503 = .ok (.iadd, 1) := by decide +kernel
theorem dL_law_504 : decode cL_law 504 = .ok (.iaload, 1) := by decide +kernel
theorem dL_law_505 : decode cL_law 505 = .ok (.aload_n 0, 1) := by decide +kernel
theorem dL_law_506 : decode cL_law 506 = .ok (.iload 4, 2) := by decide +kernel
theorem dL_law_508 : decode cL_law 508 = .ok (.iconst 4, 1) := by decide +kernel
theorem dL_law_509 : decode cL_law 509 = .ok (.iadd, 1) := by decide +kernel
theorem dL_law_510 : decode cL_law 510 = .ok (.iaload, 1) := by decide +kernel
theorem dL_law_511 : decode cL_law 511 = .ok (.invokevirtual 136, 3) := by decide +kernel
theorem dL_law_514 : decode cL_law 514 = .ok (.istore 6, 2) := by decide +kernel
theorem dL_law_516 : decode cL_law 516 = .ok (.aload_n 2, 1) := by decide +kernel
theorem dL_law_517 : decode cL_law 517 = .ok (.invokevirtual 107, 3) := by decide +kernel
theorem dL_law_520 : decode cL_law 520 = .ok (.iload 5, 2) := by decide +kernel
theorem dL_law_522 : decode cL_law 522 = .ok (.if_icmp .eq 5, 3) := by decide +kernel
theorem dL_law_525 : decode cL_law 525 = .ok (.iconst 0, 1) := by decide +kernel
theorem dL_law_526 : decode cL_law 526 = .ok (.ireturn, 1) := by decide +kernel
theorem dL_law_527 : decode cL_law 527 = .ok (.iload 5, 2) := by decide +kernel
theorem dL_law_529 : decode cL_law 529 = .ok (.ifCond .ne 15, 3) := by decide +kernel
theorem dL_law_532 : decode cL_law 532 = .ok (.aload_n 3, 1) := by decide +kernel
theorem dL_law_533 : decode cL_law 533 = .ok (.iconst 0, 1) := by decide +kernel
theorem dL_law_534 : decode cL_law 534 = .ok (.laload, 1) := by decide +kernel
theorem dL_law_535 : decode cL_law 535 = .ok (.iload 6, 2) := by decide +kernel
theorem dL_law_537 : decode cL_law 537 = .ok (.i2l, 1) := by decide +kernel
theorem dL_law_538 : decode cL_law 538 = .ok (.lcmp, 1) := by decide +kernel
theorem dL_law_539 : decode cL_law 539 = .ok (.ifCond .eq 5, 3) := by decide +kernel
theorem dL_law_542 : decode cL_law 542 = .ok (.iconst 0, 1) := by decide +kernel
theorem dL_law_543 : decode cL_law 543 = .ok (.ireturn, 1) := by decide +kernel
theorem dL_law_544 : decode cL_law 544 = .ok (.goto 1144, 3) := by decide +kernel
theorem dL_law_547 : decode cL_law 547 = .ok (.aload_n 1, 1) := by decide +kernel
theorem dL_law_548 : decode cL_law 548 = .ok (.aload_n 3, 1) := by decide +kernel
theorem dL_law_549 : decode cL_law 549 = .ok (.invokestatic 137, 3) := by decide +kernel
theorem dL_law_552 : decode cL_law 552 = .ok (.istore 5, 2) := by decide +kernel
theorem dL_law_554 : decode cL_law 554 = .ok (.aload_n 2, 1) := by decide +kernel
theorem dL_law_555 : decode cL_law 555 = .ok (.invokevirtual 140, 3) := by decide +kernel
theorem dL_law_558 : decode cL_law 558 = .ok (.istore 6, 2) := by decide +kernel
theorem dL_law_560 : decode cL_law 560 = .ok (.aload_n 2, 1) := by decide +kernel
theorem dL_law_561 : decode cL_law 561 = .ok (.invokevirtual 107, 3) := by decide +kernel
theorem dL_law_564 : decode cL_law 564 = .ok (.iload 5, 2) := by decide +kernel
theorem dL_law_566 : decode cL_law 566 = .ok (.if_icmp .eq 5, 3) := by decide +kernel
theorem dL_law_569 : decode cL_law 569 = .ok (.iconst 0, 1) := by decide +kernel
theorem dL_law_570 : decode cL_law 570 = .ok (.ireturn, 1) := by decide +kernel
theorem dL_law_571 : decode cL_law 571 = .ok (.iload 5, 2) := by decide +kernel
theorem dL_law_573 : decode cL_law 573 = .ok (.ifCond .ne 15, 3) := by decide +kernel
theorem dL_law_576 : decode cL_law 576 = .ok (.aload_n 3, 1) := by decide +kernel
theorem dL_law_577 : decode cL_law 577 = .ok (.iconst 0, 1) := by decide +kernel
theorem dL_law_578 : decode cL_law 578 = .ok (.laload, 1) := by decide +kernel
theorem dL_law_579 : decode cL_law 579 = .ok (.iload 6, 2) := by decide +kernel
theorem dL_law_581 : decode cL_law 581 = .ok (.i2l, 1) := by decide +kernel
theorem dL_law_582 : decode cL_law 582 = .ok (.lcmp, 1) := by decide +kernel
theorem dL_law_583 : decode cL_law 583 = .ok (.ifCond .eq 5, 3) := by decide +kernel
theorem dL_law_586 : decode cL_law 586 = .ok (.iconst 0, 1) := by decide +kernel
theorem dL_law_587 : decode cL_law 587 = .ok (.ireturn, 1) := by decide +kernel
theorem dL_law_588 : decode cL_law 588 = .ok (.goto 1100, 3) := by decide +kernel
theorem dL_law_591 : decode cL_law 591 = .ok (.aload_n 1, 1) := by decide +kernel
theorem dL_law_592 : decode cL_law 592 = .ok (.aload_n 0, 1) := by decide +kernel
theorem dL_law_593 : decode cL_law 593 = .ok (.iload 4, 2) := by decide +kernel
theorem dL_law_595 : decode cL_law 595 = .ok (.iconst 1, 1) := by decide +kernel
theorem dL_law_596 : decode cL_law 596 = .ok (.iadd, 1) := by decide +kernel
theorem dL_law_597 : decode cL_law 597 = .ok (.iaload, 1) := by decide +kernel
theorem dL_law_598 : decode cL_law 598 = .ok (.aload_n 0, 1) := by decide +kernel
theorem dL_law_599 : decode cL_law 599 = .ok (.iload 4, 2) := by decide +kernel
theorem dL_law_601 : decode cL_law 601 = .ok (.iconst 2, 1) := by decide +kernel
theorem dL_law_602 : decode cL_law 602 = .ok (.iadd, 1) := by decide +kernel
theorem dL_law_603 : decode cL_law 603 = .ok (.iaload, 1) := by decide +kernel
theorem dL_law_604 : decode cL_law 604 = .ok (.aload_n 3, 1) := by decide +kernel
theorem dL_law_605 : decode cL_law 605 = .ok (.invokestatic 141, 3) := by decide +kernel
theorem dL_law_608 : decode cL_law 608 = .ok (.istore 5, 2) := by decide +kernel
theorem dL_law_610 : decode cL_law 610 = .ok (.aload_n 2, 1) := by decide +kernel
theorem dL_law_611 : decode cL_law 611 = .ok (.aload_n 0, 1) := by decide +kernel
theorem dL_law_612 : decode cL_law 612 = .ok (.iload 4, 2) := by decide +kernel
theorem dL_law_614 : decode cL_law 614 = .ok (.iconst 1, 1) := by decide +kernel
theorem dL_law_615 : decode cL_law 615 = .ok (.iadd, 1) := by decide +kernel
theorem dL_law_616 : decode cL_law 616 = .ok (.iaload, 1) := by decide +kernel
theorem dL_law_617 : decode cL_law 617 = .ok (.aload_n 0, 1) := by decide +kernel
theorem dL_law_618 : decode cL_law 618 = .ok (.iload 4, 2) := by decide +kernel
theorem dL_law_620 : decode cL_law 620 = .ok (.iconst 2, 1) := by decide +kernel
theorem dL_law_621 : decode cL_law 621 = .ok (.iadd, 1) := by decide +kernel
theorem dL_law_622 : decode cL_law 622 = .ok (.iaload, 1) := by decide +kernel
theorem dL_law_623 : decode cL_law 623 = .ok (.invokevirtual 143, 3) := by decide +kernel
theorem dL_law_626 : decode cL_law 626 = .ok (.istore 6, 2) := by decide +kernel
theorem dL_law_628 : decode cL_law 628 = .ok (.aload_n 2, 1) := by decide +kernel
theorem dL_law_629 : decode cL_law 629 = .ok (.invokevirtual 107, 3) := by decide +kernel
theorem dL_law_632 : decode cL_law 632 = .ok (.iload 5, 2) := by decide +kernel
theorem dL_law_634 : decode cL_law 634 = .ok (.if_icmp .eq 5, 3) := by decide +kernel
theorem dL_law_637 : decode cL_law 637 = .ok (.iconst 0, 1) := by decide +kernel
theorem dL_law_638 : decode cL_law 638 = .ok (.ireturn, 1) := by decide +kernel
theorem dL_law_639 : decode cL_law 639 = .ok (.iload 5, 2) := by decide +kernel
theorem dL_law_641 : decode cL_law 641 = .ok (.ifCond .ne 22, 3) := by decide +kernel
theorem dL_law_644 : decode cL_law 644 = .ok (.aload_n 3, 1) := by decide +kernel
theorem dL_law_645 : decode cL_law 645 = .ok (.iconst 0, 1) := by decide +kernel
theorem dL_law_646 : decode cL_law 646 = .ok (.laload, 1) := by decide +kernel
theorem dL_law_647 : decode cL_law 647 = .ok (.iload 6, 2) := by decide +kernel
theorem dL_law_649 : decode cL_law 649 = .ok (.ifCond .eq 7, 3) := by decide +kernel
theorem dL_law_652 : decode cL_law 652 = .ok (.lconst 1, 1) := by decide +kernel
theorem dL_law_653 : decode cL_law 653 = .ok (.goto 4, 3) := by decide +kernel
theorem dL_law_656 : decode cL_law 656 = .ok (.lconst 0, 1) := by decide +kernel
theorem dL_law_657 : decode cL_law 657 = .ok (.lcmp, 1) := by decide +kernel
theorem dL_law_658 : decode cL_law 658 = .ok (.ifCond .eq 5, 3) := by decide +kernel
theorem dL_law_661 : decode cL_law 661 = .ok (.iconst 0, 1) := by decide +kernel
theorem dL_law_662 : decode cL_law 662 = .ok (.ireturn, 1) := by decide +kernel
theorem dL_law_663 : decode cL_law 663 = .ok (.goto 1025, 3) := by decide +kernel
theorem dL_law_666 : decode cL_law 666 = .ok (.aload_n 1, 1) := by decide +kernel
theorem dL_law_667 : decode cL_law 667 = .ok (.aload_n 0, 1) := by decide +kernel
theorem dL_law_668 : decode cL_law 668 = .ok (.iload 4, 2) := by decide +kernel
theorem dL_law_670 : decode cL_law 670 = .ok (.iconst 1, 1) := by decide +kernel
theorem dL_law_671 : decode cL_law 671 = .ok (.iadd, 1) := by decide +kernel
theorem dL_law_672 : decode cL_law 672 = .ok (.iaload, 1) := by decide +kernel
theorem dL_law_673 : decode cL_law 673 = .ok (.aload_n 0, 1) := by decide +kernel
theorem dL_law_674 : decode cL_law 674 = .ok (.iload 4, 2) := by decide +kernel
theorem dL_law_676 : decode cL_law 676 = .ok (.iconst 2, 1) := by decide +kernel
theorem dL_law_677 : decode cL_law 677 = .ok (.iadd, 1) := by decide +kernel
theorem dL_law_678 : decode cL_law 678 = .ok (.iaload, 1) := by decide +kernel
theorem dL_law_679 : decode cL_law 679 = .ok (.invokestatic 144, 3) := by decide +kernel
theorem dL_law_682 : decode cL_law 682 = .ok (.istore 5, 2) := by decide +kernel
theorem dL_law_684 : decode cL_law 684 = .ok (.aload_n 2, 1) := by decide +kernel
theorem dL_law_685 : decode cL_law 685 = .ok (.aload_n 0, 1) := by decide +kernel
theorem dL_law_686 : decode cL_law 686 = .ok (.iload 4, 2) := by decide +kernel
theorem dL_law_688 : decode cL_law 688 = .ok (.iconst 1, 1) := by decide +kernel
theorem dL_law_689 : decode cL_law 689 = .ok (.iadd, 1) := by decide +kernel
theorem dL_law_690 : decode cL_law 690 = .ok (.iaload, 1) := by decide +kernel
theorem dL_law_691 : decode cL_law 691 = .ok (.aload_n 0, 1) := by decide +kernel
theorem dL_law_692 : decode cL_law 692 = .ok (.iload 4, 2) := by decide +kernel
theorem dL_law_694 : decode cL_law 694 = .ok (.iconst 2, 1) := by decide +kernel
theorem dL_law_695 : decode cL_law 695 = .ok (.iadd, 1) := by decide +kernel
theorem dL_law_696 : decode cL_law 696 = .ok (.iaload, 1) := by decide +kernel
theorem dL_law_697 : decode cL_law 697 = .ok (.invokevirtual 147, 3) := by decide +kernel
theorem dL_law_700 : decode cL_law 700 = .ok (.aload_n 2, 1) := by decide +kernel
theorem dL_law_701 : decode cL_law 701 = .ok (.invokevirtual 107, 3) := by decide +kernel
theorem dL_law_704 : decode cL_law 704 = .ok (.iload 5, 2) := by decide +kernel
theorem dL_law_706 : decode cL_law 706 = .ok (.if_icmp .eq 5, 3) := by decide +kernel
theorem dL_law_709 : decode cL_law 709 = .ok (.iconst 0, 1) := by decide +kernel
theorem dL_law_710 : decode cL_law 710 = .ok (.ireturn, 1) := by decide +kernel
theorem dL_law_711 : decode cL_law 711 = .ok (.goto 977, 3) := by decide +kernel
theorem dL_law_714 : decode cL_law 714 = .ok (.aload_n 1, 1) := by decide +kernel
theorem dL_law_715 : decode cL_law 715 = .ok (.aload_n 0, 1) := by decide +kernel
theorem dL_law_716 : decode cL_law 716 = .ok (.iload 4, 2) := by decide +kernel
theorem dL_law_718 : decode cL_law 718 = .ok (.iconst 1, 1) := by decide +kernel
theorem dL_law_719 : decode cL_law 719 = .ok (.iadd, 1) := by decide +kernel
theorem dL_law_720 : decode cL_law 720 = .ok (.iaload, 1) := by decide +kernel
theorem dL_law_721 : decode cL_law 721 = .ok (.aload_n 3, 1) := by decide +kernel
theorem dL_law_722 : decode cL_law 722 = .ok (.invokestatic 148, 3) := by decide +kernel
theorem dL_law_725 : decode cL_law 725 = .ok (.istore 5, 2) := by decide +kernel
theorem dL_law_727 : decode cL_law 727 = .ok (.aload_n 2, 1) := by decide +kernel
theorem dL_law_728 : decode cL_law 728 = .ok (.aload_n 0, 1) := by decide +kernel
theorem dL_law_729 : decode cL_law 729 = .ok (.iload 4, 2) := by decide +kernel
theorem dL_law_731 : decode cL_law 731 = .ok (.iconst 1, 1) := by decide +kernel
theorem dL_law_732 : decode cL_law 732 = .ok (.iadd, 1) := by decide +kernel
theorem dL_law_733 : decode cL_law 733 = .ok (.iaload, 1) := by decide +kernel
theorem dL_law_734 : decode cL_law 734 = .ok (.invokevirtual 150, 3) := by decide +kernel
theorem dL_law_737 : decode cL_law 737 = .ok (.istore 6, 2) := by decide +kernel
theorem dL_law_739 : decode cL_law 739 = .ok (.aload_n 2, 1) := by decide +kernel
theorem dL_law_740 : decode cL_law 740 = .ok (.invokevirtual 107, 3) := by decide +kernel
theorem dL_law_743 : decode cL_law 743 = .ok (.iload 5, 2) := by decide +kernel
theorem dL_law_745 : decode cL_law 745 = .ok (.if_icmp .eq 5, 3) := by decide +kernel
theorem dL_law_748 : decode cL_law 748 = .ok (.iconst 0, 1) := by decide +kernel
theorem dL_law_749 : decode cL_law 749 = .ok (.ireturn, 1) := by decide +kernel
theorem dL_law_750 : decode cL_law 750 = .ok (.iload 5, 2) := by decide +kernel
theorem dL_law_752 : decode cL_law 752 = .ok (.ifCond .ne 15, 3) := by decide +kernel
theorem dL_law_755 : decode cL_law 755 = .ok (.aload_n 3, 1) := by decide +kernel
theorem dL_law_756 : decode cL_law 756 = .ok (.iconst 0, 1) := by decide +kernel
theorem dL_law_757 : decode cL_law 757 = .ok (.laload, 1) := by decide +kernel
theorem dL_law_758 : decode cL_law 758 = .ok (.iload 6, 2) := by decide +kernel
theorem dL_law_760 : decode cL_law 760 = .ok (.i2l, 1) := by decide +kernel
theorem dL_law_761 : decode cL_law 761 = .ok (.lcmp, 1) := by decide +kernel
theorem dL_law_762 : decode cL_law 762 = .ok (.ifCond .eq 5, 3) := by decide +kernel
theorem dL_law_765 : decode cL_law 765 = .ok (.iconst 0, 1) := by decide +kernel
theorem dL_law_766 : decode cL_law 766 = .ok (.ireturn, 1) := by decide +kernel
theorem dL_law_767 : decode cL_law 767 = .ok (.goto 921, 3) := by decide +kernel
theorem dL_law_770 : decode cL_law 770 = .ok (.aload_n 1, 1) := by decide +kernel
theorem dL_law_771 : decode cL_law 771 = .ok (.invokevirtual 151, 3) := by decide +kernel
theorem dL_law_774 : decode cL_law 774 = .ok (.aload_n 2, 1) := by decide +kernel
theorem dL_law_775 : decode cL_law 775 = .ok (.invokevirtual 154, 3) := by decide +kernel
theorem dL_law_778 : decode cL_law 778 = .ok (.if_icmp .eq 910, 3) := by decide +kernel
theorem dL_law_781 : decode cL_law 781 = .ok (.iconst 0, 1) := by decide +kernel
theorem dL_law_782 : decode cL_law 782 = .ok (.ireturn, 1) := by decide +kernel
theorem dL_law_783 : decode cL_law 783 = .ok (.aload_n 1, 1) := by decide +kernel
theorem dL_law_784 : decode cL_law 784 = .ok (.aload_n 0, 1) := by decide +kernel
theorem dL_law_785 : decode cL_law 785 = .ok (.iload 4, 2) := by decide +kernel
theorem dL_law_787 : decode cL_law 787 = .ok (.iconst 1, 1) := by decide +kernel
theorem dL_law_788 : decode cL_law 788 = .ok (.iadd, 1) := by decide +kernel
theorem dL_law_789 : decode cL_law 789 = .ok (.iaload, 1) := by decide +kernel
theorem dL_law_790 : decode cL_law 790 = .ok (.aload_n 3, 1) := by decide +kernel
theorem dL_law_791 : decode cL_law 791 = .ok (.invokestatic 155, 3) := by decide +kernel
theorem dL_law_794 : decode cL_law 794 = .ok (.istore 5, 2) := by decide +kernel
theorem dL_law_796 : decode cL_law 796 = .ok (.aload_n 2, 1) := by decide +kernel
theorem dL_law_797 : decode cL_law 797 = .ok (.aload_n 0, 1) := by decide +kernel
theorem dL_law_798 : decode cL_law 798 = .ok (.iload 4, 2) := by decide +kernel
theorem dL_law_800 : decode cL_law 800 = .ok (.iconst 1, 1) := by decide +kernel
theorem dL_law_801 : decode cL_law 801 = .ok (.iadd, 1) := by decide +kernel
theorem dL_law_802 : decode cL_law 802 = .ok (.iaload, 1) := by decide +kernel
theorem dL_law_803 : decode cL_law 803 = .ok (.invokevirtual 157, 3) := by decide +kernel
theorem dL_law_806 : decode cL_law 806 = .ok (.istore 6, 2) := by decide +kernel
theorem dL_law_808 : decode cL_law 808 = .ok (.aload_n 2, 1) := by decide +kernel
theorem dL_law_809 : decode cL_law 809 = .ok (.invokevirtual 107, 3) := by decide +kernel
theorem dL_law_812 : decode cL_law 812 = .ok (.iload 5, 2) := by decide +kernel
theorem dL_law_814 : decode cL_law 814 = .ok (.if_icmp .eq 5, 3) := by decide +kernel
theorem dL_law_817 : decode cL_law 817 = .ok (.iconst 0, 1) := by decide +kernel
theorem dL_law_818 : decode cL_law 818 = .ok (.ireturn, 1) := by decide +kernel
theorem dL_law_819 : decode cL_law 819 = .ok (.iload 5, 2) := by decide +kernel
theorem dL_law_821 : decode cL_law 821 = .ok (.ifCond .ne 15, 3) := by decide +kernel
theorem dL_law_824 : decode cL_law 824 = .ok (.aload_n 3, 1) := by decide +kernel
theorem dL_law_825 : decode cL_law 825 = .ok (.iconst 0, 1) := by decide +kernel
theorem dL_law_826 : decode cL_law 826 = .ok (.laload, 1) := by decide +kernel
theorem dL_law_827 : decode cL_law 827 = .ok (.iload 6, 2) := by decide +kernel
theorem dL_law_829 : decode cL_law 829 = .ok (.i2l, 1) := by decide +kernel
theorem dL_law_830 : decode cL_law 830 = .ok (.lcmp, 1) := by decide +kernel
theorem dL_law_831 : decode cL_law 831 = .ok (.ifCond .eq 5, 3) := by decide +kernel
theorem dL_law_834 : decode cL_law 834 = .ok (.iconst 0, 1) := by decide +kernel
theorem dL_law_835 : decode cL_law 835 = .ok (.ireturn, 1) := by decide +kernel
theorem dL_law_836 : decode cL_law 836 = .ok (.goto 852, 3) := by decide +kernel
theorem dL_law_839 : decode cL_law 839 = .ok (.aload_n 1, 1) := by decide +kernel
theorem dL_law_840 : decode cL_law 840 = .ok (.aload_n 0, 1) := by decide +kernel
theorem dL_law_841 : decode cL_law 841 = .ok (.iload 4, 2) := by decide +kernel
theorem dL_law_843 : decode cL_law 843 = .ok (.iconst 1, 1) := by decide +kernel
theorem dL_law_844 : decode cL_law 844 = .ok (.iadd, 1) := by decide +kernel
theorem dL_law_845 : decode cL_law 845 = .ok (.iaload, 1) := by decide +kernel
theorem dL_law_846 : decode cL_law 846 = .ok (.aload_n 3, 1) := by decide +kernel
theorem dL_law_847 : decode cL_law 847 = .ok (.invokestatic 158, 3) := by decide +kernel
theorem dL_law_850 : decode cL_law 850 = .ok (.istore 5, 2) := by decide +kernel
theorem dL_law_852 : decode cL_law 852 = .ok (.aload_n 2, 1) := by decide +kernel
theorem dL_law_853 : decode cL_law 853 = .ok (.aload_n 0, 1) := by decide +kernel
theorem dL_law_854 : decode cL_law 854 = .ok (.iload 4, 2) := by decide +kernel
theorem dL_law_856 : decode cL_law 856 = .ok (.iconst 1, 1) := by decide +kernel
theorem dL_law_857 : decode cL_law 857 = .ok (.iadd, 1) := by decide +kernel
theorem dL_law_858 : decode cL_law 858 = .ok (.iaload, 1) := by decide +kernel
theorem dL_law_859 : decode cL_law 859 = .ok (.invokevirtual 160, 3) := by decide +kernel
theorem dL_law_862 : decode cL_law 862 = .ok (.istore 6, 2) := by decide +kernel
theorem dL_law_864 : decode cL_law 864 = .ok (.aload_n 2, 1) := by decide +kernel
theorem dL_law_865 : decode cL_law 865 = .ok (.invokevirtual 107, 3) := by decide +kernel
theorem dL_law_868 : decode cL_law 868 = .ok (.iload 5, 2) := by decide +kernel
theorem dL_law_870 : decode cL_law 870 = .ok (.if_icmp .eq 5, 3) := by decide +kernel
theorem dL_law_873 : decode cL_law 873 = .ok (.iconst 0, 1) := by decide +kernel
theorem dL_law_874 : decode cL_law 874 = .ok (.ireturn, 1) := by decide +kernel
theorem dL_law_875 : decode cL_law 875 = .ok (.iload 5, 2) := by decide +kernel
theorem dL_law_877 : decode cL_law 877 = .ok (.ifCond .ne 15, 3) := by decide +kernel
theorem dL_law_880 : decode cL_law 880 = .ok (.aload_n 3, 1) := by decide +kernel
theorem dL_law_881 : decode cL_law 881 = .ok (.iconst 0, 1) := by decide +kernel
theorem dL_law_882 : decode cL_law 882 = .ok (.laload, 1) := by decide +kernel
theorem dL_law_883 : decode cL_law 883 = .ok (.iload 6, 2) := by decide +kernel
theorem dL_law_885 : decode cL_law 885 = .ok (.i2l, 1) := by decide +kernel
theorem dL_law_886 : decode cL_law 886 = .ok (.lcmp, 1) := by decide +kernel
theorem dL_law_887 : decode cL_law 887 = .ok (.ifCond .eq 5, 3) := by decide +kernel
theorem dL_law_890 : decode cL_law 890 = .ok (.iconst 0, 1) := by decide +kernel
theorem dL_law_891 : decode cL_law 891 = .ok (.ireturn, 1) := by decide +kernel
theorem dL_law_892 : decode cL_law 892 = .ok (.goto 796, 3) := by decide +kernel
theorem dL_law_895 : decode cL_law 895 = .ok (.aload_n 1, 1) := by decide +kernel
theorem dL_law_896 : decode cL_law 896 = .ok (.aload_n 0, 1) := by decide +kernel
theorem dL_law_897 : decode cL_law 897 = .ok (.iload 4, 2) := by decide +kernel
theorem dL_law_899 : decode cL_law 899 = .ok (.iconst 1, 1) := by decide +kernel
theorem dL_law_900 : decode cL_law 900 = .ok (.iadd, 1) := by decide +kernel
theorem dL_law_901 : decode cL_law 901 = .ok (.iaload, 1) := by decide +kernel
theorem dL_law_902 : decode cL_law 902 = .ok (.aload_n 0, 1) := by decide +kernel
theorem dL_law_903 : decode cL_law 903 = .ok (.iload 4, 2) := by decide +kernel
theorem dL_law_905 : decode cL_law 905 = .ok (.iconst 2, 1) := by decide +kernel
theorem dL_law_906 : decode cL_law 906 = .ok (.iadd, 1) := by decide +kernel
theorem dL_law_907 : decode cL_law 907 = .ok (.iaload, 1) := by decide +kernel
theorem dL_law_908 : decode cL_law 908 = .ok (.aload_n 3, 1) := by decide +kernel
theorem dL_law_909 : decode cL_law 909 = .ok (.invokestatic 161, 3) := by decide +kernel
theorem dL_law_912 : decode cL_law 912 = .ok (.istore 5, 2) := by decide +kernel
theorem dL_law_914 : decode cL_law 914 = .ok (.aload_n 2, 1) := by decide +kernel
theorem dL_law_915 : decode cL_law 915 = .ok (.aload_n 0, 1) := by decide +kernel
theorem dL_law_916 : decode cL_law 916 = .ok (.iload 4, 2) := by decide +kernel
theorem dL_law_918 : decode cL_law 918 = .ok (.iconst 1, 1) := by decide +kernel
theorem dL_law_919 : decode cL_law 919 = .ok (.iadd, 1) := by decide +kernel
theorem dL_law_920 : decode cL_law 920 = .ok (.iaload, 1) := by decide +kernel
theorem dL_law_921 : decode cL_law 921 = .ok (.aload_n 0, 1) := by decide +kernel
theorem dL_law_922 : decode cL_law 922 = .ok (.iload 4, 2) := by decide +kernel
theorem dL_law_924 : decode cL_law 924 = .ok (.iconst 2, 1) := by decide +kernel
theorem dL_law_925 : decode cL_law 925 = .ok (.iadd, 1) := by decide +kernel
theorem dL_law_926 : decode cL_law 926 = .ok (.iaload, 1) := by decide +kernel
theorem dL_law_927 : decode cL_law 927 = .ok (.invokevirtual 163, 3) := by decide +kernel
theorem dL_law_930 : decode cL_law 930 = .ok (.istore 6, 2) := by decide +kernel
theorem dL_law_932 : decode cL_law 932 = .ok (.aload_n 2, 1) := by decide +kernel
theorem dL_law_933 : decode cL_law 933 = .ok (.invokevirtual 107, 3) := by decide +kernel
theorem dL_law_936 : decode cL_law 936 = .ok (.iload 5, 2) := by decide +kernel
theorem dL_law_938 : decode cL_law 938 = .ok (.if_icmp .eq 5, 3) := by decide +kernel
theorem dL_law_941 : decode cL_law 941 = .ok (.iconst 0, 1) := by decide +kernel
theorem dL_law_942 : decode cL_law 942 = .ok (.ireturn, 1) := by decide +kernel
theorem dL_law_943 : decode cL_law 943 = .ok (.iload 5, 2) := by decide +kernel
theorem dL_law_945 : decode cL_law 945 = .ok (.ifCond .ne 15, 3) := by decide +kernel
theorem dL_law_948 : decode cL_law 948 = .ok (.aload_n 3, 1) := by decide +kernel
theorem dL_law_949 : decode cL_law 949 = .ok (.iconst 0, 1) := by decide +kernel
theorem dL_law_950 : decode cL_law 950 = .ok (.laload, 1) := by decide +kernel
theorem dL_law_951 : decode cL_law 951 = .ok (.iload 6, 2) := by decide +kernel
theorem dL_law_953 : decode cL_law 953 = .ok (.i2l, 1) := by decide +kernel
theorem dL_law_954 : decode cL_law 954 = .ok (.lcmp, 1) := by decide +kernel
theorem dL_law_955 : decode cL_law 955 = .ok (.ifCond .eq 5, 3) := by decide +kernel
theorem dL_law_958 : decode cL_law 958 = .ok (.iconst 0, 1) := by decide +kernel
theorem dL_law_959 : decode cL_law 959 = .ok (.ireturn, 1) := by decide +kernel
theorem dL_law_960 : decode cL_law 960 = .ok (.goto 728, 3) := by decide +kernel
theorem dL_law_963 : decode cL_law 963 = .ok (.aload_n 1, 1) := by decide +kernel
theorem dL_law_964 : decode cL_law 964 = .ok (.aload_n 0, 1) := by decide +kernel
theorem dL_law_965 : decode cL_law 965 = .ok (.iload 4, 2) := by decide +kernel
theorem dL_law_967 : decode cL_law 967 = .ok (.iconst 1, 1) := by decide +kernel
theorem dL_law_968 : decode cL_law 968 = .ok (.iadd, 1) := by decide +kernel
theorem dL_law_969 : decode cL_law 969 = .ok (.iaload, 1) := by decide +kernel
theorem dL_law_970 : decode cL_law 970 = .ok (.aload_n 0, 1) := by decide +kernel
theorem dL_law_971 : decode cL_law 971 = .ok (.iload 4, 2) := by decide +kernel
theorem dL_law_973 : decode cL_law 973 = .ok (.iconst 2, 1) := by decide +kernel
theorem dL_law_974 : decode cL_law 974 = .ok (.iadd, 1) := by decide +kernel
theorem dL_law_975 : decode cL_law 975 = .ok (.iaload, 1) := by decide +kernel
theorem dL_law_976 : decode cL_law 976 = .ok (.aload_n 0, 1) := by decide +kernel
theorem dL_law_977 : decode cL_law 977 = .ok (.iload 4, 2) := by decide +kernel
theorem dL_law_979 : decode cL_law 979 = .ok (.iconst 3, 1) := by decide +kernel
theorem dL_law_980 : decode cL_law 980 = .ok (.iadd, 1) := by decide +kernel
theorem dL_law_981 : decode cL_law 981 = .ok (.iaload, 1) := by decide +kernel
theorem dL_law_982 : decode cL_law 982 = .ok (.aload_n 3, 1) := by decide +kernel
theorem dL_law_983 : decode cL_law 983 = .ok (.invokestatic 164, 3) := by decide +kernel
theorem dL_law_986 : decode cL_law 986 = .ok (.istore 5, 2) := by decide +kernel
theorem dL_law_988 : decode cL_law 988 = .ok (.aload_n 2, 1) := by decide +kernel
theorem dL_law_989 : decode cL_law 989 = .ok (.aload_n 0, 1) := by decide +kernel
theorem dL_law_990 : decode cL_law 990 = .ok (.iload 4, 2) := by decide +kernel
theorem dL_law_992 : decode cL_law 992 = .ok (.iconst 1, 1) := by decide +kernel
theorem dL_law_993 : decode cL_law 993 = .ok (.iadd, 1) := by decide +kernel
theorem dL_law_994 : decode cL_law 994 = .ok (.iaload, 1) := by decide +kernel
theorem dL_law_995 : decode cL_law 995 = .ok (.aload_n 0, 1) := by decide +kernel
theorem dL_law_996 : decode cL_law 996 = .ok (.iload 4, 2) := by decide +kernel
theorem dL_law_998 : decode cL_law 998 = .ok (.iconst 2, 1) := by decide +kernel
theorem dL_law_999 : decode cL_law 999 = .ok (.iadd, 1) := by decide +kernel
theorem dL_law_1000 : decode cL_law 1000 = .ok (.iaload, 1) := by decide +kernel
theorem dL_law_1001 : decode cL_law 1001 = .ok (.aload_n 0, 1) := by decide +kernel
theorem dL_law_1002 : decode cL_law 1002 = .ok (.iload 4, 2) := by decide +kernel
theorem dL_law_1004 : decode cL_law 1004 = .ok (.iconst 3, 1) := by decide +kernel
theorem dL_law_1005 : decode cL_law 1005 = .ok (.iadd, 1) := by decide +kernel
theorem dL_law_1006 : decode cL_law 1006 = .ok (.iaload, 1) := by decide +kernel
theorem dL_law_1007 : decode cL_law 1007 = .ok (.invokevirtual 167, 3) := by decide +kernel
theorem dL_law_1010 : decode cL_law 1010 = .ok (.istore 6, 2) := by decide +kernel
theorem dL_law_1012 : decode cL_law 1012 = .ok (.aload_n 2, 1) := by decide +kernel
theorem dL_law_1013 : decode cL_law 1013 = .ok (.invokevirtual 107, 3) := by decide +kernel
theorem dL_law_1016 : decode cL_law 1016 = .ok (.iload 5, 2) := by decide +kernel
theorem dL_law_1018 : decode cL_law 1018 = .ok (.if_icmp .eq 5, 3) := by decide +kernel
theorem dL_law_1021 : decode cL_law 1021 = .ok (.iconst 0, 1) := by decide +kernel
theorem dL_law_1022 : decode cL_law 1022 = .ok (.ireturn, 1) := by decide +kernel
theorem dL_law_1023 : decode cL_law 1023 = .ok (.iload 5, 2) := by decide +kernel
theorem dL_law_1025 : decode cL_law 1025 = .ok (.ifCond .ne 15, 3) := by decide +kernel
theorem dL_law_1028 : decode cL_law 1028 = .ok (.aload_n 3, 1) := by decide +kernel
theorem dL_law_1029 : decode cL_law 1029 = .ok (.iconst 0, 1) := by decide +kernel
theorem dL_law_1030 : decode cL_law 1030 = .ok (.laload, 1) := by decide +kernel
theorem dL_law_1031 : decode cL_law 1031 = .ok (.iload 6, 2) := by decide +kernel
theorem dL_law_1033 : decode cL_law 1033 = .ok (.i2l, 1) := by decide +kernel
theorem dL_law_1034 : decode cL_law 1034 = .ok (.lcmp, 1) := by decide +kernel
theorem dL_law_1035 : decode cL_law 1035 = .ok (.ifCond .eq 5, 3) := by decide +kernel
theorem dL_law_1038 : decode cL_law 1038 = .ok (.iconst 0, 1) := by decide +kernel
theorem dL_law_1039 : decode cL_law 1039 = .ok (.ireturn, 1) := by decide +kernel
theorem dL_law_1040 : decode cL_law 1040 = .ok (.goto 648, 3) := by decide +kernel
theorem dL_law_1043 : decode cL_law 1043 = .ok (.aload_n 1, 1) := by decide +kernel
theorem dL_law_1044 : decode cL_law 1044 = .ok (.aload_n 0, 1) := by decide +kernel
theorem dL_law_1045 : decode cL_law 1045 = .ok (.iload 4, 2) := by decide +kernel
theorem dL_law_1047 : decode cL_law 1047 = .ok (.iconst 1, 1) := by decide +kernel
theorem dL_law_1048 : decode cL_law 1048 = .ok (.iadd, 1) := by decide +kernel
theorem dL_law_1049 : decode cL_law 1049 = .ok (.iaload, 1) := by decide +kernel
theorem dL_law_1050 : decode cL_law 1050 = .ok (.aload_n 3, 1) := by decide +kernel
theorem dL_law_1051 : decode cL_law 1051 = .ok (.invokestatic 168, 3) := by decide +kernel
theorem dL_law_1054 : decode cL_law 1054 = .ok (.istore 5, 2) := by decide +kernel
theorem dL_law_1056 : decode cL_law 1056 = .ok (.aload_n 2, 1) := by decide +kernel
theorem dL_law_1057 : decode cL_law 1057 = .ok (.aload_n 0, 1) := by decide +kernel
theorem dL_law_1058 : decode cL_law 1058 = .ok (.iload 4, 2) := by decide +kernel
theorem dL_law_1060 : decode cL_law 1060 = .ok (.iconst 1, 1) := by decide +kernel
theorem dL_law_1061 : decode cL_law 1061 = .ok (.iadd, 1) := by decide +kernel
theorem dL_law_1062 : decode cL_law 1062 = .ok (.iaload, 1) := by decide +kernel
theorem dL_law_1063 : decode cL_law 1063 = .ok (.invokevirtual 170, 3) := by decide +kernel
theorem dL_law_1066 : decode cL_law 1066 = .ok (.istore 6, 2) := by decide +kernel
theorem dL_law_1068 : decode cL_law 1068 = .ok (.aload_n 2, 1) := by decide +kernel
theorem dL_law_1069 : decode cL_law 1069 = .ok (.invokevirtual 107, 3) := by decide +kernel
theorem dL_law_1072 : decode cL_law 1072 = .ok (.iload 5, 2) := by decide +kernel
theorem dL_law_1074 : decode cL_law 1074 = .ok (.if_icmp .eq 5, 3) := by decide +kernel
theorem dL_law_1077 : decode cL_law 1077 = .ok (.iconst 0, 1) := by decide +kernel
theorem dL_law_1078 : decode cL_law 1078 = .ok (.ireturn, 1) := by decide +kernel
theorem dL_law_1079 : decode cL_law 1079 = .ok (.iload 5, 2) := by decide +kernel
theorem dL_law_1081 : decode cL_law 1081 = .ok (.ifCond .ne 15, 3) := by decide +kernel
theorem dL_law_1084 : decode cL_law 1084 = .ok (.aload_n 3, 1) := by decide +kernel
theorem dL_law_1085 : decode cL_law 1085 = .ok (.iconst 0, 1) := by decide +kernel
theorem dL_law_1086 : decode cL_law 1086 = .ok (.laload, 1) := by decide +kernel
theorem dL_law_1087 : decode cL_law 1087 = .ok (.iload 6, 2) := by decide +kernel
theorem dL_law_1089 : decode cL_law 1089 = .ok (.i2l, 1) := by decide +kernel
theorem dL_law_1090 : decode cL_law 1090 = .ok (.lcmp, 1) := by decide +kernel
theorem dL_law_1091 : decode cL_law 1091 = .ok (.ifCond .eq 5, 3) := by decide +kernel
theorem dL_law_1094 : decode cL_law 1094 = .ok (.iconst 0, 1) := by decide +kernel
theorem dL_law_1095 : decode cL_law 1095 = .ok (.ireturn, 1) := by decide +kernel
theorem dL_law_1096 : decode cL_law 1096 = .ok (.goto 592, 3) := by decide +kernel
theorem dL_law_1099 : decode cL_law 1099 = .ok (.aload_n 1, 1) := by decide +kernel
theorem dL_law_1100 : decode cL_law 1100 = .ok (.aload_n 0, 1) := by decide +kernel
theorem dL_law_1101 : decode cL_law 1101 = .ok (.iload 4, 2) := by decide +kernel
theorem dL_law_1103 : decode cL_law 1103 = .ok (.iconst 1, 1) := by decide +kernel
theorem dL_law_1104 : decode cL_law 1104 = .ok (.iadd, 1) := by decide +kernel
theorem dL_law_1105 : decode cL_law 1105 = .ok (.iaload, 1) := by decide +kernel
theorem dL_law_1106 : decode cL_law 1106 = .ok (.aload_n 0, 1) := by decide +kernel
theorem dL_law_1107 : decode cL_law 1107 = .ok (.iload 4, 2) := by decide +kernel
theorem dL_law_1109 : decode cL_law 1109 = .ok (.iconst 2, 1) := by decide +kernel
theorem dL_law_1110 : decode cL_law 1110 = .ok (.iadd, 1) := by decide +kernel
theorem dL_law_1111 : decode cL_law 1111 = .ok (.iaload, 1) := by decide +kernel
theorem dL_law_1112 : decode cL_law 1112 = .ok (.aload_n 0, 1) := by decide +kernel
theorem dL_law_1113 : decode cL_law 1113 = .ok (.iload 4, 2) := by decide +kernel
theorem dL_law_1115 : decode cL_law 1115 = .ok (.iconst 3, 1) := by decide +kernel
theorem dL_law_1116 : decode cL_law 1116 = .ok (.iadd, 1) := by decide +kernel
theorem dL_law_1117 : decode cL_law 1117 = .ok (.iaload, 1) := by decide +kernel
theorem dL_law_1118 : decode cL_law 1118 = .ok (.aload_n 3, 1) := by decide +kernel
theorem dL_law_1119 : decode cL_law 1119 = .ok (.invokestatic 171, 3) := by decide +kernel
theorem dL_law_1122 : decode cL_law 1122 = .ok (.istore 5, 2) := by decide +kernel
theorem dL_law_1124 : decode cL_law 1124 = .ok (.aload_n 2, 1) := by decide +kernel
theorem dL_law_1125 : decode cL_law 1125 = .ok (.aload_n 0, 1) := by decide +kernel
theorem dL_law_1126 : decode cL_law 1126 = .ok (.iload 4, 2) := by decide +kernel
theorem dL_law_1128 : decode cL_law 1128 = .ok (.iconst 1, 1) := by decide +kernel
theorem dL_law_1129 : decode cL_law 1129 = .ok (.iadd, 1) := by decide +kernel
theorem dL_law_1130 : decode cL_law 1130 = .ok (.iaload, 1) := by decide +kernel
theorem dL_law_1131 : decode cL_law 1131 = .ok (.aload_n 0, 1) := by decide +kernel
theorem dL_law_1132 : decode cL_law 1132 = .ok (.iload 4, 2) := by decide +kernel
theorem dL_law_1134 : decode cL_law 1134 = .ok (.iconst 2, 1) := by decide +kernel
theorem dL_law_1135 : decode cL_law 1135 = .ok (.iadd, 1) := by decide +kernel
theorem dL_law_1136 : decode cL_law 1136 = .ok (.iaload, 1) := by decide +kernel
theorem dL_law_1137 : decode cL_law 1137 = .ok (.aload_n 0, 1) := by decide +kernel
theorem dL_law_1138 : decode cL_law 1138 = .ok (.iload 4, 2) := by decide +kernel
theorem dL_law_1140 : decode cL_law 1140 = .ok (.iconst 3, 1) := by decide +kernel
theorem dL_law_1141 : decode cL_law 1141 = .ok (.iadd, 1) := by decide +kernel
theorem dL_law_1142 : decode cL_law 1142 = .ok (.iaload, 1) := by decide +kernel
theorem dL_law_1143 : decode cL_law 1143 = .ok (.invokevirtual 173, 3) := by decide +kernel
theorem dL_law_1146 : decode cL_law 1146 = .ok (.istore 6, 2) := by decide +kernel
theorem dL_law_1148 : decode cL_law 1148 = .ok (.aload_n 2, 1) := by decide +kernel
theorem dL_law_1149 : decode cL_law 1149 = .ok (.invokevirtual 107, 3) := by decide +kernel
theorem dL_law_1152 : decode cL_law 1152 = .ok (.iload 5, 2) := by decide +kernel
theorem dL_law_1154 : decode cL_law 1154 = .ok (.if_icmp .eq 5, 3) := by decide +kernel
theorem dL_law_1157 : decode cL_law 1157 = .ok (.iconst 0, 1) := by decide +kernel
theorem dL_law_1158 : decode cL_law 1158 = .ok (.ireturn, 1) := by decide +kernel
theorem dL_law_1159 : decode cL_law 1159 = .ok (.iload 5, 2) := by decide +kernel
theorem dL_law_1161 : decode cL_law 1161 = .ok (.ifCond .ne 15, 3) := by decide +kernel
theorem dL_law_1164 : decode cL_law 1164 = .ok (.aload_n 3, 1) := by decide +kernel
theorem dL_law_1165 : decode cL_law 1165 = .ok (.iconst 0, 1) := by decide +kernel
theorem dL_law_1166 : decode cL_law 1166 = .ok (.laload, 1) := by decide +kernel
theorem dL_law_1167 : decode cL_law 1167 = .ok (.iload 6, 2) := by decide +kernel
theorem dL_law_1169 : decode cL_law 1169 = .ok (.i2l, 1) := by decide +kernel
theorem dL_law_1170 : decode cL_law 1170 = .ok (.lcmp, 1) := by decide +kernel
theorem dL_law_1171 : decode cL_law 1171 = .ok (.ifCond .eq 5, 3) := by decide +kernel
theorem dL_law_1174 : decode cL_law 1174 = .ok (.iconst 0, 1) := by decide +kernel
theorem dL_law_1175 : decode cL_law 1175 = .ok (.ireturn, 1) := by decide +kernel
theorem dL_law_1176 : decode cL_law 1176 = .ok (.goto 512, 3) := by decide +kernel
theorem dL_law_1179 : decode cL_law 1179 = .ok (.aload_n 1, 1) := by decide +kernel
theorem dL_law_1180 : decode cL_law 1180 = .ok (.aload_n 0, 1) := by decide +kernel
theorem dL_law_1181 : decode cL_law 1181 = .ok (.iload 4, 2) := by decide +kernel
theorem dL_law_1183 : decode cL_law 1183 = .ok (.iconst 1, 1) := by decide +kernel
theorem dL_law_1184 : decode cL_law 1184 = .ok (.iadd, 1) := by decide +kernel
theorem dL_law_1185 : decode cL_law 1185 = .ok (.iaload, 1) := by decide +kernel
theorem dL_law_1186 : decode cL_law 1186 = .ok (.aload_n 3, 1) := by decide +kernel
theorem dL_law_1187 : decode cL_law 1187 = .ok (.invokestatic 174, 3) := by decide +kernel
theorem dL_law_1190 : decode cL_law 1190 = .ok (.istore 5, 2) := by decide +kernel
theorem dL_law_1192 : decode cL_law 1192 = .ok (.aload_n 2, 1) := by decide +kernel
theorem dL_law_1193 : decode cL_law 1193 = .ok (.aload_n 0, 1) := by decide +kernel
theorem dL_law_1194 : decode cL_law 1194 = .ok (.iload 4, 2) := by decide +kernel
theorem dL_law_1196 : decode cL_law 1196 = .ok (.iconst 1, 1) := by decide +kernel
theorem dL_law_1197 : decode cL_law 1197 = .ok (.iadd, 1) := by decide +kernel
theorem dL_law_1198 : decode cL_law 1198 = .ok (.iaload, 1) := by decide +kernel
theorem dL_law_1199 : decode cL_law 1199 = .ok (.invokevirtual 176, 3) := by decide +kernel
theorem dL_law_1202 : decode cL_law 1202 = .ok (.istore 6, 2) := by decide +kernel
theorem dL_law_1204 : decode cL_law 1204 = .ok (.aload_n 2, 1) := by decide +kernel
theorem dL_law_1205 : decode cL_law 1205 = .ok (.invokevirtual 107, 3) := by decide +kernel
theorem dL_law_1208 : decode cL_law 1208 = .ok (.iload 5, 2) := by decide +kernel
theorem dL_law_1210 : decode cL_law 1210 = .ok (.if_icmp .eq 5, 3) := by decide +kernel
theorem dL_law_1213 : decode cL_law 1213 = .ok (.iconst 0, 1) := by decide +kernel
theorem dL_law_1214 : decode cL_law 1214 = .ok (.ireturn, 1) := by decide +kernel
theorem dL_law_1215 : decode cL_law 1215 = .ok (.iload 5, 2) := by decide +kernel
theorem dL_law_1217 : decode cL_law 1217 = .ok (.ifCond .ne 15, 3) := by decide +kernel
theorem dL_law_1220 : decode cL_law 1220 = .ok (.aload_n 3, 1) := by decide +kernel
theorem dL_law_1221 : decode cL_law 1221 = .ok (.iconst 0, 1) := by decide +kernel
theorem dL_law_1222 : decode cL_law 1222 = .ok (.laload, 1) := by decide +kernel
theorem dL_law_1223 : decode cL_law 1223 = .ok (.iload 6, 2) := by decide +kernel
theorem dL_law_1225 : decode cL_law 1225 = .ok (.i2l, 1) := by decide +kernel
theorem dL_law_1226 : decode cL_law 1226 = .ok (.lcmp, 1) := by decide +kernel
theorem dL_law_1227 : decode cL_law 1227 = .ok (.ifCond .eq 5, 3) := by decide +kernel
theorem dL_law_1230 : decode cL_law 1230 = .ok (.iconst 0, 1) := by decide +kernel
theorem dL_law_1231 : decode cL_law 1231 = .ok (.ireturn, 1) := by decide +kernel
theorem dL_law_1232 : decode cL_law 1232 = .ok (.goto 456, 3) := by decide +kernel
theorem dL_law_1235 : decode cL_law 1235 = .ok (.aload_n 1, 1) := by decide +kernel
theorem dL_law_1236 : decode cL_law 1236 = .ok (.aload_n 0, 1) := by decide +kernel
theorem dL_law_1237 : decode cL_law 1237 = .ok (.iload 4, 2) := by decide +kernel
theorem dL_law_1239 : decode cL_law 1239 = .ok (.iconst 1, 1) := by decide +kernel
theorem dL_law_1240 : decode cL_law 1240 = .ok (.iadd, 1) := by decide +kernel
theorem dL_law_1241 : decode cL_law 1241 = .ok (.iaload, 1) := by decide +kernel
theorem dL_law_1242 : decode cL_law 1242 = .ok (.aload_n 3, 1) := by decide +kernel
theorem dL_law_1243 : decode cL_law 1243 = .ok (.invokestatic 177, 3) := by decide +kernel
theorem dL_law_1246 : decode cL_law 1246 = .ok (.istore 5, 2) := by decide +kernel
theorem dL_law_1248 : decode cL_law 1248 = .ok (.aload_n 2, 1) := by decide +kernel
theorem dL_law_1249 : decode cL_law 1249 = .ok (.aload_n 0, 1) := by decide +kernel
theorem dL_law_1250 : decode cL_law 1250 = .ok (.iload 4, 2) := by decide +kernel
theorem dL_law_1252 : decode cL_law 1252 = .ok (.iconst 1, 1) := by decide +kernel
theorem dL_law_1253 : decode cL_law 1253 = .ok (.iadd, 1) := by decide +kernel
theorem dL_law_1254 : decode cL_law 1254 = .ok (.iaload, 1) := by decide +kernel
theorem dL_law_1255 : decode cL_law 1255 = .ok (.invokevirtual 179, 3) := by decide +kernel
theorem dL_law_1258 : decode cL_law 1258 = .ok (.istore 6, 2) := by decide +kernel
theorem dL_law_1260 : decode cL_law 1260 = .ok (.aload_n 2, 1) := by decide +kernel
theorem dL_law_1261 : decode cL_law 1261 = .ok (.invokevirtual 107, 3) := by decide +kernel
theorem dL_law_1264 : decode cL_law 1264 = .ok (.iload 5, 2) := by decide +kernel
theorem dL_law_1266 : decode cL_law 1266 = .ok (.if_icmp .eq 5, 3) := by decide +kernel
theorem dL_law_1269 : decode cL_law 1269 = .ok (.iconst 0, 1) := by decide +kernel
theorem dL_law_1270 : decode cL_law 1270 = .ok (.ireturn, 1) := by decide +kernel
theorem dL_law_1271 : decode cL_law 1271 = .ok (.iload 5, 2) := by decide +kernel
theorem dL_law_1273 : decode cL_law 1273 = .ok (.ifCond .ne 15, 3) := by decide +kernel
theorem dL_law_1276 : decode cL_law 1276 = .ok (.aload_n 3, 1) := by decide +kernel
theorem dL_law_1277 : decode cL_law 1277 = .ok (.iconst 0, 1) := by decide +kernel
theorem dL_law_1278 : decode cL_law 1278 = .ok (.laload, 1) := by decide +kernel
theorem dL_law_1279 : decode cL_law 1279 = .ok (.iload 6, 2) := by decide +kernel
theorem dL_law_1281 : decode cL_law 1281 = .ok (.i2l, 1) := by decide +kernel
theorem dL_law_1282 : decode cL_law 1282 = .ok (.lcmp, 1) := by decide +kernel
theorem dL_law_1283 : decode cL_law 1283 = .ok (.ifCond .eq 5, 3) := by decide +kernel
theorem dL_law_1286 : decode cL_law 1286 = .ok (.iconst 0, 1) := by decide +kernel
theorem dL_law_1287 : decode cL_law 1287 = .ok (.ireturn, 1) := by decide +kernel
theorem dL_law_1288 : decode cL_law 1288 = .ok (.goto 400, 3) := by decide +kernel
theorem dL_law_1291 : decode cL_law 1291 = .ok (.aload_n 1, 1) := by decide +kernel
theorem dL_law_1292 : decode cL_law 1292 = .ok (.aload_n 0, 1) := by decide +kernel
theorem dL_law_1293 : decode cL_law 1293 = .ok (.iload 4, 2) := by decide +kernel
theorem dL_law_1295 : decode cL_law 1295 = .ok (.iconst 1, 1) := by decide +kernel
theorem dL_law_1296 : decode cL_law 1296 = .ok (.iadd, 1) := by decide +kernel
theorem dL_law_1297 : decode cL_law 1297 = .ok (.iaload, 1) := by decide +kernel
theorem dL_law_1298 : decode cL_law 1298 = .ok (.aload_n 3, 1) := by decide +kernel
theorem dL_law_1299 : decode cL_law 1299 = .ok (.invokestatic 180, 3) := by decide +kernel
theorem dL_law_1302 : decode cL_law 1302 = .ok (.istore 5, 2) := by decide +kernel
theorem dL_law_1304 : decode cL_law 1304 = .ok (.aload_n 2, 1) := by decide +kernel
theorem dL_law_1305 : decode cL_law 1305 = .ok (.aload_n 0, 1) := by decide +kernel
theorem dL_law_1306 : decode cL_law 1306 = .ok (.iload 4, 2) := by decide +kernel
theorem dL_law_1308 : decode cL_law 1308 = .ok (.iconst 1, 1) := by decide +kernel
theorem dL_law_1309 : decode cL_law 1309 = .ok (.iadd, 1) := by decide +kernel
theorem dL_law_1310 : decode cL_law 1310 = .ok (.iaload, 1) := by decide +kernel
theorem dL_law_1311 : decode cL_law 1311 = .ok (.invokevirtual 182, 3) := by decide +kernel
theorem dL_law_1314 : decode cL_law 1314 = .ok (.istore 6, 2) := by decide +kernel
theorem dL_law_1316 : decode cL_law 1316 = .ok (.aload_n 2, 1) := by decide +kernel
theorem dL_law_1317 : decode cL_law 1317 = .ok (.invokevirtual 107, 3) := by decide +kernel
theorem dL_law_1320 : decode cL_law 1320 = .ok (.iload 5, 2) := by decide +kernel
theorem dL_law_1322 : decode cL_law 1322 = .ok (.if_icmp .eq 5, 3) := by decide +kernel
theorem dL_law_1325 : decode cL_law 1325 = .ok (.iconst 0, 1) := by decide +kernel
theorem dL_law_1326 : decode cL_law 1326 = .ok (.ireturn, 1) := by decide +kernel
theorem dL_law_1327 : decode cL_law 1327 = .ok (.iload 5, 2) := by decide +kernel
theorem dL_law_1329 : decode cL_law 1329 = .ok (.ifCond .ne 15, 3) := by decide +kernel
theorem dL_law_1332 : decode cL_law 1332 = .ok (.aload_n 3, 1) := by decide +kernel
theorem dL_law_1333 : decode cL_law 1333 = .ok (.iconst 0, 1) := by decide +kernel
theorem dL_law_1334 : decode cL_law 1334 = .ok (.laload, 1) := by decide +kernel
theorem dL_law_1335 : decode cL_law 1335 = .ok (.iload 6, 2) := by decide +kernel
theorem dL_law_1337 : decode cL_law 1337 = .ok (.i2l, 1) := by decide +kernel
theorem dL_law_1338 : decode cL_law 1338 = .ok (.lcmp, 1) := by decide +kernel
theorem dL_law_1339 : decode cL_law 1339 = .ok (.ifCond .eq 5, 3) := by decide +kernel
theorem dL_law_1342 : decode cL_law 1342 = .ok (.iconst 0, 1) := by decide +kernel
theorem dL_law_1343 : decode cL_law 1343 = .ok (.ireturn, 1) := by decide +kernel
theorem dL_law_1344 : decode cL_law 1344 = .ok (.goto 344, 3) := by decide +kernel
theorem dL_law_1347 : decode cL_law 1347 = .ok (.aload_n 1, 1) := by decide +kernel
theorem dL_law_1348 : decode cL_law 1348 = .ok (.invokevirtual 183, 3) := by decide +kernel
theorem dL_law_1351 : decode cL_law 1351 = .ok (.aload_n 2, 1) := by decide +kernel
theorem dL_law_1352 : decode cL_law 1352 = .ok (.invokevirtual 186, 3) := by decide +kernel
theorem dL_law_1355 : decode cL_law 1355 = .ok (.if_icmp .eq 333, 3) := by decide +kernel
theorem dL_law_1358 : decode cL_law 1358 = .ok (.iconst 0, 1) := by decide +kernel
theorem dL_law_1359 : decode cL_law 1359 = .ok (.ireturn, 1) := by decide +kernel
theorem dL_law_1360 : decode cL_law 1360 = .ok (.aload_n 1, 1) := by decide +kernel
theorem dL_law_1361 : decode cL_law 1361 = .ok (.invokevirtual 187, 3) := by decide +kernel
theorem dL_law_1364 : decode cL_law 1364 = .ok (.aload_n 2, 1) := by decide +kernel
theorem dL_law_1365 : decode cL_law 1365 = .ok (.invokevirtual 190, 3) := by decide +kernel
theorem dL_law_1368 : decode cL_law 1368 = .ok (.if_icmp .eq 320, 3) := by decide +kernel
theorem dL_law_1371 : decode cL_law 1371 = .ok (.iconst 0, 1) := by decide +kernel
theorem dL_law_1372 : decode cL_law 1372 = .ok (.ireturn, 1) := by decide +kernel
theorem dL_law_1373 : decode cL_law 1373 = .ok (.aload_n 1, 1) := by decide +kernel
theorem dL_law_1374 : decode cL_law 1374 = .ok (.aload_n 0, 1) := by decide +kernel
theorem dL_law_1375 : decode cL_law 1375 = .ok (.iload 4, 2) := by decide +kernel
theorem dL_law_1377 : decode cL_law 1377 = .ok (.iconst 1, 1) := by decide +kernel
theorem dL_law_1378 : decode cL_law 1378 = .ok (.iadd, 1) := by decide +kernel
theorem dL_law_1379 : decode cL_law 1379 = .ok (.iaload, 1) := by decide +kernel
theorem dL_law_1380 : decode cL_law 1380 = .ok (.aload_n 3, 1) := by decide +kernel
theorem dL_law_1381 : decode cL_law 1381 = .ok (.invokestatic 191, 3) := by decide +kernel
theorem dL_law_1384 : decode cL_law 1384 = .ok (.istore 5, 2) := by decide +kernel
theorem dL_law_1386 : decode cL_law 1386 = .ok (.aload_n 2, 1) := by decide +kernel
theorem dL_law_1387 : decode cL_law 1387 = .ok (.aload_n 0, 1) := by decide +kernel
theorem dL_law_1388 : decode cL_law 1388 = .ok (.iload 4, 2) := by decide +kernel
theorem dL_law_1390 : decode cL_law 1390 = .ok (.iconst 1, 1) := by decide +kernel
theorem dL_law_1391 : decode cL_law 1391 = .ok (.iadd, 1) := by decide +kernel
theorem dL_law_1392 : decode cL_law 1392 = .ok (.iaload, 1) := by decide +kernel
theorem dL_law_1393 : decode cL_law 1393 = .ok (.invokevirtual 193, 3) := by decide +kernel
theorem dL_law_1396 : decode cL_law 1396 = .ok (.istore 6, 2) := by decide +kernel
theorem dL_law_1398 : decode cL_law 1398 = .ok (.aload_n 2, 1) := by decide +kernel
theorem dL_law_1399 : decode cL_law 1399 = .ok (.invokevirtual 107, 3) := by decide +kernel
theorem dL_law_1402 : decode cL_law 1402 = .ok (.iload 5, 2) := by decide +kernel
theorem dL_law_1404 : decode cL_law 1404 = .ok (.if_icmp .eq 5, 3) := by decide +kernel
theorem dL_law_1407 : decode cL_law 1407 = .ok (.iconst 0, 1) := by decide +kernel
theorem dL_law_1408 : decode cL_law 1408 = .ok (.ireturn, 1) := by decide +kernel
theorem dL_law_1409 : decode cL_law 1409 = .ok (.iload 5, 2) := by decide +kernel
theorem dL_law_1411 : decode cL_law 1411 = .ok (.ifCond .ne 15, 3) := by decide +kernel
theorem dL_law_1414 : decode cL_law 1414 = .ok (.aload_n 3, 1) := by decide +kernel
theorem dL_law_1415 : decode cL_law 1415 = .ok (.iconst 0, 1) := by decide +kernel
theorem dL_law_1416 : decode cL_law 1416 = .ok (.laload, 1) := by decide +kernel
theorem dL_law_1417 : decode cL_law 1417 = .ok (.iload 6, 2) := by decide +kernel
theorem dL_law_1419 : decode cL_law 1419 = .ok (.i2l, 1) := by decide +kernel
theorem dL_law_1420 : decode cL_law 1420 = .ok (.lcmp, 1) := by decide +kernel
theorem dL_law_1421 : decode cL_law 1421 = .ok (.ifCond .eq 5, 3) := by decide +kernel
theorem dL_law_1424 : decode cL_law 1424 = .ok (.iconst 0, 1) := by decide +kernel
theorem dL_law_1425 : decode cL_law 1425 = .ok (.ireturn, 1) := by decide +kernel
theorem dL_law_1426 : decode cL_law 1426 = .ok (.goto 262, 3) := by decide +kernel
theorem dL_law_1429 : decode cL_law 1429 = .ok (.aload_n 1, 1) := by decide +kernel
theorem dL_law_1430 : decode cL_law 1430 = .ok (.aload_n 0, 1) := by decide +kernel
theorem dL_law_1431 : decode cL_law 1431 = .ok (.iload 4, 2) := by decide +kernel
theorem dL_law_1433 : decode cL_law 1433 = .ok (.iconst 1, 1) := by decide +kernel
theorem dL_law_1434 : decode cL_law 1434 = .ok (.iadd, 1) := by decide +kernel
theorem dL_law_1435 : decode cL_law 1435 = .ok (.iaload, 1) := by decide +kernel
theorem dL_law_1436 : decode cL_law 1436 = .ok (.aload_n 3, 1) := by decide +kernel
theorem dL_law_1437 : decode cL_law 1437 = .ok (.invokestatic 194, 3) := by decide +kernel
theorem dL_law_1440 : decode cL_law 1440 = .ok (.istore 5, 2) := by decide +kernel
theorem dL_law_1442 : decode cL_law 1442 = .ok (.aload_n 2, 1) := by decide +kernel
theorem dL_law_1443 : decode cL_law 1443 = .ok (.aload_n 0, 1) := by decide +kernel
theorem dL_law_1444 : decode cL_law 1444 = .ok (.iload 4, 2) := by decide +kernel
theorem dL_law_1446 : decode cL_law 1446 = .ok (.iconst 1, 1) := by decide +kernel
theorem dL_law_1447 : decode cL_law 1447 = .ok (.iadd, 1) := by decide +kernel
theorem dL_law_1448 : decode cL_law 1448 = .ok (.iaload, 1) := by decide +kernel
theorem dL_law_1449 : decode cL_law 1449 = .ok (.invokevirtual 196, 3) := by decide +kernel
theorem dL_law_1452 : decode cL_law 1452 = .ok (.istore 6, 2) := by decide +kernel
theorem dL_law_1454 : decode cL_law 1454 = .ok (.aload_n 2, 1) := by decide +kernel
theorem dL_law_1455 : decode cL_law 1455 = .ok (.invokevirtual 107, 3) := by decide +kernel
theorem dL_law_1458 : decode cL_law 1458 = .ok (.iload 5, 2) := by decide +kernel
theorem dL_law_1460 : decode cL_law 1460 = .ok (.if_icmp .eq 5, 3) := by decide +kernel
theorem dL_law_1463 : decode cL_law 1463 = .ok (.iconst 0, 1) := by decide +kernel
theorem dL_law_1464 : decode cL_law 1464 = .ok (.ireturn, 1) := by decide +kernel
theorem dL_law_1465 : decode cL_law 1465 = .ok (.iload 5, 2) := by decide +kernel
theorem dL_law_1467 : decode cL_law 1467 = .ok (.ifCond .ne 15, 3) := by decide +kernel
theorem dL_law_1470 : decode cL_law 1470 = .ok (.aload_n 3, 1) := by decide +kernel
theorem dL_law_1471 : decode cL_law 1471 = .ok (.iconst 0, 1) := by decide +kernel
theorem dL_law_1472 : decode cL_law 1472 = .ok (.laload, 1) := by decide +kernel
theorem dL_law_1473 : decode cL_law 1473 = .ok (.iload 6, 2) := by decide +kernel
theorem dL_law_1475 : decode cL_law 1475 = .ok (.i2l, 1) := by decide +kernel
theorem dL_law_1476 : decode cL_law 1476 = .ok (.lcmp, 1) := by decide +kernel
theorem dL_law_1477 : decode cL_law 1477 = .ok (.ifCond .eq 5, 3) := by decide +kernel
theorem dL_law_1480 : decode cL_law 1480 = .ok (.iconst 0, 1) := by decide +kernel
theorem dL_law_1481 : decode cL_law 1481 = .ok (.ireturn, 1) := by decide +kernel
theorem dL_law_1482 : decode cL_law 1482 = .ok (.goto 206, 3) := by decide +kernel
theorem dL_law_1485 : decode cL_law 1485 = .ok (.aload_n 1, 1) := by decide +kernel
theorem dL_law_1486 : decode cL_law 1486 = .ok (.aload_n 0, 1) := by decide +kernel
theorem dL_law_1487 : decode cL_law 1487 = .ok (.iload 4, 2) := by decide +kernel
theorem dL_law_1489 : decode cL_law 1489 = .ok (.iconst 1, 1) := by decide +kernel
theorem dL_law_1490 : decode cL_law 1490 = .ok (.iadd, 1) := by decide +kernel
theorem dL_law_1491 : decode cL_law 1491 = .ok (.iaload, 1) := by decide +kernel
theorem dL_law_1492 : decode cL_law 1492 = .ok (.aload_n 3, 1) := by decide +kernel
theorem dL_law_1493 : decode cL_law 1493 = .ok (.invokestatic 197, 3) := by decide +kernel
theorem dL_law_1496 : decode cL_law 1496 = .ok (.istore 5, 2) := by decide +kernel
theorem dL_law_1498 : decode cL_law 1498 = .ok (.aload_n 2, 1) := by decide +kernel
theorem dL_law_1499 : decode cL_law 1499 = .ok (.aload_n 0, 1) := by decide +kernel
theorem dL_law_1500 : decode cL_law 1500 = .ok (.iload 4, 2) := by decide +kernel
theorem dL_law_1502 : decode cL_law 1502 = .ok (.iconst 1, 1) := by decide +kernel
theorem dL_law_1503 : decode cL_law 1503 = .ok (.iadd, 1) := by decide +kernel
theorem dL_law_1504 : decode cL_law 1504 = .ok (.iaload, 1) := by decide +kernel
theorem dL_law_1505 : decode cL_law 1505 = .ok (.invokevirtual 199, 3) := by decide +kernel
theorem dL_law_1508 : decode cL_law 1508 = .ok (.istore 6, 2) := by decide +kernel
theorem dL_law_1510 : decode cL_law 1510 = .ok (.aload_n 2, 1) := by decide +kernel
theorem dL_law_1511 : decode cL_law 1511 = .ok (.invokevirtual 107, 3) := by decide +kernel
theorem dL_law_1514 : decode cL_law 1514 = .ok (.iload 5, 2) := by decide +kernel
theorem dL_law_1516 : decode cL_law 1516 = .ok (.if_icmp .eq 5, 3) := by decide +kernel
theorem dL_law_1519 : decode cL_law 1519 = .ok (.iconst 0, 1) := by decide +kernel
theorem dL_law_1520 : decode cL_law 1520 = .ok (.ireturn, 1) := by decide +kernel
theorem dL_law_1521 : decode cL_law 1521 = .ok (.iload 5, 2) := by decide +kernel
theorem dL_law_1523 : decode cL_law 1523 = .ok (.ifCond .ne 15, 3) := by decide +kernel
theorem dL_law_1526 : decode cL_law 1526 = .ok (.aload_n 3, 1) := by decide +kernel
theorem dL_law_1527 : decode cL_law 1527 = .ok (.iconst 0, 1) := by decide +kernel
theorem dL_law_1528 : decode cL_law 1528 = .ok (.laload, 1) := by decide +kernel
theorem dL_law_1529 : decode cL_law 1529 = .ok (.iload 6, 2) := by decide +kernel
theorem dL_law_1531 : decode cL_law 1531 = .ok (.i2l, 1) := by decide +kernel
theorem dL_law_1532 : decode cL_law 1532 = .ok (.lcmp, 1) := by decide +kernel
theorem dL_law_1533 : decode cL_law 1533 = .ok (.ifCond .eq 5, 3) := by decide +kernel
theorem dL_law_1536 : decode cL_law 1536 = .ok (.iconst 0, 1) := by decide +kernel
theorem dL_law_1537 : decode cL_law 1537 = .ok (.ireturn, 1) := by decide +kernel
theorem dL_law_1538 : decode cL_law 1538 = .ok (.goto 150, 3) := by decide +kernel
theorem dL_law_1541 : decode cL_law 1541 = .ok (.aload_n 1, 1) := by decide +kernel
theorem dL_law_1542 : decode cL_law 1542 = .ok (.aload_n 0, 1) := by decide +kernel
theorem dL_law_1543 : decode cL_law 1543 = .ok (.iload 4, 2) := by decide +kernel
theorem dL_law_1545 : decode cL_law 1545 = .ok (.iconst 1, 1) := by decide +kernel
theorem dL_law_1546 : decode cL_law 1546 = .ok (.iadd, 1) := by decide +kernel
theorem dL_law_1547 : decode cL_law 1547 = .ok (.iaload, 1) := by decide +kernel
theorem dL_law_1548 : decode cL_law 1548 = .ok (.aload_n 0, 1) := by decide +kernel
theorem dL_law_1549 : decode cL_law 1549 = .ok (.iload 4, 2) := by decide +kernel
theorem dL_law_1551 : decode cL_law 1551 = .ok (.iconst 2, 1) := by decide +kernel
theorem dL_law_1552 : decode cL_law 1552 = .ok (.iadd, 1) := by decide +kernel
theorem dL_law_1553 : decode cL_law 1553 = .ok (.iaload, 1) := by decide +kernel
theorem dL_law_1554 : decode cL_law 1554 = .ok (.ifCond .eq 7, 3) := by decide +kernel
theorem dL_law_1557 : decode cL_law 1557 = .ok (.iconst 1, 1) := by decide +kernel
theorem dL_law_1558 : decode cL_law 1558 = .ok (.goto 4, 3) := by decide +kernel
theorem dL_law_1561 : decode cL_law 1561 = .ok (.iconst 0, 1) := by decide +kernel
theorem dL_law_1562 : decode cL_law 1562 = .ok (.aload_n 3, 1) := by decide +kernel
theorem dL_law_1563 : decode cL_law 1563 = .ok (.invokestatic 200, 3) := by decide +kernel
theorem dL_law_1566 : decode cL_law 1566 = .ok (.istore 5, 2) := by decide +kernel
theorem dL_law_1568 : decode cL_law 1568 = .ok (.aload_n 2, 1) := by decide +kernel
theorem dL_law_1569 : decode cL_law 1569 = .ok (.aload_n 0, 1) := by decide +kernel
theorem dL_law_1570 : decode cL_law 1570 = .ok (.iload 4, 2) := by decide +kernel
theorem dL_law_1572 : decode cL_law 1572 = .ok (.iconst 1, 1) := by decide +kernel
theorem dL_law_1573 : decode cL_law 1573 = .ok (.iadd, 1) := by decide +kernel
theorem dL_law_1574 : decode cL_law 1574 = .ok (.iaload, 1) := by decide +kernel
theorem dL_law_1575 : decode cL_law 1575 = .ok (.aload_n 0, 1) := by decide +kernel
theorem dL_law_1576 : decode cL_law 1576 = .ok (.iload 4, 2) := by decide +kernel
theorem dL_law_1578 : decode cL_law 1578 = .ok (.iconst 2, 1) := by decide +kernel
theorem dL_law_1579 : decode cL_law 1579 = .ok (.iadd, 1) := by decide +kernel
theorem dL_law_1580 : decode cL_law 1580 = .ok (.iaload, 1) := by decide +kernel
theorem dL_law_1581 : decode cL_law 1581 = .ok (.ifCond .eq 7, 3) := by decide +kernel
theorem dL_law_1584 : decode cL_law 1584 = .ok (.iconst 1, 1) := by decide +kernel
theorem dL_law_1585 : decode cL_law 1585 = .ok (.goto 4, 3) := by decide +kernel
theorem dL_law_1588 : decode cL_law 1588 = .ok (.iconst 0, 1) := by decide +kernel
theorem dL_law_1589 : decode cL_law 1589 = .ok (.invokevirtual 203, 3) := by decide +kernel
theorem dL_law_1592 : decode cL_law 1592 = .ok (.istore 6, 2) := by decide +kernel
theorem dL_law_1594 : decode cL_law 1594 = .ok (.aload_n 2, 1) := by decide +kernel
theorem dL_law_1595 : decode cL_law 1595 = .ok (.invokevirtual 107, 3) := by decide +kernel
theorem dL_law_1598 : decode cL_law 1598 = .ok (.iload 5, 2) := by decide +kernel
theorem dL_law_1600 : decode cL_law 1600 = .ok (.if_icmp .eq 5, 3) := by decide +kernel
theorem dL_law_1603 : decode cL_law 1603 = .ok (.iconst 0, 1) := by decide +kernel
theorem dL_law_1604 : decode cL_law 1604 = .ok (.ireturn, 1) := by decide +kernel
theorem dL_law_1605 : decode cL_law 1605 = .ok (.iload 5, 2) := by decide +kernel
theorem dL_law_1607 : decode cL_law 1607 = .ok (.ifCond .ne 15, 3) := by decide +kernel
theorem dL_law_1610 : decode cL_law 1610 = .ok (.aload_n 3, 1) := by decide +kernel
theorem dL_law_1611 : decode cL_law 1611 = .ok (.iconst 0, 1) := by decide +kernel
theorem dL_law_1612 : decode cL_law 1612 = .ok (.laload, 1) := by decide +kernel
theorem dL_law_1613 : decode cL_law 1613 = .ok (.iload 6, 2) := by decide +kernel
theorem dL_law_1615 : decode cL_law 1615 = .ok (.i2l, 1) := by decide +kernel
theorem dL_law_1616 : decode cL_law 1616 = .ok (.lcmp, 1) := by decide +kernel
theorem dL_law_1617 : decode cL_law 1617 = .ok (.ifCond .eq 5, 3) := by decide +kernel
theorem dL_law_1620 : decode cL_law 1620 = .ok (.iconst 0, 1) := by decide +kernel
theorem dL_law_1621 : decode cL_law 1621 = .ok (.ireturn, 1) := by decide +kernel
theorem dL_law_1622 : decode cL_law 1622 = .ok (.goto 66, 3) := by decide +kernel
theorem dL_law_1625 : decode cL_law 1625 = .ok (.aload_n 1, 1) := by decide +kernel
theorem dL_law_1626 : decode cL_law 1626 = .ok (.aload_n 0, 1) := by decide +kernel
theorem dL_law_1627 : decode cL_law 1627 = .ok (.iload 4, 2) := by decide +kernel
theorem dL_law_1629 : decode cL_law 1629 = .ok (.iconst 1, 1) := by decide +kernel
theorem dL_law_1630 : decode cL_law 1630 = .ok (.iadd, 1) := by decide +kernel
theorem dL_law_1631 : decode cL_law 1631 = .ok (.iaload, 1) := by decide +kernel
theorem dL_law_1632 : decode cL_law 1632 = .ok (.aload_n 3, 1) := by decide +kernel
theorem dL_law_1633 : decode cL_law 1633 = .ok (.invokestatic 204, 3) := by decide +kernel
theorem dL_law_1636 : decode cL_law 1636 = .ok (.istore 5, 2) := by decide +kernel
theorem dL_law_1638 : decode cL_law 1638 = .ok (.aload_n 2, 1) := by decide +kernel
theorem dL_law_1639 : decode cL_law 1639 = .ok (.aload_n 0, 1) := by decide +kernel
theorem dL_law_1640 : decode cL_law 1640 = .ok (.iload 4, 2) := by decide +kernel
theorem dL_law_1642 : decode cL_law 1642 = .ok (.iconst 1, 1) := by decide +kernel
theorem dL_law_1643 : decode cL_law 1643 = .ok (.iadd, 1) := by decide +kernel
theorem dL_law_1644 : decode cL_law 1644 = .ok (.iaload, 1) := by decide +kernel
theorem dL_law_1645 : decode cL_law 1645 = .ok (.invokevirtual 206, 3) := by decide +kernel
theorem dL_law_1648 : decode cL_law 1648 = .ok (.istore 6, 2) := by decide +kernel
theorem dL_law_1650 : decode cL_law 1650 = .ok (.aload_n 2, 1) := by decide +kernel
theorem dL_law_1651 : decode cL_law 1651 = .ok (.invokevirtual 107, 3) := by decide +kernel
theorem dL_law_1654 : decode cL_law 1654 = .ok (.iload 5, 2) := by decide +kernel
theorem dL_law_1656 : decode cL_law 1656 = .ok (.if_icmp .eq 5, 3) := by decide +kernel
theorem dL_law_1659 : decode cL_law 1659 = .ok (.iconst 0, 1) := by decide +kernel
theorem dL_law_1660 : decode cL_law 1660 = .ok (.ireturn, 1) := by decide +kernel
theorem dL_law_1661 : decode cL_law 1661 = .ok (.iload 5, 2) := by decide +kernel
theorem dL_law_1663 : decode cL_law 1663 = .ok (.ifCond .ne 22, 3) := by decide +kernel
theorem dL_law_1666 : decode cL_law 1666 = .ok (.aload_n 3, 1) := by decide +kernel
theorem dL_law_1667 : decode cL_law 1667 = .ok (.iconst 0, 1) := by decide +kernel
theorem dL_law_1668 : decode cL_law 1668 = .ok (.laload, 1) := by decide +kernel
theorem dL_law_1669 : decode cL_law 1669 = .ok (.iload 6, 2) := by decide +kernel
theorem dL_law_1671 : decode cL_law 1671 = .ok (.ifCond .eq 7, 3) := by decide +kernel
theorem dL_law_1674 : decode cL_law 1674 = .ok (.lconst 1, 1) := by decide +kernel
theorem dL_law_1675 : decode cL_law 1675 = .ok (.goto 4, 3) := by decide +kernel
theorem dL_law_1678 : decode cL_law 1678 = .ok (.lconst 0, 1) := by decide +kernel
theorem dL_law_1679 : decode cL_law 1679 = .ok (.lcmp, 1) := by decide +kernel
theorem dL_law_1680 : decode cL_law 1680 = .ok (.ifCond .eq 5, 3) := by decide +kernel
theorem dL_law_1683 : decode cL_law 1683 = .ok (.iconst 0, 1) := by decide +kernel
theorem dL_law_1684 : decode cL_law 1684 = .ok (.ireturn, 1) := by decide +kernel
theorem dL_law_1685 : decode cL_law 1685 = .ok (.goto 3, 3) := by decide +kernel
theorem dL_law_1688 : decode cL_law 1688 = .ok (.iinc 4 5, 3) := by decide +kernel
theorem dL_law_1691 : decode cL_law 1691 = .ok (.goto (-1668), 3) := by decide +kernel
theorem dL_law_1694 : decode cL_law 1694 = .ok (.iconst 1, 1) := by decide +kernel
theorem dL_law_1695 : decode cL_law 1695 = .ok (.ireturn, 1) := by decide +kernel
theorem w_493 : Cond.codeWith yL_type cL_type 4 (some .int) [(0, 9, 12, 13), (0, 9, 15, 15)] ∈ WT := WT_in (List.mem_of_getElem? (i := 493) (by decide +kernel)) (by decide +kernel)
theorem w_491 : Cond.methodLink RL 101 yL_type ∈ WT := WT_in (List.mem_of_getElem? (i := 491) (by decide +kernel)) (by decide +kernel)
theorem w_492 : Cond.static yL_type ∈ WT := WT_in (List.mem_of_getElem? (i := 492) (by decide +kernel)) (by decide +kernel)
theorem w_73 : Cond.initialized RL ∈ WT := WT_in (List.mem_of_getElem? (i := 73) (by decide +kernel)) (by decide +kernel)
theorem w_1253 : Cond.methodLink RL 106 yX11_type ∈ WT := WT_in (List.mem_of_getElem? (i := 1253) (by decide +kernel)) (by decide +kernel)
theorem w_1254 : Cond.instanceMethod yX11_type ∈ WT := WT_in (List.mem_of_getElem? (i := 1254) (by decide +kernel)) (by decide +kernel)
theorem w_1255 : Cond.selects RX11 yX11_type yX11_type ∈ WT := WT_in (List.mem_of_getElem? (i := 1255) (by decide +kernel)) (by decide +kernel)
theorem w_1256 : Cond.code yX11_type cX11_type 2 (some .int) ∈ WT := WT_in (List.mem_of_getElem? (i := 1256) (by decide +kernel)) (by decide +kernel)
theorem w_1249 : Cond.methodLink RL 107 yX11_thrown ∈ WT := WT_in (List.mem_of_getElem? (i := 1249) (by decide +kernel)) (by decide +kernel)
theorem w_1250 : Cond.instanceMethod yX11_thrown ∈ WT := WT_in (List.mem_of_getElem? (i := 1250) (by decide +kernel)) (by decide +kernel)
theorem w_1251 : Cond.selects RX11 yX11_thrown yX11_thrown ∈ WT := WT_in (List.mem_of_getElem? (i := 1251) (by decide +kernel)) (by decide +kernel)
theorem w_1252 : Cond.code yX11_thrown cX11_thrown 1 (some .int) ∈ WT := WT_in (List.mem_of_getElem? (i := 1252) (by decide +kernel)) (by decide +kernel)
theorem w_356 : Cond.methodLink RL 110 yX10_clearText ∈ WT := WT_in (List.mem_of_getElem? (i := 356) (by decide +kernel)) (by decide +kernel)
theorem w_357 : Cond.instanceMethod yX10_clearText ∈ WT := WT_in (List.mem_of_getElem? (i := 357) (by decide +kernel)) (by decide +kernel)
theorem w_358 : Cond.selects RX10 yX10_clearText yX10_clearText ∈ WT := WT_in (List.mem_of_getElem? (i := 358) (by decide +kernel)) (by decide +kernel)
theorem w_359 : Cond.code yX10_clearText cX10_clearText 2 (some .int) ∈ WT := WT_in (List.mem_of_getElem? (i := 359) (by decide +kernel)) (by decide +kernel)
theorem w_1264 : Cond.methodLink RL 113 yX11_clearText ∈ WT := WT_in (List.mem_of_getElem? (i := 1264) (by decide +kernel)) (by decide +kernel)
theorem w_1265 : Cond.instanceMethod yX11_clearText ∈ WT := WT_in (List.mem_of_getElem? (i := 1265) (by decide +kernel)) (by decide +kernel)
theorem w_1266 : Cond.selects RX11 yX11_clearText yX11_clearText ∈ WT := WT_in (List.mem_of_getElem? (i := 1266) (by decide +kernel)) (by decide +kernel)
theorem w_1267 : Cond.code yX11_clearText cX11_clearText 2 (some .int) ∈ WT := WT_in (List.mem_of_getElem? (i := 1267) (by decide +kernel)) (by decide +kernel)
theorem w_360 : Cond.methodLink RL 114 yX10_errorAt ∈ WT := WT_in (List.mem_of_getElem? (i := 360) (by decide +kernel)) (by decide +kernel)
theorem w_361 : Cond.instanceMethod yX10_errorAt ∈ WT := WT_in (List.mem_of_getElem? (i := 361) (by decide +kernel)) (by decide +kernel)
theorem w_362 : Cond.selects RX10 yX10_errorAt yX10_errorAt ∈ WT := WT_in (List.mem_of_getElem? (i := 362) (by decide +kernel)) (by decide +kernel)
theorem w_363 : Cond.code yX10_errorAt cX10_errorAt 1 (some .int) ∈ WT := WT_in (List.mem_of_getElem? (i := 363) (by decide +kernel)) (by decide +kernel)
theorem w_1268 : Cond.methodLink RL 117 yX11_errorAt ∈ WT := WT_in (List.mem_of_getElem? (i := 1268) (by decide +kernel)) (by decide +kernel)
theorem w_1269 : Cond.instanceMethod yX11_errorAt ∈ WT := WT_in (List.mem_of_getElem? (i := 1269) (by decide +kernel)) (by decide +kernel)
theorem w_1270 : Cond.selects RX11 yX11_errorAt yX11_errorAt ∈ WT := WT_in (List.mem_of_getElem? (i := 1270) (by decide +kernel)) (by decide +kernel)
theorem w_1271 : Cond.code yX11_errorAt cX11_errorAt 1 (some .int) ∈ WT := WT_in (List.mem_of_getElem? (i := 1271) (by decide +kernel)) (by decide +kernel)
theorem w_587 : Cond.codeWith yL_ask cL_ask 5 (some .int) [(0, 9, 12, 13), (0, 9, 16, 15)] ∈ WT := WT_in (List.mem_of_getElem? (i := 587) (by decide +kernel)) (by decide +kernel)
theorem w_585 : Cond.methodLink RL 118 yL_ask ∈ WT := WT_in (List.mem_of_getElem? (i := 585) (by decide +kernel)) (by decide +kernel)
theorem w_586 : Cond.static yL_ask ∈ WT := WT_in (List.mem_of_getElem? (i := 586) (by decide +kernel)) (by decide +kernel)
theorem w_1355 : Cond.methodLink RL 121 yX11_ask ∈ WT := WT_in (List.mem_of_getElem? (i := 1355) (by decide +kernel)) (by decide +kernel)
theorem w_1356 : Cond.instanceMethod yX11_ask ∈ WT := WT_in (List.mem_of_getElem? (i := 1356) (by decide +kernel)) (by decide +kernel)
theorem w_1357 : Cond.selects RX11 yX11_ask yX11_ask ∈ WT := WT_in (List.mem_of_getElem? (i := 1357) (by decide +kernel)) (by decide +kernel)
theorem w_1358 : Cond.code yX11_ask cX11_ask 3 (some .long) ∈ WT := WT_in (List.mem_of_getElem? (i := 1358) (by decide +kernel)) (by decide +kernel)
theorem w_651 : Cond.codeWith yL_askByCodes cL_askByCodes 5 (some .int) [(0, 9, 12, 13), (0, 9, 16, 15)] ∈ WT := WT_in (List.mem_of_getElem? (i := 651) (by decide +kernel)) (by decide +kernel)
theorem w_649 : Cond.methodLink RL 122 yL_askByCodes ∈ WT := WT_in (List.mem_of_getElem? (i := 649) (by decide +kernel)) (by decide +kernel)
theorem w_650 : Cond.static yL_askByCodes ∈ WT := WT_in (List.mem_of_getElem? (i := 650) (by decide +kernel)) (by decide +kernel)
theorem w_1393 : Cond.methodLink RL 124 yX11_askByCodes ∈ WT := WT_in (List.mem_of_getElem? (i := 1393) (by decide +kernel)) (by decide +kernel)
theorem w_1394 : Cond.instanceMethod yX11_askByCodes ∈ WT := WT_in (List.mem_of_getElem? (i := 1394) (by decide +kernel)) (by decide +kernel)
theorem w_1395 : Cond.selects RX11 yX11_askByCodes yX11_askByCodes ∈ WT := WT_in (List.mem_of_getElem? (i := 1395) (by decide +kernel)) (by decide +kernel)
theorem w_1396 : Cond.code yX11_askByCodes cX11_askByCodes 3 (some .long) ∈ WT := WT_in (List.mem_of_getElem? (i := 1396) (by decide +kernel)) (by decide +kernel)
theorem w_734 : Cond.codeWith yL_pass cL_pass 4 (some .int) [(0, 9, 12, 13), (0, 9, 15, 15)] ∈ WT := WT_in (List.mem_of_getElem? (i := 734) (by decide +kernel)) (by decide +kernel)
theorem w_732 : Cond.methodLink RL 125 yL_pass ∈ WT := WT_in (List.mem_of_getElem? (i := 732) (by decide +kernel)) (by decide +kernel)
theorem w_733 : Cond.static yL_pass ∈ WT := WT_in (List.mem_of_getElem? (i := 733) (by decide +kernel)) (by decide +kernel)
theorem w_1397 : Cond.methodLink RL 128 yX11_pass ∈ WT := WT_in (List.mem_of_getElem? (i := 1397) (by decide +kernel)) (by decide +kernel)
theorem w_1398 : Cond.instanceMethod yX11_pass ∈ WT := WT_in (List.mem_of_getElem? (i := 1398) (by decide +kernel)) (by decide +kernel)
theorem w_1399 : Cond.selects RX11 yX11_pass yX11_pass ∈ WT := WT_in (List.mem_of_getElem? (i := 1399) (by decide +kernel)) (by decide +kernel)
theorem w_1400 : Cond.code yX11_pass cX11_pass 5 (some .int) ∈ WT := WT_in (List.mem_of_getElem? (i := 1400) (by decide +kernel)) (by decide +kernel)
theorem w_449 : Cond.methodLink RL 129 yX10_now ∈ WT := WT_in (List.mem_of_getElem? (i := 449) (by decide +kernel)) (by decide +kernel)
theorem w_450 : Cond.instanceMethod yX10_now ∈ WT := WT_in (List.mem_of_getElem? (i := 450) (by decide +kernel)) (by decide +kernel)
theorem w_451 : Cond.selects RX10 yX10_now yX10_now ∈ WT := WT_in (List.mem_of_getElem? (i := 451) (by decide +kernel)) (by decide +kernel)
theorem w_452 : Cond.code yX10_now cX10_now 1 (some .int) ∈ WT := WT_in (List.mem_of_getElem? (i := 452) (by decide +kernel)) (by decide +kernel)
theorem w_1440 : Cond.methodLink RL 132 yX11_now ∈ WT := WT_in (List.mem_of_getElem? (i := 1440) (by decide +kernel)) (by decide +kernel)
theorem w_1441 : Cond.instanceMethod yX11_now ∈ WT := WT_in (List.mem_of_getElem? (i := 1441) (by decide +kernel)) (by decide +kernel)
theorem w_1442 : Cond.selects RX11 yX11_now yX11_now ∈ WT := WT_in (List.mem_of_getElem? (i := 1442) (by decide +kernel)) (by decide +kernel)
theorem w_1443 : Cond.code yX11_now cX11_now 1 (some .int) ∈ WT := WT_in (List.mem_of_getElem? (i := 1443) (by decide +kernel)) (by decide +kernel)
theorem w_796 : Cond.codeWith yL_log cL_log 7 (some .int) [(0, 14, 17, 13), (0, 14, 21, 15)] ∈ WT := WT_in (List.mem_of_getElem? (i := 796) (by decide +kernel)) (by decide +kernel)
theorem w_794 : Cond.methodLink RL 133 yL_log ∈ WT := WT_in (List.mem_of_getElem? (i := 794) (by decide +kernel)) (by decide +kernel)
theorem w_795 : Cond.static yL_log ∈ WT := WT_in (List.mem_of_getElem? (i := 795) (by decide +kernel)) (by decide +kernel)
theorem w_1444 : Cond.methodLink RL 136 yX11_log ∈ WT := WT_in (List.mem_of_getElem? (i := 1444) (by decide +kernel)) (by decide +kernel)
theorem w_1445 : Cond.instanceMethod yX11_log ∈ WT := WT_in (List.mem_of_getElem? (i := 1445) (by decide +kernel)) (by decide +kernel)
theorem w_1446 : Cond.selects RX11 yX11_log yX11_log ∈ WT := WT_in (List.mem_of_getElem? (i := 1446) (by decide +kernel)) (by decide +kernel)
theorem w_1447 : Cond.code yX11_log cX11_log 7 (some .int) ∈ WT := WT_in (List.mem_of_getElem? (i := 1447) (by decide +kernel)) (by decide +kernel)
theorem w_814 : Cond.codeWith yL_addPerson cL_addPerson 3 (some .int) [(0, 8, 11, 15)] ∈ WT := WT_in (List.mem_of_getElem? (i := 814) (by decide +kernel)) (by decide +kernel)
theorem w_812 : Cond.methodLink RL 137 yL_addPerson ∈ WT := WT_in (List.mem_of_getElem? (i := 812) (by decide +kernel)) (by decide +kernel)
theorem w_813 : Cond.static yL_addPerson ∈ WT := WT_in (List.mem_of_getElem? (i := 813) (by decide +kernel)) (by decide +kernel)
theorem w_1448 : Cond.methodLink RL 140 yX11_addPerson ∈ WT := WT_in (List.mem_of_getElem? (i := 1448) (by decide +kernel)) (by decide +kernel)
theorem w_1449 : Cond.instanceMethod yX11_addPerson ∈ WT := WT_in (List.mem_of_getElem? (i := 1449) (by decide +kernel)) (by decide +kernel)
theorem w_1450 : Cond.selects RX11 yX11_addPerson yX11_addPerson ∈ WT := WT_in (List.mem_of_getElem? (i := 1450) (by decide +kernel)) (by decide +kernel)
theorem w_1451 : Cond.code yX11_addPerson cX11_addPerson 1 (some .int) ∈ WT := WT_in (List.mem_of_getElem? (i := 1451) (by decide +kernel)) (by decide +kernel)
theorem w_822 : Cond.codeWith yL_off cL_off 5 (some .int) [(0, 17, 20, 40), (0, 17, 24, 13)] ∈ WT := WT_in (List.mem_of_getElem? (i := 822) (by decide +kernel)) (by decide +kernel)
theorem w_820 : Cond.methodLink RL 141 yL_off ∈ WT := WT_in (List.mem_of_getElem? (i := 820) (by decide +kernel)) (by decide +kernel)
theorem w_821 : Cond.static yL_off ∈ WT := WT_in (List.mem_of_getElem? (i := 821) (by decide +kernel)) (by decide +kernel)
theorem w_1452 : Cond.methodLink RL 143 yX11_off ∈ WT := WT_in (List.mem_of_getElem? (i := 1452) (by decide +kernel)) (by decide +kernel)
theorem w_1453 : Cond.instanceMethod yX11_off ∈ WT := WT_in (List.mem_of_getElem? (i := 1453) (by decide +kernel)) (by decide +kernel)
theorem w_1454 : Cond.selects RX11 yX11_off yX11_off ∈ WT := WT_in (List.mem_of_getElem? (i := 1454) (by decide +kernel)) (by decide +kernel)
theorem w_1455 : Cond.code yX11_off cX11_off 3 (some .boolean) ∈ WT := WT_in (List.mem_of_getElem? (i := 1455) (by decide +kernel)) (by decide +kernel)
theorem w_856 : Cond.codeWith yL_swap cL_swap 4 (some .int) [(0, 6, 9, 13), (0, 6, 12, 15)] ∈ WT := WT_in (List.mem_of_getElem? (i := 856) (by decide +kernel)) (by decide +kernel)
theorem w_854 : Cond.methodLink RL 144 yL_swap ∈ WT := WT_in (List.mem_of_getElem? (i := 854) (by decide +kernel)) (by decide +kernel)
theorem w_855 : Cond.static yL_swap ∈ WT := WT_in (List.mem_of_getElem? (i := 855) (by decide +kernel)) (by decide +kernel)
theorem w_1464 : Cond.methodLink RL 147 yX11_swap ∈ WT := WT_in (List.mem_of_getElem? (i := 1464) (by decide +kernel)) (by decide +kernel)
theorem w_1465 : Cond.instanceMethod yX11_swap ∈ WT := WT_in (List.mem_of_getElem? (i := 1465) (by decide +kernel)) (by decide +kernel)
theorem w_1466 : Cond.selects RX11 yX11_swap yX11_swap ∈ WT := WT_in (List.mem_of_getElem? (i := 1466) (by decide +kernel)) (by decide +kernel)
theorem w_1467 : Cond.code yX11_swap cX11_swap 5 none ∈ WT := WT_in (List.mem_of_getElem? (i := 1467) (by decide +kernel)) (by decide +kernel)
theorem w_871 : Cond.codeWith yL_planned cL_planned 4 (some .int) [(0, 9, 12, 13)] ∈ WT := WT_in (List.mem_of_getElem? (i := 871) (by decide +kernel)) (by decide +kernel)
theorem w_869 : Cond.methodLink RL 148 yL_planned ∈ WT := WT_in (List.mem_of_getElem? (i := 869) (by decide +kernel)) (by decide +kernel)
theorem w_870 : Cond.static yL_planned ∈ WT := WT_in (List.mem_of_getElem? (i := 870) (by decide +kernel)) (by decide +kernel)
theorem w_1468 : Cond.methodLink RL 150 yX11_planned ∈ WT := WT_in (List.mem_of_getElem? (i := 1468) (by decide +kernel)) (by decide +kernel)
theorem w_1469 : Cond.instanceMethod yX11_planned ∈ WT := WT_in (List.mem_of_getElem? (i := 1469) (by decide +kernel)) (by decide +kernel)
theorem w_1470 : Cond.selects RX11 yX11_planned yX11_planned ∈ WT := WT_in (List.mem_of_getElem? (i := 1470) (by decide +kernel)) (by decide +kernel)
theorem w_1471 : Cond.code yX11_planned cX11_planned 2 (some .int) ∈ WT := WT_in (List.mem_of_getElem? (i := 1471) (by decide +kernel)) (by decide +kernel)
theorem w_453 : Cond.methodLink RL 151 yX10_next ∈ WT := WT_in (List.mem_of_getElem? (i := 453) (by decide +kernel)) (by decide +kernel)
theorem w_454 : Cond.instanceMethod yX10_next ∈ WT := WT_in (List.mem_of_getElem? (i := 454) (by decide +kernel)) (by decide +kernel)
theorem w_455 : Cond.selects RX10 yX10_next yX10_next ∈ WT := WT_in (List.mem_of_getElem? (i := 455) (by decide +kernel)) (by decide +kernel)
theorem w_456 : Cond.code yX10_next cX10_next 2 (some .int) ∈ WT := WT_in (List.mem_of_getElem? (i := 456) (by decide +kernel)) (by decide +kernel)
theorem w_1472 : Cond.methodLink RL 154 yX11_next ∈ WT := WT_in (List.mem_of_getElem? (i := 1472) (by decide +kernel)) (by decide +kernel)
theorem w_1473 : Cond.instanceMethod yX11_next ∈ WT := WT_in (List.mem_of_getElem? (i := 1473) (by decide +kernel)) (by decide +kernel)
theorem w_1474 : Cond.selects RX11 yX11_next yX11_next ∈ WT := WT_in (List.mem_of_getElem? (i := 1474) (by decide +kernel)) (by decide +kernel)
theorem w_1475 : Cond.code yX11_next cX11_next 1 (some .int) ∈ WT := WT_in (List.mem_of_getElem? (i := 1475) (by decide +kernel)) (by decide +kernel)
theorem w_878 : Cond.codeWith yL_holder cL_holder 4 (some .int) [(0, 9, 12, 13)] ∈ WT := WT_in (List.mem_of_getElem? (i := 878) (by decide +kernel)) (by decide +kernel)
theorem w_876 : Cond.methodLink RL 155 yL_holder ∈ WT := WT_in (List.mem_of_getElem? (i := 876) (by decide +kernel)) (by decide +kernel)
theorem w_877 : Cond.static yL_holder ∈ WT := WT_in (List.mem_of_getElem? (i := 877) (by decide +kernel)) (by decide +kernel)
theorem w_1476 : Cond.methodLink RL 157 yX11_holder ∈ WT := WT_in (List.mem_of_getElem? (i := 1476) (by decide +kernel)) (by decide +kernel)
theorem w_1477 : Cond.instanceMethod yX11_holder ∈ WT := WT_in (List.mem_of_getElem? (i := 1477) (by decide +kernel)) (by decide +kernel)
theorem w_1478 : Cond.selects RX11 yX11_holder yX11_holder ∈ WT := WT_in (List.mem_of_getElem? (i := 1478) (by decide +kernel)) (by decide +kernel)
theorem w_1479 : Cond.code yX11_holder cX11_holder 2 (some .int) ∈ WT := WT_in (List.mem_of_getElem? (i := 1479) (by decide +kernel)) (by decide +kernel)
theorem w_885 : Cond.codeWith yL_nights cL_nights 4 (some .int) [(0, 9, 12, 40)] ∈ WT := WT_in (List.mem_of_getElem? (i := 885) (by decide +kernel)) (by decide +kernel)
theorem w_883 : Cond.methodLink RL 158 yL_nights ∈ WT := WT_in (List.mem_of_getElem? (i := 883) (by decide +kernel)) (by decide +kernel)
theorem w_884 : Cond.static yL_nights ∈ WT := WT_in (List.mem_of_getElem? (i := 884) (by decide +kernel)) (by decide +kernel)
theorem w_1480 : Cond.methodLink RL 160 yX11_nights ∈ WT := WT_in (List.mem_of_getElem? (i := 1480) (by decide +kernel)) (by decide +kernel)
theorem w_1481 : Cond.instanceMethod yX11_nights ∈ WT := WT_in (List.mem_of_getElem? (i := 1481) (by decide +kernel)) (by decide +kernel)
theorem w_1482 : Cond.selects RX11 yX11_nights yX11_nights ∈ WT := WT_in (List.mem_of_getElem? (i := 1482) (by decide +kernel)) (by decide +kernel)
theorem w_1483 : Cond.code yX11_nights cX11_nights 5 (some .int) ∈ WT := WT_in (List.mem_of_getElem? (i := 1483) (by decide +kernel)) (by decide +kernel)
theorem w_896 : Cond.codeWith yL_owes cL_owes 5 (some .int) [(0, 10, 13, 40)] ∈ WT := WT_in (List.mem_of_getElem? (i := 896) (by decide +kernel)) (by decide +kernel)
theorem w_894 : Cond.methodLink RL 161 yL_owes ∈ WT := WT_in (List.mem_of_getElem? (i := 894) (by decide +kernel)) (by decide +kernel)
theorem w_895 : Cond.static yL_owes ∈ WT := WT_in (List.mem_of_getElem? (i := 895) (by decide +kernel)) (by decide +kernel)
theorem w_1484 : Cond.methodLink RL 163 yX11_owes ∈ WT := WT_in (List.mem_of_getElem? (i := 1484) (by decide +kernel)) (by decide +kernel)
theorem w_1485 : Cond.instanceMethod yX11_owes ∈ WT := WT_in (List.mem_of_getElem? (i := 1485) (by decide +kernel)) (by decide +kernel)
theorem w_1486 : Cond.selects RX11 yX11_owes yX11_owes ∈ WT := WT_in (List.mem_of_getElem? (i := 1486) (by decide +kernel)) (by decide +kernel)
theorem w_1487 : Cond.code yX11_owes cX11_owes 6 (some .int) ∈ WT := WT_in (List.mem_of_getElem? (i := 1487) (by decide +kernel)) (by decide +kernel)
theorem w_907 : Cond.codeWith yL_addRule cL_addRule 6 (some .int) [(0, 12, 15, 40), (0, 12, 19, 13), (0, 12, 23, 15)] ∈ WT := WT_in (List.mem_of_getElem? (i := 907) (by decide +kernel)) (by decide +kernel)
theorem w_905 : Cond.methodLink RL 164 yL_addRule ∈ WT := WT_in (List.mem_of_getElem? (i := 905) (by decide +kernel)) (by decide +kernel)
theorem w_906 : Cond.static yL_addRule ∈ WT := WT_in (List.mem_of_getElem? (i := 906) (by decide +kernel)) (by decide +kernel)
theorem w_1488 : Cond.methodLink RL 167 yX11_addRule ∈ WT := WT_in (List.mem_of_getElem? (i := 1488) (by decide +kernel)) (by decide +kernel)
theorem w_1489 : Cond.instanceMethod yX11_addRule ∈ WT := WT_in (List.mem_of_getElem? (i := 1489) (by decide +kernel)) (by decide +kernel)
theorem w_1490 : Cond.selects RX11 yX11_addRule yX11_addRule ∈ WT := WT_in (List.mem_of_getElem? (i := 1490) (by decide +kernel)) (by decide +kernel)
theorem w_1491 : Cond.code yX11_addRule cX11_addRule 6 (some .int) ∈ WT := WT_in (List.mem_of_getElem? (i := 1491) (by decide +kernel)) (by decide +kernel)
theorem w_963 : Cond.codeWith yL_drop cL_drop 4 (some .int) [(0, 9, 12, 40), (0, 9, 15, 15)] ∈ WT := WT_in (List.mem_of_getElem? (i := 963) (by decide +kernel)) (by decide +kernel)
theorem w_961 : Cond.methodLink RL 168 yL_drop ∈ WT := WT_in (List.mem_of_getElem? (i := 961) (by decide +kernel)) (by decide +kernel)
theorem w_962 : Cond.static yL_drop ∈ WT := WT_in (List.mem_of_getElem? (i := 962) (by decide +kernel)) (by decide +kernel)
theorem w_1492 : Cond.methodLink RL 170 yX11_drop ∈ WT := WT_in (List.mem_of_getElem? (i := 1492) (by decide +kernel)) (by decide +kernel)
theorem w_1493 : Cond.instanceMethod yX11_drop ∈ WT := WT_in (List.mem_of_getElem? (i := 1493) (by decide +kernel)) (by decide +kernel)
theorem w_1494 : Cond.selects RX11 yX11_drop yX11_drop ∈ WT := WT_in (List.mem_of_getElem? (i := 1494) (by decide +kernel)) (by decide +kernel)
theorem w_1495 : Cond.code yX11_drop cX11_drop 2 (some .int) ∈ WT := WT_in (List.mem_of_getElem? (i := 1495) (by decide +kernel)) (by decide +kernel)
theorem w_972 : Cond.codeWith yL_silence cL_silence 6 (some .int) [(0, 12, 15, 40), (0, 12, 19, 13), (0, 12, 23, 15)] ∈ WT := WT_in (List.mem_of_getElem? (i := 972) (by decide +kernel)) (by decide +kernel)
theorem w_970 : Cond.methodLink RL 171 yL_silence ∈ WT := WT_in (List.mem_of_getElem? (i := 970) (by decide +kernel)) (by decide +kernel)
theorem w_971 : Cond.static yL_silence ∈ WT := WT_in (List.mem_of_getElem? (i := 971) (by decide +kernel)) (by decide +kernel)
theorem w_1500 : Cond.methodLink RL 173 yX11_silence ∈ WT := WT_in (List.mem_of_getElem? (i := 1500) (by decide +kernel)) (by decide +kernel)
theorem w_1501 : Cond.instanceMethod yX11_silence ∈ WT := WT_in (List.mem_of_getElem? (i := 1501) (by decide +kernel)) (by decide +kernel)
theorem w_1502 : Cond.selects RX11 yX11_silence yX11_silence ∈ WT := WT_in (List.mem_of_getElem? (i := 1502) (by decide +kernel)) (by decide +kernel)
theorem w_1503 : Cond.code yX11_silence cX11_silence 5 (some .int) ∈ WT := WT_in (List.mem_of_getElem? (i := 1503) (by decide +kernel)) (by decide +kernel)
theorem w_984 : Cond.codeWith yL_inWindow cL_inWindow 4 (some .int) [(0, 9, 12, 40)] ∈ WT := WT_in (List.mem_of_getElem? (i := 984) (by decide +kernel)) (by decide +kernel)
theorem w_982 : Cond.methodLink RL 174 yL_inWindow ∈ WT := WT_in (List.mem_of_getElem? (i := 982) (by decide +kernel)) (by decide +kernel)
theorem w_983 : Cond.static yL_inWindow ∈ WT := WT_in (List.mem_of_getElem? (i := 983) (by decide +kernel)) (by decide +kernel)
theorem w_1504 : Cond.methodLink RL 176 yX11_inWindow ∈ WT := WT_in (List.mem_of_getElem? (i := 1504) (by decide +kernel)) (by decide +kernel)
theorem w_1505 : Cond.instanceMethod yX11_inWindow ∈ WT := WT_in (List.mem_of_getElem? (i := 1505) (by decide +kernel)) (by decide +kernel)
theorem w_1506 : Cond.selects RX11 yX11_inWindow yX11_inWindow ∈ WT := WT_in (List.mem_of_getElem? (i := 1506) (by decide +kernel)) (by decide +kernel)
theorem w_1507 : Cond.code yX11_inWindow cX11_inWindow 5 (some .int) ∈ WT := WT_in (List.mem_of_getElem? (i := 1507) (by decide +kernel)) (by decide +kernel)
theorem w_991 : Cond.codeWith yL_rises cL_rises 4 (some .int) [(0, 9, 12, 40)] ∈ WT := WT_in (List.mem_of_getElem? (i := 991) (by decide +kernel)) (by decide +kernel)
theorem w_989 : Cond.methodLink RL 177 yL_rises ∈ WT := WT_in (List.mem_of_getElem? (i := 989) (by decide +kernel)) (by decide +kernel)
theorem w_990 : Cond.static yL_rises ∈ WT := WT_in (List.mem_of_getElem? (i := 990) (by decide +kernel)) (by decide +kernel)
theorem w_1508 : Cond.methodLink RL 179 yX11_rises ∈ WT := WT_in (List.mem_of_getElem? (i := 1508) (by decide +kernel)) (by decide +kernel)
theorem w_1509 : Cond.instanceMethod yX11_rises ∈ WT := WT_in (List.mem_of_getElem? (i := 1509) (by decide +kernel)) (by decide +kernel)
theorem w_1510 : Cond.selects RX11 yX11_rises yX11_rises ∈ WT := WT_in (List.mem_of_getElem? (i := 1510) (by decide +kernel)) (by decide +kernel)
theorem w_1511 : Cond.code yX11_rises cX11_rises 2 (some .int) ∈ WT := WT_in (List.mem_of_getElem? (i := 1511) (by decide +kernel)) (by decide +kernel)
theorem w_998 : Cond.codeWith yL_risesAnew cL_risesAnew 4 (some .int) [(0, 9, 12, 40)] ∈ WT := WT_in (List.mem_of_getElem? (i := 998) (by decide +kernel)) (by decide +kernel)
theorem w_996 : Cond.methodLink RL 180 yL_risesAnew ∈ WT := WT_in (List.mem_of_getElem? (i := 996) (by decide +kernel)) (by decide +kernel)
theorem w_997 : Cond.static yL_risesAnew ∈ WT := WT_in (List.mem_of_getElem? (i := 997) (by decide +kernel)) (by decide +kernel)
theorem w_1512 : Cond.methodLink RL 182 yX11_risesAnew ∈ WT := WT_in (List.mem_of_getElem? (i := 1512) (by decide +kernel)) (by decide +kernel)
theorem w_1513 : Cond.instanceMethod yX11_risesAnew ∈ WT := WT_in (List.mem_of_getElem? (i := 1513) (by decide +kernel)) (by decide +kernel)
theorem w_1514 : Cond.selects RX11 yX11_risesAnew yX11_risesAnew ∈ WT := WT_in (List.mem_of_getElem? (i := 1514) (by decide +kernel)) (by decide +kernel)
theorem w_1515 : Cond.code yX11_risesAnew cX11_risesAnew 2 (some .int) ∈ WT := WT_in (List.mem_of_getElem? (i := 1515) (by decide +kernel)) (by decide +kernel)
theorem w_483 : Cond.methodLink RL 183 yX10_alarms ∈ WT := WT_in (List.mem_of_getElem? (i := 483) (by decide +kernel)) (by decide +kernel)
theorem w_484 : Cond.instanceMethod yX10_alarms ∈ WT := WT_in (List.mem_of_getElem? (i := 484) (by decide +kernel)) (by decide +kernel)
theorem w_485 : Cond.selects RX10 yX10_alarms yX10_alarms ∈ WT := WT_in (List.mem_of_getElem? (i := 485) (by decide +kernel)) (by decide +kernel)
theorem w_486 : Cond.code yX10_alarms cX10_alarms 1 (some .int) ∈ WT := WT_in (List.mem_of_getElem? (i := 486) (by decide +kernel)) (by decide +kernel)
theorem w_1516 : Cond.methodLink RL 186 yX11_alarms ∈ WT := WT_in (List.mem_of_getElem? (i := 1516) (by decide +kernel)) (by decide +kernel)
theorem w_1517 : Cond.instanceMethod yX11_alarms ∈ WT := WT_in (List.mem_of_getElem? (i := 1517) (by decide +kernel)) (by decide +kernel)
theorem w_1518 : Cond.selects RX11 yX11_alarms yX11_alarms ∈ WT := WT_in (List.mem_of_getElem? (i := 1518) (by decide +kernel)) (by decide +kernel)
theorem w_1519 : Cond.code yX11_alarms cX11_alarms 1 (some .int) ∈ WT := WT_in (List.mem_of_getElem? (i := 1519) (by decide +kernel)) (by decide +kernel)
theorem w_487 : Cond.methodLink RL 187 yX10_waiting ∈ WT := WT_in (List.mem_of_getElem? (i := 487) (by decide +kernel)) (by decide +kernel)
theorem w_488 : Cond.instanceMethod yX10_waiting ∈ WT := WT_in (List.mem_of_getElem? (i := 488) (by decide +kernel)) (by decide +kernel)
theorem w_489 : Cond.selects RX10 yX10_waiting yX10_waiting ∈ WT := WT_in (List.mem_of_getElem? (i := 489) (by decide +kernel)) (by decide +kernel)
theorem w_490 : Cond.code yX10_waiting cX10_waiting 1 (some .int) ∈ WT := WT_in (List.mem_of_getElem? (i := 490) (by decide +kernel)) (by decide +kernel)
theorem w_1520 : Cond.methodLink RL 190 yX11_waiting ∈ WT := WT_in (List.mem_of_getElem? (i := 1520) (by decide +kernel)) (by decide +kernel)
theorem w_1521 : Cond.instanceMethod yX11_waiting ∈ WT := WT_in (List.mem_of_getElem? (i := 1521) (by decide +kernel)) (by decide +kernel)
theorem w_1522 : Cond.selects RX11 yX11_waiting yX11_waiting ∈ WT := WT_in (List.mem_of_getElem? (i := 1522) (by decide +kernel)) (by decide +kernel)
theorem w_1523 : Cond.code yX11_waiting cX11_waiting 3 (some .int) ∈ WT := WT_in (List.mem_of_getElem? (i := 1523) (by decide +kernel)) (by decide +kernel)
theorem w_1005 : Cond.codeWith yL_alarm cL_alarm 4 (some .int) [(0, 9, 12, 40)] ∈ WT := WT_in (List.mem_of_getElem? (i := 1005) (by decide +kernel)) (by decide +kernel)
theorem w_1003 : Cond.methodLink RL 191 yL_alarm ∈ WT := WT_in (List.mem_of_getElem? (i := 1003) (by decide +kernel)) (by decide +kernel)
theorem w_1004 : Cond.static yL_alarm ∈ WT := WT_in (List.mem_of_getElem? (i := 1004) (by decide +kernel)) (by decide +kernel)
theorem w_1524 : Cond.methodLink RL 193 yX11_alarm ∈ WT := WT_in (List.mem_of_getElem? (i := 1524) (by decide +kernel)) (by decide +kernel)
theorem w_1525 : Cond.instanceMethod yX11_alarm ∈ WT := WT_in (List.mem_of_getElem? (i := 1525) (by decide +kernel)) (by decide +kernel)
theorem w_1526 : Cond.selects RX11 yX11_alarm yX11_alarm ∈ WT := WT_in (List.mem_of_getElem? (i := 1526) (by decide +kernel)) (by decide +kernel)
theorem w_1527 : Cond.code yX11_alarm cX11_alarm 2 (some .int) ∈ WT := WT_in (List.mem_of_getElem? (i := 1527) (by decide +kernel)) (by decide +kernel)
theorem w_1017 : Cond.codeWith yL_woken cL_woken 4 (some .int) [(0, 9, 12, 40)] ∈ WT := WT_in (List.mem_of_getElem? (i := 1017) (by decide +kernel)) (by decide +kernel)
theorem w_1015 : Cond.methodLink RL 194 yL_woken ∈ WT := WT_in (List.mem_of_getElem? (i := 1015) (by decide +kernel)) (by decide +kernel)
theorem w_1016 : Cond.static yL_woken ∈ WT := WT_in (List.mem_of_getElem? (i := 1016) (by decide +kernel)) (by decide +kernel)
theorem w_1532 : Cond.methodLink RL 196 yX11_woken ∈ WT := WT_in (List.mem_of_getElem? (i := 1532) (by decide +kernel)) (by decide +kernel)
theorem w_1533 : Cond.instanceMethod yX11_woken ∈ WT := WT_in (List.mem_of_getElem? (i := 1533) (by decide +kernel)) (by decide +kernel)
theorem w_1534 : Cond.selects RX11 yX11_woken yX11_woken ∈ WT := WT_in (List.mem_of_getElem? (i := 1534) (by decide +kernel)) (by decide +kernel)
theorem w_1535 : Cond.code yX11_woken cX11_woken 2 (some .int) ∈ WT := WT_in (List.mem_of_getElem? (i := 1535) (by decide +kernel)) (by decide +kernel)
theorem w_1028 : Cond.codeWith yL_wokenAt cL_wokenAt 4 (some .int) [(0, 9, 12, 40), (0, 9, 15, 87)] ∈ WT := WT_in (List.mem_of_getElem? (i := 1028) (by decide +kernel)) (by decide +kernel)
theorem w_1026 : Cond.methodLink RL 197 yL_wokenAt ∈ WT := WT_in (List.mem_of_getElem? (i := 1026) (by decide +kernel)) (by decide +kernel)
theorem w_1027 : Cond.static yL_wokenAt ∈ WT := WT_in (List.mem_of_getElem? (i := 1027) (by decide +kernel)) (by decide +kernel)
theorem w_1536 : Cond.methodLink RL 199 yX11_wokenAt ∈ WT := WT_in (List.mem_of_getElem? (i := 1536) (by decide +kernel)) (by decide +kernel)
theorem w_1537 : Cond.instanceMethod yX11_wokenAt ∈ WT := WT_in (List.mem_of_getElem? (i := 1537) (by decide +kernel)) (by decide +kernel)
theorem w_1538 : Cond.selects RX11 yX11_wokenAt yX11_wokenAt ∈ WT := WT_in (List.mem_of_getElem? (i := 1538) (by decide +kernel)) (by decide +kernel)
theorem w_1539 : Cond.code yX11_wokenAt cX11_wokenAt 2 (some .int) ∈ WT := WT_in (List.mem_of_getElem? (i := 1539) (by decide +kernel)) (by decide +kernel)
theorem w_1052 : Cond.codeWith yL_answer cL_answer 5 (some .int) [(0, 10, 13, 40), (0, 10, 17, 15)] ∈ WT := WT_in (List.mem_of_getElem? (i := 1052) (by decide +kernel)) (by decide +kernel)
theorem w_1050 : Cond.methodLink RL 200 yL_answer ∈ WT := WT_in (List.mem_of_getElem? (i := 1050) (by decide +kernel)) (by decide +kernel)
theorem w_1051 : Cond.static yL_answer ∈ WT := WT_in (List.mem_of_getElem? (i := 1051) (by decide +kernel)) (by decide +kernel)
theorem w_1540 : Cond.methodLink RL 203 yX11_answer ∈ WT := WT_in (List.mem_of_getElem? (i := 1540) (by decide +kernel)) (by decide +kernel)
theorem w_1541 : Cond.instanceMethod yX11_answer ∈ WT := WT_in (List.mem_of_getElem? (i := 1541) (by decide +kernel)) (by decide +kernel)
theorem w_1542 : Cond.selects RX11 yX11_answer yX11_answer ∈ WT := WT_in (List.mem_of_getElem? (i := 1542) (by decide +kernel)) (by decide +kernel)
theorem w_1543 : Cond.code yX11_answer cX11_answer 5 (some .int) ∈ WT := WT_in (List.mem_of_getElem? (i := 1543) (by decide +kernel)) (by decide +kernel)
theorem w_1069 : Cond.codeWith yL_wouldRise cL_wouldRise 4 (some .int) [(0, 16, 19, 40)] ∈ WT := WT_in (List.mem_of_getElem? (i := 1069) (by decide +kernel)) (by decide +kernel)
theorem w_1067 : Cond.methodLink RL 204 yL_wouldRise ∈ WT := WT_in (List.mem_of_getElem? (i := 1067) (by decide +kernel)) (by decide +kernel)
theorem w_1068 : Cond.static yL_wouldRise ∈ WT := WT_in (List.mem_of_getElem? (i := 1068) (by decide +kernel)) (by decide +kernel)
theorem w_1545 : Cond.methodLink RL 206 yX11_wouldRise ∈ WT := WT_in (List.mem_of_getElem? (i := 1545) (by decide +kernel)) (by decide +kernel)
theorem w_1546 : Cond.instanceMethod yX11_wouldRise ∈ WT := WT_in (List.mem_of_getElem? (i := 1546) (by decide +kernel)) (by decide +kernel)
theorem w_1547 : Cond.selects RX11 yX11_wouldRise yX11_wouldRise ∈ WT := WT_in (List.mem_of_getElem? (i := 1547) (by decide +kernel)) (by decide +kernel)
theorem w_1548 : Cond.code yX11_wouldRise cX11_wouldRise 4 (some .boolean) ∈ WT := WT_in (List.mem_of_getElem? (i := 1548) (by decide +kernel)) (by decide +kernel)
theorem hdS_L_type : yL_type.cls ≠ "java/lang/invoke/MethodHandle" ∧ yL_type.cls ≠ "java/lang/invoke/VarHandle" ∧ (parseMethodDescriptor yL_type.desc).map (fun d => d.parameters.length) = some 3 := by decide +kernel
theorem hdV_X11_type : yX11_type.cls = RX11 ∧ yX11_type.cls ≠ "java/lang/invoke/MethodHandle" ∧ yX11_type.cls ≠ "java/lang/invoke/VarHandle" ∧ (parseMethodDescriptor yX11_type.desc).map (fun d => d.parameters.length) = some 1 := by decide +kernel
theorem hdV_X11_thrown : yX11_thrown.cls = RX11 ∧ yX11_thrown.cls ≠ "java/lang/invoke/MethodHandle" ∧ yX11_thrown.cls ≠ "java/lang/invoke/VarHandle" ∧ (parseMethodDescriptor yX11_thrown.desc).map (fun d => d.parameters.length) = some 0 := by decide +kernel
theorem hdV_X10_clearText : yX10_clearText.cls = RX10 ∧ yX10_clearText.cls ≠ "java/lang/invoke/MethodHandle" ∧ yX10_clearText.cls ≠ "java/lang/invoke/VarHandle" ∧ (parseMethodDescriptor yX10_clearText.desc).map (fun d => d.parameters.length) = some 0 := by decide +kernel
theorem hdV_X11_clearText : yX11_clearText.cls = RX11 ∧ yX11_clearText.cls ≠ "java/lang/invoke/MethodHandle" ∧ yX11_clearText.cls ≠ "java/lang/invoke/VarHandle" ∧ (parseMethodDescriptor yX11_clearText.desc).map (fun d => d.parameters.length) = some 0 := by decide +kernel
theorem hdV_X10_errorAt : yX10_errorAt.cls = RX10 ∧ yX10_errorAt.cls ≠ "java/lang/invoke/MethodHandle" ∧ yX10_errorAt.cls ≠ "java/lang/invoke/VarHandle" ∧ (parseMethodDescriptor yX10_errorAt.desc).map (fun d => d.parameters.length) = some 0 := by decide +kernel
theorem hdV_X11_errorAt : yX11_errorAt.cls = RX11 ∧ yX11_errorAt.cls ≠ "java/lang/invoke/MethodHandle" ∧ yX11_errorAt.cls ≠ "java/lang/invoke/VarHandle" ∧ (parseMethodDescriptor yX11_errorAt.desc).map (fun d => d.parameters.length) = some 0 := by decide +kernel
theorem hdS_L_ask : yL_ask.cls ≠ "java/lang/invoke/MethodHandle" ∧ yL_ask.cls ≠ "java/lang/invoke/VarHandle" ∧ (parseMethodDescriptor yL_ask.desc).map (fun d => d.parameters.length) = some 4 := by decide +kernel
theorem hdV_X11_ask : yX11_ask.cls = RX11 ∧ yX11_ask.cls ≠ "java/lang/invoke/MethodHandle" ∧ yX11_ask.cls ≠ "java/lang/invoke/VarHandle" ∧ (parseMethodDescriptor yX11_ask.desc).map (fun d => d.parameters.length) = some 2 := by decide +kernel
theorem hdS_L_askByCodes : yL_askByCodes.cls ≠ "java/lang/invoke/MethodHandle" ∧ yL_askByCodes.cls ≠ "java/lang/invoke/VarHandle" ∧ (parseMethodDescriptor yL_askByCodes.desc).map (fun d => d.parameters.length) = some 4 := by decide +kernel
theorem hdV_X11_askByCodes : yX11_askByCodes.cls = RX11 ∧ yX11_askByCodes.cls ≠ "java/lang/invoke/MethodHandle" ∧ yX11_askByCodes.cls ≠ "java/lang/invoke/VarHandle" ∧ (parseMethodDescriptor yX11_askByCodes.desc).map (fun d => d.parameters.length) = some 2 := by decide +kernel
theorem hdS_L_pass : yL_pass.cls ≠ "java/lang/invoke/MethodHandle" ∧ yL_pass.cls ≠ "java/lang/invoke/VarHandle" ∧ (parseMethodDescriptor yL_pass.desc).map (fun d => d.parameters.length) = some 3 := by decide +kernel
theorem hdV_X11_pass : yX11_pass.cls = RX11 ∧ yX11_pass.cls ≠ "java/lang/invoke/MethodHandle" ∧ yX11_pass.cls ≠ "java/lang/invoke/VarHandle" ∧ (parseMethodDescriptor yX11_pass.desc).map (fun d => d.parameters.length) = some 1 := by decide +kernel
theorem hdV_X10_now : yX10_now.cls = RX10 ∧ yX10_now.cls ≠ "java/lang/invoke/MethodHandle" ∧ yX10_now.cls ≠ "java/lang/invoke/VarHandle" ∧ (parseMethodDescriptor yX10_now.desc).map (fun d => d.parameters.length) = some 0 := by decide +kernel
theorem hdV_X11_now : yX11_now.cls = RX11 ∧ yX11_now.cls ≠ "java/lang/invoke/MethodHandle" ∧ yX11_now.cls ≠ "java/lang/invoke/VarHandle" ∧ (parseMethodDescriptor yX11_now.desc).map (fun d => d.parameters.length) = some 0 := by decide +kernel
theorem hdS_L_log : yL_log.cls ≠ "java/lang/invoke/MethodHandle" ∧ yL_log.cls ≠ "java/lang/invoke/VarHandle" ∧ (parseMethodDescriptor yL_log.desc).map (fun d => d.parameters.length) = some 6 := by decide +kernel
theorem hdV_X11_log : yX11_log.cls = RX11 ∧ yX11_log.cls ≠ "java/lang/invoke/MethodHandle" ∧ yX11_log.cls ≠ "java/lang/invoke/VarHandle" ∧ (parseMethodDescriptor yX11_log.desc).map (fun d => d.parameters.length) = some 4 := by decide +kernel
theorem hdS_L_addPerson : yL_addPerson.cls ≠ "java/lang/invoke/MethodHandle" ∧ yL_addPerson.cls ≠ "java/lang/invoke/VarHandle" ∧ (parseMethodDescriptor yL_addPerson.desc).map (fun d => d.parameters.length) = some 2 := by decide +kernel
theorem hdV_X11_addPerson : yX11_addPerson.cls = RX11 ∧ yX11_addPerson.cls ≠ "java/lang/invoke/MethodHandle" ∧ yX11_addPerson.cls ≠ "java/lang/invoke/VarHandle" ∧ (parseMethodDescriptor yX11_addPerson.desc).map (fun d => d.parameters.length) = some 0 := by decide +kernel
theorem hdS_L_off : yL_off.cls ≠ "java/lang/invoke/MethodHandle" ∧ yL_off.cls ≠ "java/lang/invoke/VarHandle" ∧ (parseMethodDescriptor yL_off.desc).map (fun d => d.parameters.length) = some 4 := by decide +kernel
theorem hdV_X11_off : yX11_off.cls = RX11 ∧ yX11_off.cls ≠ "java/lang/invoke/MethodHandle" ∧ yX11_off.cls ≠ "java/lang/invoke/VarHandle" ∧ (parseMethodDescriptor yX11_off.desc).map (fun d => d.parameters.length) = some 2 := by decide +kernel
theorem hdS_L_swap : yL_swap.cls ≠ "java/lang/invoke/MethodHandle" ∧ yL_swap.cls ≠ "java/lang/invoke/VarHandle" ∧ (parseMethodDescriptor yL_swap.desc).map (fun d => d.parameters.length) = some 3 := by decide +kernel
theorem hdV_X11_swap : yX11_swap.cls = RX11 ∧ yX11_swap.cls ≠ "java/lang/invoke/MethodHandle" ∧ yX11_swap.cls ≠ "java/lang/invoke/VarHandle" ∧ (parseMethodDescriptor yX11_swap.desc).map (fun d => d.parameters.length) = some 2 := by decide +kernel
theorem hdS_L_planned : yL_planned.cls ≠ "java/lang/invoke/MethodHandle" ∧ yL_planned.cls ≠ "java/lang/invoke/VarHandle" ∧ (parseMethodDescriptor yL_planned.desc).map (fun d => d.parameters.length) = some 3 := by decide +kernel
theorem hdV_X11_planned : yX11_planned.cls = RX11 ∧ yX11_planned.cls ≠ "java/lang/invoke/MethodHandle" ∧ yX11_planned.cls ≠ "java/lang/invoke/VarHandle" ∧ (parseMethodDescriptor yX11_planned.desc).map (fun d => d.parameters.length) = some 1 := by decide +kernel
theorem hdV_X10_next : yX10_next.cls = RX10 ∧ yX10_next.cls ≠ "java/lang/invoke/MethodHandle" ∧ yX10_next.cls ≠ "java/lang/invoke/VarHandle" ∧ (parseMethodDescriptor yX10_next.desc).map (fun d => d.parameters.length) = some 0 := by decide +kernel
theorem hdV_X11_next : yX11_next.cls = RX11 ∧ yX11_next.cls ≠ "java/lang/invoke/MethodHandle" ∧ yX11_next.cls ≠ "java/lang/invoke/VarHandle" ∧ (parseMethodDescriptor yX11_next.desc).map (fun d => d.parameters.length) = some 0 := by decide +kernel
theorem hdS_L_holder : yL_holder.cls ≠ "java/lang/invoke/MethodHandle" ∧ yL_holder.cls ≠ "java/lang/invoke/VarHandle" ∧ (parseMethodDescriptor yL_holder.desc).map (fun d => d.parameters.length) = some 3 := by decide +kernel
theorem hdV_X11_holder : yX11_holder.cls = RX11 ∧ yX11_holder.cls ≠ "java/lang/invoke/MethodHandle" ∧ yX11_holder.cls ≠ "java/lang/invoke/VarHandle" ∧ (parseMethodDescriptor yX11_holder.desc).map (fun d => d.parameters.length) = some 1 := by decide +kernel
theorem hdS_L_nights : yL_nights.cls ≠ "java/lang/invoke/MethodHandle" ∧ yL_nights.cls ≠ "java/lang/invoke/VarHandle" ∧ (parseMethodDescriptor yL_nights.desc).map (fun d => d.parameters.length) = some 3 := by decide +kernel
theorem hdV_X11_nights : yX11_nights.cls = RX11 ∧ yX11_nights.cls ≠ "java/lang/invoke/MethodHandle" ∧ yX11_nights.cls ≠ "java/lang/invoke/VarHandle" ∧ (parseMethodDescriptor yX11_nights.desc).map (fun d => d.parameters.length) = some 1 := by decide +kernel
theorem hdS_L_owes : yL_owes.cls ≠ "java/lang/invoke/MethodHandle" ∧ yL_owes.cls ≠ "java/lang/invoke/VarHandle" ∧ (parseMethodDescriptor yL_owes.desc).map (fun d => d.parameters.length) = some 4 := by decide +kernel
theorem hdV_X11_owes : yX11_owes.cls = RX11 ∧ yX11_owes.cls ≠ "java/lang/invoke/MethodHandle" ∧ yX11_owes.cls ≠ "java/lang/invoke/VarHandle" ∧ (parseMethodDescriptor yX11_owes.desc).map (fun d => d.parameters.length) = some 2 := by decide +kernel
theorem hdS_L_addRule : yL_addRule.cls ≠ "java/lang/invoke/MethodHandle" ∧ yL_addRule.cls ≠ "java/lang/invoke/VarHandle" ∧ (parseMethodDescriptor yL_addRule.desc).map (fun d => d.parameters.length) = some 5 := by decide +kernel
theorem hdV_X11_addRule : yX11_addRule.cls = RX11 ∧ yX11_addRule.cls ≠ "java/lang/invoke/MethodHandle" ∧ yX11_addRule.cls ≠ "java/lang/invoke/VarHandle" ∧ (parseMethodDescriptor yX11_addRule.desc).map (fun d => d.parameters.length) = some 3 := by decide +kernel
theorem hdS_L_drop : yL_drop.cls ≠ "java/lang/invoke/MethodHandle" ∧ yL_drop.cls ≠ "java/lang/invoke/VarHandle" ∧ (parseMethodDescriptor yL_drop.desc).map (fun d => d.parameters.length) = some 3 := by decide +kernel
theorem hdV_X11_drop : yX11_drop.cls = RX11 ∧ yX11_drop.cls ≠ "java/lang/invoke/MethodHandle" ∧ yX11_drop.cls ≠ "java/lang/invoke/VarHandle" ∧ (parseMethodDescriptor yX11_drop.desc).map (fun d => d.parameters.length) = some 1 := by decide +kernel
theorem hdS_L_silence : yL_silence.cls ≠ "java/lang/invoke/MethodHandle" ∧ yL_silence.cls ≠ "java/lang/invoke/VarHandle" ∧ (parseMethodDescriptor yL_silence.desc).map (fun d => d.parameters.length) = some 5 := by decide +kernel
theorem hdV_X11_silence : yX11_silence.cls = RX11 ∧ yX11_silence.cls ≠ "java/lang/invoke/MethodHandle" ∧ yX11_silence.cls ≠ "java/lang/invoke/VarHandle" ∧ (parseMethodDescriptor yX11_silence.desc).map (fun d => d.parameters.length) = some 3 := by decide +kernel
theorem hdS_L_inWindow : yL_inWindow.cls ≠ "java/lang/invoke/MethodHandle" ∧ yL_inWindow.cls ≠ "java/lang/invoke/VarHandle" ∧ (parseMethodDescriptor yL_inWindow.desc).map (fun d => d.parameters.length) = some 3 := by decide +kernel
theorem hdV_X11_inWindow : yX11_inWindow.cls = RX11 ∧ yX11_inWindow.cls ≠ "java/lang/invoke/MethodHandle" ∧ yX11_inWindow.cls ≠ "java/lang/invoke/VarHandle" ∧ (parseMethodDescriptor yX11_inWindow.desc).map (fun d => d.parameters.length) = some 1 := by decide +kernel
theorem hdS_L_rises : yL_rises.cls ≠ "java/lang/invoke/MethodHandle" ∧ yL_rises.cls ≠ "java/lang/invoke/VarHandle" ∧ (parseMethodDescriptor yL_rises.desc).map (fun d => d.parameters.length) = some 3 := by decide +kernel
theorem hdV_X11_rises : yX11_rises.cls = RX11 ∧ yX11_rises.cls ≠ "java/lang/invoke/MethodHandle" ∧ yX11_rises.cls ≠ "java/lang/invoke/VarHandle" ∧ (parseMethodDescriptor yX11_rises.desc).map (fun d => d.parameters.length) = some 1 := by decide +kernel
theorem hdS_L_risesAnew : yL_risesAnew.cls ≠ "java/lang/invoke/MethodHandle" ∧ yL_risesAnew.cls ≠ "java/lang/invoke/VarHandle" ∧ (parseMethodDescriptor yL_risesAnew.desc).map (fun d => d.parameters.length) = some 3 := by decide +kernel
theorem hdV_X11_risesAnew : yX11_risesAnew.cls = RX11 ∧ yX11_risesAnew.cls ≠ "java/lang/invoke/MethodHandle" ∧ yX11_risesAnew.cls ≠ "java/lang/invoke/VarHandle" ∧ (parseMethodDescriptor yX11_risesAnew.desc).map (fun d => d.parameters.length) = some 1 := by decide +kernel
theorem hdV_X10_alarms : yX10_alarms.cls = RX10 ∧ yX10_alarms.cls ≠ "java/lang/invoke/MethodHandle" ∧ yX10_alarms.cls ≠ "java/lang/invoke/VarHandle" ∧ (parseMethodDescriptor yX10_alarms.desc).map (fun d => d.parameters.length) = some 0 := by decide +kernel
theorem hdV_X11_alarms : yX11_alarms.cls = RX11 ∧ yX11_alarms.cls ≠ "java/lang/invoke/MethodHandle" ∧ yX11_alarms.cls ≠ "java/lang/invoke/VarHandle" ∧ (parseMethodDescriptor yX11_alarms.desc).map (fun d => d.parameters.length) = some 0 := by decide +kernel
theorem hdV_X10_waiting : yX10_waiting.cls = RX10 ∧ yX10_waiting.cls ≠ "java/lang/invoke/MethodHandle" ∧ yX10_waiting.cls ≠ "java/lang/invoke/VarHandle" ∧ (parseMethodDescriptor yX10_waiting.desc).map (fun d => d.parameters.length) = some 0 := by decide +kernel
theorem hdV_X11_waiting : yX11_waiting.cls = RX11 ∧ yX11_waiting.cls ≠ "java/lang/invoke/MethodHandle" ∧ yX11_waiting.cls ≠ "java/lang/invoke/VarHandle" ∧ (parseMethodDescriptor yX11_waiting.desc).map (fun d => d.parameters.length) = some 0 := by decide +kernel
theorem hdS_L_alarm : yL_alarm.cls ≠ "java/lang/invoke/MethodHandle" ∧ yL_alarm.cls ≠ "java/lang/invoke/VarHandle" ∧ (parseMethodDescriptor yL_alarm.desc).map (fun d => d.parameters.length) = some 3 := by decide +kernel
theorem hdV_X11_alarm : yX11_alarm.cls = RX11 ∧ yX11_alarm.cls ≠ "java/lang/invoke/MethodHandle" ∧ yX11_alarm.cls ≠ "java/lang/invoke/VarHandle" ∧ (parseMethodDescriptor yX11_alarm.desc).map (fun d => d.parameters.length) = some 1 := by decide +kernel
theorem hdS_L_woken : yL_woken.cls ≠ "java/lang/invoke/MethodHandle" ∧ yL_woken.cls ≠ "java/lang/invoke/VarHandle" ∧ (parseMethodDescriptor yL_woken.desc).map (fun d => d.parameters.length) = some 3 := by decide +kernel
theorem hdV_X11_woken : yX11_woken.cls = RX11 ∧ yX11_woken.cls ≠ "java/lang/invoke/MethodHandle" ∧ yX11_woken.cls ≠ "java/lang/invoke/VarHandle" ∧ (parseMethodDescriptor yX11_woken.desc).map (fun d => d.parameters.length) = some 1 := by decide +kernel
theorem hdS_L_wokenAt : yL_wokenAt.cls ≠ "java/lang/invoke/MethodHandle" ∧ yL_wokenAt.cls ≠ "java/lang/invoke/VarHandle" ∧ (parseMethodDescriptor yL_wokenAt.desc).map (fun d => d.parameters.length) = some 3 := by decide +kernel
theorem hdV_X11_wokenAt : yX11_wokenAt.cls = RX11 ∧ yX11_wokenAt.cls ≠ "java/lang/invoke/MethodHandle" ∧ yX11_wokenAt.cls ≠ "java/lang/invoke/VarHandle" ∧ (parseMethodDescriptor yX11_wokenAt.desc).map (fun d => d.parameters.length) = some 1 := by decide +kernel
theorem hdS_L_answer : yL_answer.cls ≠ "java/lang/invoke/MethodHandle" ∧ yL_answer.cls ≠ "java/lang/invoke/VarHandle" ∧ (parseMethodDescriptor yL_answer.desc).map (fun d => d.parameters.length) = some 4 := by decide +kernel
theorem hdV_X11_answer : yX11_answer.cls = RX11 ∧ yX11_answer.cls ≠ "java/lang/invoke/MethodHandle" ∧ yX11_answer.cls ≠ "java/lang/invoke/VarHandle" ∧ (parseMethodDescriptor yX11_answer.desc).map (fun d => d.parameters.length) = some 2 := by decide +kernel
theorem hdS_L_wouldRise : yL_wouldRise.cls ≠ "java/lang/invoke/MethodHandle" ∧ yL_wouldRise.cls ≠ "java/lang/invoke/VarHandle" ∧ (parseMethodDescriptor yL_wouldRise.desc).map (fun d => d.parameters.length) = some 3 := by decide +kernel
theorem hdV_X11_wouldRise : yX11_wouldRise.cls = RX11 ∧ yX11_wouldRise.cls ≠ "java/lang/invoke/MethodHandle" ∧ yX11_wouldRise.cls ≠ "java/lang/invoke/VarHandle" ∧ (parseMethodDescriptor yX11_wouldRise.desc).map (fun d => d.parameters.length) = some 1 := by decide +kernel
/-! rows of the law's own walk -/
def LX (Γ : Ga) (D : DD) (B b L : Nat) (xs : Nat → Int32) : Prop := Cx Γ RL cL_law 8 D B room_1 ∧ Γ.2.1.stackTraces = false ∧ KE B (Gs Γ) ∧ va_X b L xs (Gs Γ) (Gs Γ).heap ∧ b < B ∧ B = (Gs Γ).heap.size ∧ L ≤ 2560
abbrev L5 (B b j : Nat) : List (Nat × Value) := [(0, .ref b), (1, .ref (B + 0)), (2, .ref (B + 39)), (3, .ref (B + 70)), (4, .int (Int32.ofNat (5 * j)))]
theorem i32_ofNat {n : Nat} (h : n ≤ 2600) : (Int32.ofNat n).toInt = (n : Int) := Int32.toInt_ofNat_of_lt (by omega)
theorem i32_clamp {n : Nat} (h : n ≤ 2600) : (Int32.ofNat n).toNatClampNeg = n := by
  unfold Int32.toNatClampNeg
  rw [i32_ofNat h]
  rfl
theorem i32_pos {n : Nat} (h : n ≤ 2600) : ¬ Int32.ofNat n < 0 := by
  rw [Int32.lt_iff_toInt_lt, i32_ofNat h]
  show ¬ (n : Int) < 0
  omega
section LAWR
variable {Γ : Ga} {D : DD} {B b L : Nat} {xs : Nat → Int32} {Q : State → Prop} {k n : Nat} {σ : St} {pc : Nat} {lv : List (Nat × Value)} {st : List Value}
theorem l_load0 (X : LX Γ D B b L xs) (d : decode cL_law pc = .ok (.aload_n 0, 1)) (hv : lv[0]? = some (0, .ref b)) (kk : V Γ D B true 8 Q k n σ (pc + 1) lv (.ref b :: st)) : V Γ D B true 8 Q k n σ pc lv st :=
  fun H locs ls cs ss hP hS hl hk hn => lv_aload_n X.1.1 X.1.2.1 d rfl (lv_at hl 0 hv) (kk H locs ls cs ss hP hS hl hk hn)
theorem l_sld (X : LX Γ D B b L xs) {q : Nat} (hq : q < L) (d : decode cL_law pc = .ok (.iaload, 1)) (kk : V Γ D B true 8 Q k n σ (pc + 1) lv (.int (xs q) :: st)) : V Γ D B true 8 Q k n σ pc lv (.int (Int32.ofNat q) :: .ref b :: st) := by
  intro H locs ls cs ss hP hS hl hk hn
  have hL := X.2.2.2.2.2.2
  have h1 : (Int32.ofNat q).toNatClampNeg = q := i32_clamp (by omega)
  refine va_sld X.1.1 X.1.2.1 X.2.2.2.1 (by rw [← X.2.2.2.2.2.1]; exact X.2.2.2.2.1) (A := fun q => B ≤ q) (Nat.not_le.mpr X.2.2.2.2.1) hS (fun h => h.elim (i32_pos (by omega)) (fun h => by rw [h1] at h; omega)) d ?_
  rw [h1]
  exact kk H locs ls cs ss hP hS hl hk hn
theorem l_arg (X : LX Γ D B b L xs) {j q : Nat} {i : Int} (hi : Int32.ofInt i = Int32.ofNat q) (hq : 5 * j + q < L) (h0 : lv[0]? = some (0, .ref b)) (h4 : lv[4]? = some (4, .int (Int32.ofNat (5 * j)))) (d0 : decode cL_law pc = .ok (.aload_n 0, 1)) (d1 : decode cL_law (pc + 1) = .ok (.iload 4, 2)) (d3 : decode cL_law (pc + 3) = .ok (.iconst i, 1)) (d4 : decode cL_law (pc + 4) = .ok (.iadd, 1)) (d5 : decode cL_law (pc + 5) = .ok (.iaload, 1))
    (kk : V Γ D B true 8 Q k n σ (pc + 6) lv (.int (xs (5 * j + q)) :: st)) : V Γ D B true 8 Q k n σ pc lv st := by
  refine l_load0 X d0 h0 ?_
  refine r_iload X.1 d1 4 h4 ?_
  refine r_iconst (v := Int32.ofNat q) X.1 d3 hi ?_
  refine r_iadd X.1 d4 ?_
  rw [← Int32.ofNat_add]
  exact l_sld X hq d5 kk
theorem l_arg0 (X : LX Γ D B b L xs) {j : Nat} (hq : 5 * j < L) (h0 : lv[0]? = some (0, .ref b)) (h4 : lv[4]? = some (4, .int (Int32.ofNat (5 * j)))) (d0 : decode cL_law pc = .ok (.aload_n 0, 1)) (d1 : decode cL_law (pc + 1) = .ok (.iload 4, 2)) (d3 : decode cL_law (pc + 3) = .ok (.iaload, 1))
    (kk : V Γ D B true 8 Q k n σ (pc + 4) lv (.int (xs (5 * j)) :: st)) : V Γ D B true 8 Q k n σ pc lv st := by
  refine l_load0 X d0 h0 ?_
  refine r_iload X.1 d1 4 h4 ?_
  exact l_sld X hq d3 kk
theorem l_len (X : LX Γ D B b L xs) (d : decode cL_law pc = .ok (.arraylength, 1)) (kk : V Γ D B true 8 Q k n σ (pc + 1) lv (.int (Int32.ofNat L) :: st)) : V Γ D B true 8 Q k n σ pc lv (.ref b :: st) :=
  fun H locs ls cs ss hP hS hl hk hn => va_slen X.1.1 X.1.2.1 X.2.2.2.1 (by rw [← X.2.2.2.2.2.1]; exact X.2.2.2.2.1) (A := fun q => B ≤ q) (Nat.not_le.mpr X.2.2.2.2.1) hS d (kk H locs ls cs ss hP hS hl hk hn)
/-- one of the law's own methods -/
theorem l_wrap (X : LX Γ D B b L xs) {idx maxL fr lo : Nat} {y : MethodName} {bytes : ByteArray} {hh : List (Nat × Nat × Nat × Nat)} {as : Nat → List Value} {σ1 : St} {r : Int32} {As : List Value} (hC : CW y (Cond.codeWith y bytes maxL (some .int) hh) fr lo as σ r σ1) (has : as B = As)
    (hml : Cond.methodLink RL idx y ∈ WT) (hstt : Cond.static y ∈ WT) (hini : Cond.initialized y.cls ∈ WT) (hco : Cond.codeWith y bytes maxL (some .int) hh ∈ WT) (hd : y.cls ≠ "java/lang/invoke/MethodHandle" ∧ y.cls ≠ "java/lang/invoke/VarHandle" ∧ (parseMethodDescriptor y.desc).map (fun d => d.parameters.length) = some As.length)
    (hR : fr + 1 ≤ 2048 ∧ 8 + (maxL + 11) + lo ≤ 84000) (hk1 : k + 64 ≤ 601024) (hn1 : n + 768 ≤ 7293034) (hrm : (st.map fun v => v.category).sum ≤ 8) (d : decode cL_law pc = .ok (.invokestatic idx, 3)) {pre : List Value} (hpre : pre = As.reverse ++ st)
    (kk : ∀ n', sz σ1 ≤ n' → V Γ D B true 8 Q (k + 64) (n + 768) (sz' σ1 n') (pc + 3) lv (.int r :: st)) : V Γ D B true 8 Q k n σ pc lv pre := by
  subst hpre
  intro H locs ls cs ss hP hS hl hk hn
  have hR9 := X.1.2.2.2.2.2.2.2.2
  have hX := X.1
  have hr := vx_runSX (hh := hh) (bytes := bytes) (maxL := maxL) (As := As) (rest := st) (g := F0 (Gm Γ) pc ls (As.reverse ++ st)) (H := H) (locs := locs) (cells := cs) (slots := ss) (below := Gb Γ) (meth := Gme Γ) (e := Γ.2.2.1) (R := GR Γ) ⟨hX.1, hX.2.1, hX.2.2.1, hX.2.2.2.1, hX.2.2.2.2.1⟩ (hC Γ.2.1 D B X.2.1) (vx_cwSW As.length hX.2.2.2.2.1 (WT_cons hml (WT_cons hstt (WT_cons hini (WT_call hco)))) rfl rfl rfl hd ⟨by show fr + 1 ≤ (GR Γ).frames; rw [hR9]; exact hR.1, by show 8 + (maxL + 11) + lo ≤ (GR Γ).locals; rw [hR9]; exact hR.2⟩) ⟨blindX, fun U hU hW => ⟨by rw [has], by rw [hU]; exact hP, KK.moved hW hX.2.2.2.2.2.1, KE.to hW X.2.2.1 (by rw [hU]; exact hS)⟩⟩ rfl rfl hl.1 rfl (lv_room hrm) d ⟨by show cs + 64 ≤ (GR Γ).cells; rw [hR9]; show cs + 64 ≤ 601024; omega, by show ss + 768 ≤ (GR Γ).slots; rw [hR9]; show ss + 768 ≤ 7293034; omega⟩
  intro T hT X2
  rcases hr T hT X2 with ⟨v2, st₀, t, T', Lo, h0, X', hL, e1, e2, ⟨ho, ⟨n', hn', hp⟩, hz, hk2⟩, stp⟩ | ⟨q, st₀, t, T', Lo, E, ce, h0, X', hL, e1, e2, hQ, -⟩
  · cases ho
    rw [h0] at hz hk2
    obtain ⟨t2, a1, b1⟩ := kk n' hn' T'.heap (locs ++ Lo) ls (cs + 64) (ss + 768) (by rw [e1]; exact hp) ⟨Nat.le_trans hS.1 (by rw [e1]; exact hz), fun q h1 h2 => by rw [e1, hk2 q (Nat.lt_of_lt_of_le h1 hS.1) h2]; exact hS.2.1 q h1 h2, fun q hq => by
      rcases List.mem_append.mp hq with h | h
      · exact hS.2.2 q h
      · exact hL q h⟩ hl (by omega) (by omega) T' rfl X'
    exact ⟨t2, stp t2 a1, b1⟩
  · exact hQ.elim
/-- a thrower that answers -/
theorem l_callX (X : LX Γ D B b L xs) {idx maxL fr lo a : Nat} {C : String} {y : MethodName} {bytes : ByteArray} {ret : Option FieldType} {as : Nat → List Value} {v : Nat → Option Value} {σ1 : St} {As : List Value} (hC : CX true y (Cond.code y bytes maxL ret) fr lo 64 768 as σ (fun B => .inl (v B)) σ1 64 768) (has : as B = .ref (B + a) :: As)
    (hml : Cond.methodLink RL idx y ∈ WT) (hin : Cond.instanceMethod y ∈ WT) (hse : Cond.selects C y y ∈ WT) (hini : Cond.initialized C ∈ WT) (hco : Cond.code y bytes maxL ret ∈ WT) (hd : y.cls = C ∧ y.cls ≠ "java/lang/invoke/MethodHandle" ∧ y.cls ≠ "java/lang/invoke/VarHandle" ∧ (parseMethodDescriptor y.desc).map (fun d => d.parameters.length) = some As.length) (hrc : Rc D B true σ C a)
    (hR : fr + 1 ≤ 2048 ∧ 8 + (maxL + 11) + lo ≤ 84000) (hk1 : k + 64 ≤ 601024) (hn1 : n + 768 ≤ 7293034) (hrm : (st.map fun v => v.category).sum ≤ 8) (d : decode cL_law pc = .ok (.invokevirtual idx, 3)) {pre : List Value} (hpre : pre = As.reverse ++ .ref (B + a) :: st)
    (kk : V Γ D B true 8 Q (k + 64) (n + 768) σ1 (pc + 3) lv ((v B).toList ++ st)) : V Γ D B true 8 Q k n σ pc lv pre := by
  subst hpre
  intro H locs ls cs ss hP hS hl hk hn
  have hR9 := X.1.2.2.2.2.2.2.2.2
  have hX := X.1
  obtain ⟨ci, N, T, fs, hcl, hat⟩ := hrc
  refine w_callX hP hS (vz_runV (rc := 64) (rs := 768) (As := As) (rest := st) ⟨hX.1, hX.2.1, hX.2.2.1, hX.2.2.2.1, hX.2.2.2.2.1⟩ (hC Γ.2.1 D B X.2.1) (cwV As.length hX.2.2.2.2.1 (WT_cons hml (WT_cons hin (WT_cons hse (WT_cons hini (WT_call hco))))) rfl rfl rfl hd ⟨by show fr + 1 ≤ (GR Γ).frames; rw [hR9]; exact hR.1, by show 8 + (maxL + 11) + lo ≤ (GR Γ).locals; rw [hR9]; exact hR.2⟩) ⟨blindX, recv hX.2.2.2.2.2.1.1 hcl (hat H hP), fun U hU hW => ⟨by rw [has], by rw [hU]; exact hP, KK.moved hW hX.2.2.2.2.2.1, KE.to hW X.2.2.1 (by rw [hU]; exact hS)⟩⟩ rfl rfl hl.1 rfl (lv_room hrm) d ⟨by show cs + 64 ≤ (GR Γ).cells; rw [hR9]; show cs + 64 ≤ 601024; omega, by show ss + 768 ≤ (GR Γ).slots; rw [hR9]; show ss + 768 ≤ 7293034; omega⟩) (fun v9 hv H1 locs1 hsz hP1 hS1 => ?_) (fun E hE => by cases hE)
  cases hv
  exact kk H1 locs1 ls _ _ hP1 hS1 hl (by omega) (by omega)
theorem l_eq (X : LX Γ D B b L xs) {x y : Int32} {off : Int} {tgt : Nat} (h : x = y) (d : decode cL_law pc = .ok (.if_icmp .eq off, 3)) (ht : (pc : Int) + off = (tgt : Int)) (kk : V Γ D B true 8 Q k n σ tgt lv st) : V Γ D B true 8 Q k n σ pc lv (.int y :: .int x :: st) :=
  fun H locs ls cs ss hP hS hl hk hn => lv_icmp_eq X.1.1 X.1.2.1 d ht (fun _ => kk H locs ls cs ss hP hS hl hk hn) (fun e => absurd h e)
theorem l_ne (X : LX Γ D B b L xs) {x : Int32} {off : Int} {tgt : Nat} (d : decode cL_law pc = .ok (.ifCond .ne off, 3)) (ht : (pc : Int) + off = (tgt : Int)) (k1 : ¬ x = 0 → V Γ D B true 8 Q k n σ tgt lv st) (k2 : x = 0 → V Γ D B true 8 Q k n σ (pc + 3) lv st) : V Γ D B true 8 Q k n σ pc lv (.int x :: st) :=
  fun H locs ls cs ss hP hS hl hk hn => lv_if_ne X.1.1 X.1.2.1 d ht (fun h => k1 h H locs ls cs ss hP hS hl hk hn) (fun h => k2 h H locs ls cs ss hP hS hl hk hn)
theorem l_eq0 (X : LX Γ D B b L xs) {x : Int32} {off : Int} {tgt : Nat} (d : decode cL_law pc = .ok (.ifCond .eq off, 3)) (ht : (pc : Int) + off = (tgt : Int)) (k1 : x = 0 → V Γ D B true 8 Q k n σ tgt lv st) (k2 : ¬ x = 0 → V Γ D B true 8 Q k n σ (pc + 3) lv st) : V Γ D B true 8 Q k n σ pc lv (.int x :: st) :=
  fun H locs ls cs ss hP hS hl hk hn => lv_if_eq X.1.1 X.1.2.1 d ht (fun h => k1 h H locs ls cs ss hP hS hl hk hn) (fun h => k2 h H locs ls cs ss hP hS hl hk hn)
theorem l_lcmp (X : LX Γ D B b L xs) {x y : Int64} {off : Int} {tgt : Nat} (h : x = y) (d : decode cL_law pc = .ok (.lcmp, 1)) (d2 : decode cL_law (pc + 1) = .ok (.ifCond .eq off, 3)) (ht : ((pc + 1 : Nat) : Int) + off = (tgt : Int)) (kk : V Γ D B true 8 Q k n σ tgt lv st) : V Γ D B true 8 Q k n σ pc lv (.long y :: .long x :: st) :=
  b_lcmp_eq X.1 (a := 0) (b := 1) (z := 0) d d2 ht (if_pos h) (fun _ => kk) (fun h => by cases h)
theorem l_out (X : LX Γ D B b L xs) (d : decode cL_law pc = .ok (.laload, 1)) (kk : V Γ D B true 8 Q k n σ (pc + 1) lv (.long (gJ σ 70 0) :: st)) : V Γ D B true 8 Q k n σ pc lv (.int 0 :: .ref (B + 70) :: st) :=
  b_lald X.1 (K := fun j => if j = 0 then some () else none) (z := ()) ce_70 d (by decide) (fun j hj => by
    by_cases h : j = 0
    · subst h; exact kk
    · simp [h] at hj)
end LAWR
def B_type (F : Nat) (Inv : St → Prop) : Prop := ∀ σ, Inv σ → ∀ a1 : Int32, ∃ k σ1, f_L_type F σ (((a1).toUInt32 % 65536).toInt32) = some (k, σ1) ∧ ∀ n, sz σ1 ≤ n → ∃ b σ2, f_M_type F (sz' σ1 n) (((a1).toUInt32 % 65536).toInt32) = some (b, σ2) ∧ gI σ2 2551 = k ∧ (k = 0 → gJ σ2 70 0 = b.toInt64) ∧ Inv σ2
def B_clearText (F : Nat) (Inv : St → Prop) : Prop := ∀ σ, Inv σ → ∃ r σ1, f_P_clearText F σ = some (r, σ1) ∧ ∃ σ2, f_M_clearText F σ1 = some (r, σ2) ∧ Inv σ2
def B_errorAt (F : Nat) (Inv : St → Prop) : Prop := ∀ σ, Inv σ → ∃ r σ1, f_P_errorAt F (sz σ + 64) σ = some (.inl r, σ1) ∧ ∃ σ2, f_M_errorAt F σ1 = some (r, σ2) ∧ Inv σ2
def B_ask (F : Nat) (Inv : St → Prop) : Prop := ∀ σ, Inv σ → ∀ a1 a2 : Int32, ∃ k σ1, f_L_ask F σ (a1) (a2) = some (k, σ1) ∧ ∀ n, sz σ1 ≤ n → ∃ b σ2, f_M_ask F (sz' σ1 n) (a1) (a2) = some (b, σ2) ∧ gI σ2 2551 = k ∧ (k = 0 → gJ σ2 70 0 = b) ∧ Inv σ2
def B_askByCodes (F : Nat) (Inv : St → Prop) : Prop := ∀ σ, Inv σ → ∀ a1 a2 : Int32, ∃ k σ1, f_L_askByCodes F σ (a1) (a2) = some (k, σ1) ∧ ∀ n, sz σ1 ≤ n → ∃ b σ2, f_M_askByCodes F (sz' σ1 n) (a1) (a2) = some (b, σ2) ∧ gI σ2 2551 = k ∧ (k = 0 → gJ σ2 70 0 = b) ∧ Inv σ2
def B_pass (F : Nat) (Inv : St → Prop) : Prop := ∀ σ, Inv σ → ∀ a1 : Int32, ∃ k σ1, f_L_pass F σ (a1) = some (k, σ1) ∧ ∀ n, sz σ1 ≤ n → ∃ b σ2, f_M_pass F (sz' σ1 n) (a1) = some (b, σ2) ∧ gI σ2 2551 = k ∧ (k = 0 → gJ σ2 70 0 = b.toInt64) ∧ Inv σ2
def B_now (F : Nat) (Inv : St → Prop) : Prop := ∀ σ, Inv σ → ∃ r σ1, f_P_now F σ = some (r, σ1) ∧ ∃ σ2, f_M_now F σ1 = some (r, σ2) ∧ Inv σ2
def B_log (F : Nat) (Inv : St → Prop) : Prop := ∀ σ, Inv σ → ∀ a1 a2 a3 a4 : Int32, ∃ k σ1, f_L_log F σ (a1) (a2) (a3) (a4) = some (k, σ1) ∧ ∀ n, sz σ1 ≤ n → ∃ b σ2, f_M_log F (sz' σ1 n) (a1) (a2) (a3) (a4) = some (b, σ2) ∧ gI σ2 2551 = k ∧ (k = 0 → gJ σ2 70 0 = b.toInt64) ∧ Inv σ2
def B_addPerson (F : Nat) (Inv : St → Prop) : Prop := ∀ σ, Inv σ → ∃ k σ1, f_L_addPerson F σ  = some (k, σ1) ∧ ∀ n, sz σ1 ≤ n → ∃ b σ2, f_M_addPerson F (sz' σ1 n)  = some (b, σ2) ∧ gI σ2 2551 = k ∧ (k = 0 → gJ σ2 70 0 = b.toInt64) ∧ Inv σ2
def B_off (F : Nat) (Inv : St → Prop) : Prop := ∀ σ, Inv σ → ∀ a1 a2 : Int32, ∃ k σ1, f_L_off F σ (a1) (a2) = some (k, σ1) ∧ ∀ n, sz σ1 ≤ n → ∃ b σ2, f_M_off F (sz' σ1 n) (a1) (a2) = some (b, σ2) ∧ gI σ2 2551 = k ∧ (k = 0 → gJ σ2 70 0 = if b = 0 then 0 else 1) ∧ Inv σ2
def B_swap (F : Nat) (Inv : St → Prop) : Prop := ∀ σ, Inv σ → ∀ a1 a2 : Int32, ∃ k σ1, f_L_swap F σ (a1) (a2) = some (k, σ1) ∧ ∀ n, sz σ1 ≤ n → ∃ σ2, f_M_swap F (sz' σ1 n) (a1) (a2) = some σ2 ∧ gI σ2 2551 = k ∧ True ∧ Inv σ2
def B_planned (F : Nat) (Inv : St → Prop) : Prop := ∀ σ, Inv σ → ∀ a1 : Int32, ∃ k σ1, f_L_planned F σ (a1) = some (k, σ1) ∧ ∀ n, sz σ1 ≤ n → ∃ b σ2, f_M_planned F (sz' σ1 n) (a1) = some (b, σ2) ∧ gI σ2 2551 = k ∧ (k = 0 → gJ σ2 70 0 = b.toInt64) ∧ Inv σ2
def B_next (F : Nat) (Inv : St → Prop) : Prop := ∀ σ, Inv σ → ∃ r σ1, f_P_next F σ = some (r, σ1) ∧ ∃ σ2, f_M_next F σ1 = some (r, σ2) ∧ Inv σ2
def B_holder (F : Nat) (Inv : St → Prop) : Prop := ∀ σ, Inv σ → ∀ a1 : Int32, ∃ k σ1, f_L_holder F σ (a1) = some (k, σ1) ∧ ∀ n, sz σ1 ≤ n → ∃ b σ2, f_M_holder F (sz' σ1 n) (a1) = some (b, σ2) ∧ gI σ2 2551 = k ∧ (k = 0 → gJ σ2 70 0 = b.toInt64) ∧ Inv σ2
def B_nights (F : Nat) (Inv : St → Prop) : Prop := ∀ σ, Inv σ → ∀ a1 : Int32, ∃ k σ1, f_L_nights F σ (a1) = some (k, σ1) ∧ ∀ n, sz σ1 ≤ n → ∃ b σ2, f_M_nights F (sz' σ1 n) (a1) = some (b, σ2) ∧ gI σ2 2551 = k ∧ (k = 0 → gJ σ2 70 0 = b.toInt64) ∧ Inv σ2
def B_owes (F : Nat) (Inv : St → Prop) : Prop := ∀ σ, Inv σ → ∀ a1 a2 : Int32, ∃ k σ1, f_L_owes F σ (a1) (a2) = some (k, σ1) ∧ ∀ n, sz σ1 ≤ n → ∃ b σ2, f_M_owes F (sz' σ1 n) (a1) (a2) = some (b, σ2) ∧ gI σ2 2551 = k ∧ (k = 0 → gJ σ2 70 0 = b.toInt64) ∧ Inv σ2
def B_addRule (F : Nat) (Inv : St → Prop) : Prop := ∀ σ, Inv σ → ∀ a1 a2 a3 : Int32, ∃ k σ1, f_L_addRule F σ (a1) (a2) (a3) = some (k, σ1) ∧ ∀ n, sz σ1 ≤ n → ∃ b σ2, f_M_addRule F (sz' σ1 n) (a1) (a2) (a3) = some (b, σ2) ∧ gI σ2 2551 = k ∧ (k = 0 → gJ σ2 70 0 = b.toInt64) ∧ Inv σ2
def B_drop (F : Nat) (Inv : St → Prop) : Prop := ∀ σ, Inv σ → ∀ a1 : Int32, ∃ k σ1, f_L_drop F σ (a1) = some (k, σ1) ∧ ∀ n, sz σ1 ≤ n → ∃ b σ2, f_M_drop F (sz' σ1 n) (a1) = some (b, σ2) ∧ gI σ2 2551 = k ∧ (k = 0 → gJ σ2 70 0 = b.toInt64) ∧ Inv σ2
def B_silence (F : Nat) (Inv : St → Prop) : Prop := ∀ σ, Inv σ → ∀ a1 a2 a3 : Int32, ∃ k σ1, f_L_silence F σ (a1) (a2) (a3) = some (k, σ1) ∧ ∀ n, sz σ1 ≤ n → ∃ b σ2, f_M_silence F (sz' σ1 n) (a1) (a2) (a3) = some (b, σ2) ∧ gI σ2 2551 = k ∧ (k = 0 → gJ σ2 70 0 = b.toInt64) ∧ Inv σ2
def B_inWindow (F : Nat) (Inv : St → Prop) : Prop := ∀ σ, Inv σ → ∀ a1 : Int32, ∃ k σ1, f_L_inWindow F σ (a1) = some (k, σ1) ∧ ∀ n, sz σ1 ≤ n → ∃ b σ2, f_M_inWindow F (sz' σ1 n) (a1) = some (b, σ2) ∧ gI σ2 2551 = k ∧ (k = 0 → gJ σ2 70 0 = b.toInt64) ∧ Inv σ2
def B_rises (F : Nat) (Inv : St → Prop) : Prop := ∀ σ, Inv σ → ∀ a1 : Int32, ∃ k σ1, f_L_rises F σ (a1) = some (k, σ1) ∧ ∀ n, sz σ1 ≤ n → ∃ b σ2, f_M_rises F (sz' σ1 n) (a1) = some (b, σ2) ∧ gI σ2 2551 = k ∧ (k = 0 → gJ σ2 70 0 = b.toInt64) ∧ Inv σ2
def B_risesAnew (F : Nat) (Inv : St → Prop) : Prop := ∀ σ, Inv σ → ∀ a1 : Int32, ∃ k σ1, f_L_risesAnew F σ (a1) = some (k, σ1) ∧ ∀ n, sz σ1 ≤ n → ∃ b σ2, f_M_risesAnew F (sz' σ1 n) (a1) = some (b, σ2) ∧ gI σ2 2551 = k ∧ (k = 0 → gJ σ2 70 0 = b.toInt64) ∧ Inv σ2
def B_alarms (F : Nat) (Inv : St → Prop) : Prop := ∀ σ, Inv σ → ∃ r σ1, f_P_alarms F σ = some (r, σ1) ∧ ∃ σ2, f_M_alarms F σ1 = some (r, σ2) ∧ Inv σ2
def B_waiting (F : Nat) (Inv : St → Prop) : Prop := ∀ σ, Inv σ → ∃ r σ1, f_P_waiting F σ = some (r, σ1) ∧ ∃ σ2, f_M_waiting F σ1 = some (r, σ2) ∧ Inv σ2
def B_alarm (F : Nat) (Inv : St → Prop) : Prop := ∀ σ, Inv σ → ∀ a1 : Int32, ∃ k σ1, f_L_alarm F σ (a1) = some (k, σ1) ∧ ∀ n, sz σ1 ≤ n → ∃ b σ2, f_M_alarm F (sz' σ1 n) (a1) = some (b, σ2) ∧ gI σ2 2551 = k ∧ (k = 0 → gJ σ2 70 0 = b.toInt64) ∧ Inv σ2
def B_woken (F : Nat) (Inv : St → Prop) : Prop := ∀ σ, Inv σ → ∀ a1 : Int32, ∃ k σ1, f_L_woken F σ (a1) = some (k, σ1) ∧ ∀ n, sz σ1 ≤ n → ∃ b σ2, f_M_woken F (sz' σ1 n) (a1) = some (b, σ2) ∧ gI σ2 2551 = k ∧ (k = 0 → gJ σ2 70 0 = b.toInt64) ∧ Inv σ2
def B_wokenAt (F : Nat) (Inv : St → Prop) : Prop := ∀ σ, Inv σ → ∀ a1 : Int32, ∃ k σ1, f_L_wokenAt F σ (a1) = some (k, σ1) ∧ ∀ n, sz σ1 ≤ n → ∃ b σ2, f_M_wokenAt F (sz' σ1 n) (a1) = some (b, σ2) ∧ gI σ2 2551 = k ∧ (k = 0 → gJ σ2 70 0 = b.toInt64) ∧ Inv σ2
def B_answer (F : Nat) (Inv : St → Prop) : Prop := ∀ σ, Inv σ → ∀ a1 a2 : Int32, ∃ k σ1, f_L_answer F σ (a1) (if a2 = 0 then (0 : Int32) else 1) = some (k, σ1) ∧ ∀ n, sz σ1 ≤ n → ∃ b σ2, f_M_answer F (sz' σ1 n) (a1) (if a2 = 0 then (0 : Int32) else 1) = some (b, σ2) ∧ gI σ2 2551 = k ∧ (k = 0 → gJ σ2 70 0 = b.toInt64) ∧ Inv σ2
def B_wouldRise (F : Nat) (Inv : St → Prop) : Prop := ∀ σ, Inv σ → ∀ a1 : Int32, ∃ k σ1, f_L_wouldRise F σ (a1) = some (k, σ1) ∧ ∀ n, sz σ1 ≤ n → ∃ b σ2, f_M_wouldRise F (sz' σ1 n) (a1) = some (b, σ2) ∧ gI σ2 2551 = k ∧ (k = 0 → gJ σ2 70 0 = if b = 0 then 0 else 1) ∧ Inv σ2
section LAWC
variable {Γ : Ga} {D : DD} {B b L : Nat} {xs : Nat → Int32} {Q : State → Prop}
set_option maxHeartbeats 1000000 in
theorem lc_0 (X : LX Γ D B b L xs) {F : Nat} {Inv : St → Prop} {j : Nat} (hj : 5 * j + 5 ≤ L) (hop : B_type F Inv) {σ : St} (hI : Inv σ) {k n : Nat} (hk : k + 64 ≤ 601024) (hn : n + 768 ≤ 7293034) (kk : ∀ σ', Inv σ' → V Γ D B true 8 Q (k + 64) (n + 768) σ' 1688 (L5 B b j) []) : V Γ D B true 8 Q k n σ 168 (L5 B b j) [] := by
  have hk0 : k + 64 + 0 ≤ room_1.cells := hk
  have hn0 : n + 768 + 0 ≤ room_1.slots := hn
  refine r_aload_n (x := some 0) (pc := 168) X.1 dL_law_168 1 rfl ?_
  refine l_arg (pc := 169) (j := j) (q := 1) X rfl (by omega) rfl rfl dL_law_169 dL_law_170 dL_law_172 dL_law_173 dL_law_174 ?_
  refine r_i2c (pc := 175) X.1 dL_law_175 ?_
  refine r_aload_n (x := some 70) (pc := 176) X.1 dL_law_176 3 rfl ?_
  obtain ⟨k1, σ1, h1, h2⟩ := hop σ hI (xs (5 * j + 1))
  refine l_wrap (As := [.ref (B + 0), .int (((xs (5 * j + 1)).toUInt32 % 65536).toInt32), .ref (B + 70)]) (st := []) (pc := 177) X (c_L_type h1) rfl w_491 w_492 w_73 w_493 hdS_L_type (by decide) hk hn (Nat.le_of_ble_eq_true rfl) dL_law_177 rfl (fun n9 hn9 => ?_)
  obtain ⟨b1, σ2, h2, h3, h4, h5⟩ := h2 n9 hn9
  refine r_istore (pc := 180) (lv' := [(0, .ref b), (1, .ref (B + 0)), (2, .ref (B + 39)), (3, .ref (B + 70)), (4, .int (Int32.ofNat (5 * j))), (5, .int k1)]) X.1 dL_law_180 (by decide) [1, 2, 3, 4, 5, 0] rfl ?_
  refine r_aload_n (x := some 39) (pc := 182) X.1 dL_law_182 2 rfl ?_
  refine l_arg (pc := 183) (j := j) (q := 1) X rfl (by omega) rfl rfl dL_law_183 dL_law_184 dL_law_186 dL_law_187 dL_law_188 ?_
  refine r_i2c (pc := 189) X.1 dL_law_189 ?_
  refine r_callVi (As := [.int (((xs (5 * j + 1)).toUInt32 % 65536).toInt32)]) (st := []) (pc := 190) X.1 (c_f_M_type h2) rfl w_1253 w_1254 w_1255 w_84 w_1256 hdV_X11_type (Rc.s rfl ce_39) (by decide) hk0 hn0 (Nat.le_of_ble_eq_true rfl) dL_law_190 rfl ?_
  refine r_istore (pc := 193) (lv' := [(0, .ref b), (1, .ref (B + 0)), (2, .ref (B + 39)), (3, .ref (B + 70)), (4, .int (Int32.ofNat (5 * j))), (5, .int k1), (6, .int b1)]) X.1 dL_law_193 (by decide) [1, 2, 3, 4, 5, 6, 0] rfl ?_
  refine r_aload_n (x := some 39) (pc := 195) X.1 dL_law_195 2 rfl ?_
  refine r_callVi (As := []) (st := []) (pc := 196) X.1 (c_f_M_thrown (F := F) (s := σ2) rfl) rfl w_1249 w_1250 w_1251 w_84 w_1252 hdV_X11_thrown (Rc.s rfl ce_39) (by decide) hk0 hn0 (Nat.le_of_ble_eq_true rfl) dL_law_196 rfl ?_
  refine r_iload (pc := 199) X.1 dL_law_199 5 rfl ?_
  refine l_eq (tgt := 206) (pc := 201) X h3 dL_law_201 (by decide) ?_
  refine r_iload (pc := 206) X.1 dL_law_206 5 rfl ?_
  refine l_ne (tgt := 223) (pc := 208) X dL_law_208 (by decide) (fun hz => ?_) (fun hz => ?_)
  · refine r_goto (tgt := 1688) (pc := 223) X.1 dL_law_223 (by decide) ?_
    exact r_forget [0, 1, 2, 3, 4] rfl (kk σ2 h5)
  · refine r_aload_n (x := some 70) (pc := 211) X.1 dL_law_211 3 rfl ?_
    refine r_iconst (v := 0) (pc := 212) X.1 dL_law_212 (by decide) ?_
    refine l_out (pc := 213) X dL_law_213 ?_
    refine r_iload (pc := 214) X.1 dL_law_214 6 rfl ?_
    refine r_i2l (pc := 216) X.1 dL_law_216 ?_
    refine l_lcmp (tgt := 223) (pc := 217) X (h4 hz) dL_law_217 dL_law_218 (by decide) ?_
    refine r_goto (tgt := 1688) (pc := 223) X.1 dL_law_223 (by decide) ?_
    exact r_forget [0, 1, 2, 3, 4] rfl (kk σ2 h5)
set_option maxHeartbeats 1000000 in
theorem lc_1 (X : LX Γ D B b L xs) {F : Nat} {Inv : St → Prop} {j : Nat} (hj : 5 * j + 5 ≤ L) (hop : B_clearText F Inv) {σ : St} (hI : Inv σ) {k n : Nat} (hk : k + 64 ≤ 601024) (hn : n + 768 ≤ 7293034) (kk : ∀ σ', Inv σ' → V Γ D B true 8 Q (k + 64) (n + 768) σ' 1688 (L5 B b j) []) : V Γ D B true 8 Q k n σ 226 (L5 B b j) [] := by
  have hk0 : k + 64 + 0 ≤ room_1.cells := hk
  have hn0 : n + 768 + 0 ≤ room_1.slots := hn
  refine r_aload_n (x := some 0) (pc := 226) X.1 dL_law_226 1 rfl ?_
  refine V.mono (Nat.le_add_right k 64) (Nat.le_add_right n 768) ?_
  obtain ⟨r1, σ1, h1, σ2, h2, h3⟩ := hop σ hI
  refine r_callVi (As := []) (st := []) (pc := 227) X.1 (c_f_P_clearText h1) rfl w_356 w_357 w_358 w_74 w_359 hdV_X10_clearText (Rc.s rfl ce_0) (by decide) hk0 hn0 (Nat.le_of_ble_eq_true rfl) dL_law_227 rfl ?_
  refine r_aload_n (x := some 39) (pc := 230) X.1 dL_law_230 2 rfl ?_
  refine r_callVi (As := []) (st := [.int r1]) (pc := 231) X.1 (c_f_M_clearText h2) rfl w_1264 w_1265 w_1266 w_84 w_1267 hdV_X11_clearText (Rc.s rfl ce_39) (by decide) hk0 hn0 (Nat.le_of_ble_eq_true rfl) dL_law_231 rfl ?_
  exact l_eq (tgt := 1688) (pc := 234) X rfl dL_law_234 (by decide) (kk σ2 h3)
set_option maxHeartbeats 1000000 in
theorem lc_2 (X : LX Γ D B b L xs) {F : Nat} {Inv : St → Prop} {j : Nat} (hj : 5 * j + 5 ≤ L) (hop : B_errorAt F Inv) {σ : St} (hI : Inv σ) {k n : Nat} (hk : k + 64 ≤ 601024) (hn : n + 768 ≤ 7293034) (kk : ∀ σ', Inv σ' → V Γ D B true 8 Q (k + 64) (n + 768) σ' 1688 (L5 B b j) []) : V Γ D B true 8 Q k n σ 239 (L5 B b j) [] := by
  have hk0 : k + 64 + 0 ≤ room_1.cells := hk
  have hn0 : n + 768 + 0 ≤ room_1.slots := hn
  refine r_aload_n (x := some 0) (pc := 239) X.1 dL_law_239 1 rfl ?_
  obtain ⟨r1, σ1, h1, σ2, h2, h3⟩ := hop σ hI
  refine l_callX (v := fun _ => some (.int r1)) (As := []) (st := []) (pc := 240) X (c_f_P_errorAt h1) rfl w_360 w_361 w_362 w_74 w_363 hdV_X10_errorAt (Rc.s rfl ce_0) (by decide) hk hn (Nat.le_of_ble_eq_true rfl) dL_law_240 rfl ?_
  refine r_aload_n (x := some 39) (pc := 243) X.1 dL_law_243 2 rfl ?_
  refine r_callVi (As := []) (st := [.int r1]) (pc := 244) X.1 (c_f_M_errorAt h2) rfl w_1268 w_1269 w_1270 w_84 w_1271 hdV_X11_errorAt (Rc.s rfl ce_39) (by decide) hk0 hn0 (Nat.le_of_ble_eq_true rfl) dL_law_244 rfl ?_
  exact l_eq (tgt := 1688) (pc := 247) X rfl dL_law_247 (by decide) (kk σ2 h3)
set_option maxHeartbeats 1000000 in
theorem lc_3 (X : LX Γ D B b L xs) {F : Nat} {Inv : St → Prop} {j : Nat} (hj : 5 * j + 5 ≤ L) (hop : B_ask F Inv) {σ : St} (hI : Inv σ) {k n : Nat} (hk : k + 64 ≤ 601024) (hn : n + 768 ≤ 7293034) (kk : ∀ σ', Inv σ' → V Γ D B true 8 Q (k + 64) (n + 768) σ' 1688 (L5 B b j) []) : V Γ D B true 8 Q k n σ 252 (L5 B b j) [] := by
  have hk0 : k + 64 + 0 ≤ room_1.cells := hk
  have hn0 : n + 768 + 0 ≤ room_1.slots := hn
  refine r_aload_n (x := some 0) (pc := 252) X.1 dL_law_252 1 rfl ?_
  refine l_arg (pc := 253) (j := j) (q := 1) X rfl (by omega) rfl rfl dL_law_253 dL_law_254 dL_law_256 dL_law_257 dL_law_258 ?_
  refine l_arg (pc := 259) (j := j) (q := 2) X rfl (by omega) rfl rfl dL_law_259 dL_law_260 dL_law_262 dL_law_263 dL_law_264 ?_
  refine r_aload_n (x := some 70) (pc := 265) X.1 dL_law_265 3 rfl ?_
  obtain ⟨k1, σ1, h1, h2⟩ := hop σ hI (xs (5 * j + 1)) (xs (5 * j + 2))
  refine l_wrap (As := [.ref (B + 0), .int (xs (5 * j + 1)), .int (xs (5 * j + 2)), .ref (B + 70)]) (st := []) (pc := 266) X (c_L_ask h1) rfl w_585 w_586 w_73 w_587 hdS_L_ask (by decide) hk hn (Nat.le_of_ble_eq_true rfl) dL_law_266 rfl (fun n9 hn9 => ?_)
  obtain ⟨b1, σ2, h2, h3, h4, h5⟩ := h2 n9 hn9
  refine r_istore (pc := 269) (lv' := [(0, .ref b), (1, .ref (B + 0)), (2, .ref (B + 39)), (3, .ref (B + 70)), (4, .int (Int32.ofNat (5 * j))), (5, .int k1)]) X.1 dL_law_269 (by decide) [1, 2, 3, 4, 5, 0] rfl ?_
  refine r_aload_n (x := some 39) (pc := 271) X.1 dL_law_271 2 rfl ?_
  refine l_arg (pc := 272) (j := j) (q := 1) X rfl (by omega) rfl rfl dL_law_272 dL_law_273 dL_law_275 dL_law_276 dL_law_277 ?_
  refine l_arg (pc := 278) (j := j) (q := 2) X rfl (by omega) rfl rfl dL_law_278 dL_law_279 dL_law_281 dL_law_282 dL_law_283 ?_
  refine r_callVl (As := [.int (xs (5 * j + 1)), .int (xs (5 * j + 2))]) (st := []) (pc := 284) X.1 (c_f_M_ask h2) rfl w_1355 w_1356 w_1357 w_84 w_1358 hdV_X11_ask (Rc.s rfl ce_39) (by decide) hk0 hn0 (Nat.le_of_ble_eq_true rfl) dL_law_284 rfl ?_
  refine r_lstore (pc := 287) (lv' := [(0, .ref b), (1, .ref (B + 0)), (2, .ref (B + 39)), (3, .ref (B + 70)), (4, .int (Int32.ofNat (5 * j))), (5, .int k1), (6, .long b1)]) X.1 dL_law_287 (by decide) [1, 2, 3, 4, 5, 6, 0] rfl ?_
  refine r_aload_n (x := some 39) (pc := 289) X.1 dL_law_289 2 rfl ?_
  refine r_callVi (As := []) (st := []) (pc := 290) X.1 (c_f_M_thrown (F := F) (s := σ2) rfl) rfl w_1249 w_1250 w_1251 w_84 w_1252 hdV_X11_thrown (Rc.s rfl ce_39) (by decide) hk0 hn0 (Nat.le_of_ble_eq_true rfl) dL_law_290 rfl ?_
  refine r_iload (pc := 293) X.1 dL_law_293 5 rfl ?_
  refine l_eq (tgt := 300) (pc := 295) X h3 dL_law_295 (by decide) ?_
  refine r_iload (pc := 300) X.1 dL_law_300 5 rfl ?_
  refine l_ne (tgt := 316) (pc := 302) X dL_law_302 (by decide) (fun hz => ?_) (fun hz => ?_)
  · refine r_goto (tgt := 1688) (pc := 316) X.1 dL_law_316 (by decide) ?_
    exact r_forget [0, 1, 2, 3, 4] rfl (kk σ2 h5)
  · refine r_aload_n (x := some 70) (pc := 305) X.1 dL_law_305 3 rfl ?_
    refine r_iconst (v := 0) (pc := 306) X.1 dL_law_306 (by decide) ?_
    refine l_out (pc := 307) X dL_law_307 ?_
    refine r_lload (pc := 308) X.1 dL_law_308 6 rfl ?_
    refine l_lcmp (tgt := 316) (pc := 310) X (h4 hz) dL_law_310 dL_law_311 (by decide) ?_
    refine r_goto (tgt := 1688) (pc := 316) X.1 dL_law_316 (by decide) ?_
    exact r_forget [0, 1, 2, 3, 4] rfl (kk σ2 h5)
set_option maxHeartbeats 1000000 in
theorem lc_4 (X : LX Γ D B b L xs) {F : Nat} {Inv : St → Prop} {j : Nat} (hj : 5 * j + 5 ≤ L) (hop : B_askByCodes F Inv) {σ : St} (hI : Inv σ) {k n : Nat} (hk : k + 64 ≤ 601024) (hn : n + 768 ≤ 7293034) (kk : ∀ σ', Inv σ' → V Γ D B true 8 Q (k + 64) (n + 768) σ' 1688 (L5 B b j) []) : V Γ D B true 8 Q k n σ 319 (L5 B b j) [] := by
  have hk0 : k + 64 + 0 ≤ room_1.cells := hk
  have hn0 : n + 768 + 0 ≤ room_1.slots := hn
  refine r_aload_n (x := some 0) (pc := 319) X.1 dL_law_319 1 rfl ?_
  refine l_arg (pc := 320) (j := j) (q := 1) X rfl (by omega) rfl rfl dL_law_320 dL_law_321 dL_law_323 dL_law_324 dL_law_325 ?_
  refine l_arg (pc := 326) (j := j) (q := 2) X rfl (by omega) rfl rfl dL_law_326 dL_law_327 dL_law_329 dL_law_330 dL_law_331 ?_
  refine r_aload_n (x := some 70) (pc := 332) X.1 dL_law_332 3 rfl ?_
  obtain ⟨k1, σ1, h1, h2⟩ := hop σ hI (xs (5 * j + 1)) (xs (5 * j + 2))
  refine l_wrap (As := [.ref (B + 0), .int (xs (5 * j + 1)), .int (xs (5 * j + 2)), .ref (B + 70)]) (st := []) (pc := 333) X (c_L_askByCodes h1) rfl w_649 w_650 w_73 w_651 hdS_L_askByCodes (by decide) hk hn (Nat.le_of_ble_eq_true rfl) dL_law_333 rfl (fun n9 hn9 => ?_)
  obtain ⟨b1, σ2, h2, h3, h4, h5⟩ := h2 n9 hn9
  refine r_istore (pc := 336) (lv' := [(0, .ref b), (1, .ref (B + 0)), (2, .ref (B + 39)), (3, .ref (B + 70)), (4, .int (Int32.ofNat (5 * j))), (5, .int k1)]) X.1 dL_law_336 (by decide) [1, 2, 3, 4, 5, 0] rfl ?_
  refine r_aload_n (x := some 39) (pc := 338) X.1 dL_law_338 2 rfl ?_
  refine l_arg (pc := 339) (j := j) (q := 1) X rfl (by omega) rfl rfl dL_law_339 dL_law_340 dL_law_342 dL_law_343 dL_law_344 ?_
  refine l_arg (pc := 345) (j := j) (q := 2) X rfl (by omega) rfl rfl dL_law_345 dL_law_346 dL_law_348 dL_law_349 dL_law_350 ?_
  refine r_callVl (As := [.int (xs (5 * j + 1)), .int (xs (5 * j + 2))]) (st := []) (pc := 351) X.1 (c_f_M_askByCodes h2) rfl w_1393 w_1394 w_1395 w_84 w_1396 hdV_X11_askByCodes (Rc.s rfl ce_39) (by decide) hk0 hn0 (Nat.le_of_ble_eq_true rfl) dL_law_351 rfl ?_
  refine r_lstore (pc := 354) (lv' := [(0, .ref b), (1, .ref (B + 0)), (2, .ref (B + 39)), (3, .ref (B + 70)), (4, .int (Int32.ofNat (5 * j))), (5, .int k1), (6, .long b1)]) X.1 dL_law_354 (by decide) [1, 2, 3, 4, 5, 6, 0] rfl ?_
  refine r_aload_n (x := some 39) (pc := 356) X.1 dL_law_356 2 rfl ?_
  refine r_callVi (As := []) (st := []) (pc := 357) X.1 (c_f_M_thrown (F := F) (s := σ2) rfl) rfl w_1249 w_1250 w_1251 w_84 w_1252 hdV_X11_thrown (Rc.s rfl ce_39) (by decide) hk0 hn0 (Nat.le_of_ble_eq_true rfl) dL_law_357 rfl ?_
  refine r_iload (pc := 360) X.1 dL_law_360 5 rfl ?_
  refine l_eq (tgt := 367) (pc := 362) X h3 dL_law_362 (by decide) ?_
  refine r_iload (pc := 367) X.1 dL_law_367 5 rfl ?_
  refine l_ne (tgt := 383) (pc := 369) X dL_law_369 (by decide) (fun hz => ?_) (fun hz => ?_)
  · refine r_goto (tgt := 1688) (pc := 383) X.1 dL_law_383 (by decide) ?_
    exact r_forget [0, 1, 2, 3, 4] rfl (kk σ2 h5)
  · refine r_aload_n (x := some 70) (pc := 372) X.1 dL_law_372 3 rfl ?_
    refine r_iconst (v := 0) (pc := 373) X.1 dL_law_373 (by decide) ?_
    refine l_out (pc := 374) X dL_law_374 ?_
    refine r_lload (pc := 375) X.1 dL_law_375 6 rfl ?_
    refine l_lcmp (tgt := 383) (pc := 377) X (h4 hz) dL_law_377 dL_law_378 (by decide) ?_
    refine r_goto (tgt := 1688) (pc := 383) X.1 dL_law_383 (by decide) ?_
    exact r_forget [0, 1, 2, 3, 4] rfl (kk σ2 h5)
set_option maxHeartbeats 1000000 in
theorem lc_5 (X : LX Γ D B b L xs) {F : Nat} {Inv : St → Prop} {j : Nat} (hj : 5 * j + 5 ≤ L) (hop : B_pass F Inv) {σ : St} (hI : Inv σ) {k n : Nat} (hk : k + 64 ≤ 601024) (hn : n + 768 ≤ 7293034) (kk : ∀ σ', Inv σ' → V Γ D B true 8 Q (k + 64) (n + 768) σ' 1688 (L5 B b j) []) : V Γ D B true 8 Q k n σ 386 (L5 B b j) [] := by
  have hk0 : k + 64 + 0 ≤ room_1.cells := hk
  have hn0 : n + 768 + 0 ≤ room_1.slots := hn
  refine r_aload_n (x := some 0) (pc := 386) X.1 dL_law_386 1 rfl ?_
  refine l_arg (pc := 387) (j := j) (q := 1) X rfl (by omega) rfl rfl dL_law_387 dL_law_388 dL_law_390 dL_law_391 dL_law_392 ?_
  refine r_aload_n (x := some 70) (pc := 393) X.1 dL_law_393 3 rfl ?_
  obtain ⟨k1, σ1, h1, h2⟩ := hop σ hI (xs (5 * j + 1))
  refine l_wrap (As := [.ref (B + 0), .int (xs (5 * j + 1)), .ref (B + 70)]) (st := []) (pc := 394) X (c_L_pass h1) rfl w_732 w_733 w_73 w_734 hdS_L_pass (by decide) hk hn (Nat.le_of_ble_eq_true rfl) dL_law_394 rfl (fun n9 hn9 => ?_)
  obtain ⟨b1, σ2, h2, h3, h4, h5⟩ := h2 n9 hn9
  refine r_istore (pc := 397) (lv' := [(0, .ref b), (1, .ref (B + 0)), (2, .ref (B + 39)), (3, .ref (B + 70)), (4, .int (Int32.ofNat (5 * j))), (5, .int k1)]) X.1 dL_law_397 (by decide) [1, 2, 3, 4, 5, 0] rfl ?_
  refine r_aload_n (x := some 39) (pc := 399) X.1 dL_law_399 2 rfl ?_
  refine l_arg (pc := 400) (j := j) (q := 1) X rfl (by omega) rfl rfl dL_law_400 dL_law_401 dL_law_403 dL_law_404 dL_law_405 ?_
  refine r_callVi (As := [.int (xs (5 * j + 1))]) (st := []) (pc := 406) X.1 (c_f_M_pass h2) rfl w_1397 w_1398 w_1399 w_84 w_1400 hdV_X11_pass (Rc.s rfl ce_39) (by decide) hk0 hn0 (Nat.le_of_ble_eq_true rfl) dL_law_406 rfl ?_
  refine r_istore (pc := 409) (lv' := [(0, .ref b), (1, .ref (B + 0)), (2, .ref (B + 39)), (3, .ref (B + 70)), (4, .int (Int32.ofNat (5 * j))), (5, .int k1), (6, .int b1)]) X.1 dL_law_409 (by decide) [1, 2, 3, 4, 5, 6, 0] rfl ?_
  refine r_aload_n (x := some 39) (pc := 411) X.1 dL_law_411 2 rfl ?_
  refine r_callVi (As := []) (st := []) (pc := 412) X.1 (c_f_M_thrown (F := F) (s := σ2) rfl) rfl w_1249 w_1250 w_1251 w_84 w_1252 hdV_X11_thrown (Rc.s rfl ce_39) (by decide) hk0 hn0 (Nat.le_of_ble_eq_true rfl) dL_law_412 rfl ?_
  refine r_iload (pc := 415) X.1 dL_law_415 5 rfl ?_
  refine l_eq (tgt := 422) (pc := 417) X h3 dL_law_417 (by decide) ?_
  refine r_iload (pc := 422) X.1 dL_law_422 5 rfl ?_
  refine l_ne (tgt := 439) (pc := 424) X dL_law_424 (by decide) (fun hz => ?_) (fun hz => ?_)
  · refine r_goto (tgt := 1688) (pc := 439) X.1 dL_law_439 (by decide) ?_
    exact r_forget [0, 1, 2, 3, 4] rfl (kk σ2 h5)
  · refine r_aload_n (x := some 70) (pc := 427) X.1 dL_law_427 3 rfl ?_
    refine r_iconst (v := 0) (pc := 428) X.1 dL_law_428 (by decide) ?_
    refine l_out (pc := 429) X dL_law_429 ?_
    refine r_iload (pc := 430) X.1 dL_law_430 6 rfl ?_
    refine r_i2l (pc := 432) X.1 dL_law_432 ?_
    refine l_lcmp (tgt := 439) (pc := 433) X (h4 hz) dL_law_433 dL_law_434 (by decide) ?_
    refine r_goto (tgt := 1688) (pc := 439) X.1 dL_law_439 (by decide) ?_
    exact r_forget [0, 1, 2, 3, 4] rfl (kk σ2 h5)
set_option maxHeartbeats 1000000 in
theorem lc_6 (X : LX Γ D B b L xs) {F : Nat} {Inv : St → Prop} {j : Nat} (hj : 5 * j + 5 ≤ L) (hop : B_now F Inv) {σ : St} (hI : Inv σ) {k n : Nat} (hk : k + 64 ≤ 601024) (hn : n + 768 ≤ 7293034) (kk : ∀ σ', Inv σ' → V Γ D B true 8 Q (k + 64) (n + 768) σ' 1688 (L5 B b j) []) : V Γ D B true 8 Q k n σ 442 (L5 B b j) [] := by
  have hk0 : k + 64 + 0 ≤ room_1.cells := hk
  have hn0 : n + 768 + 0 ≤ room_1.slots := hn
  refine r_aload_n (x := some 0) (pc := 442) X.1 dL_law_442 1 rfl ?_
  refine V.mono (Nat.le_add_right k 64) (Nat.le_add_right n 768) ?_
  obtain ⟨r1, σ1, h1, σ2, h2, h3⟩ := hop σ hI
  refine r_callVi (As := []) (st := []) (pc := 443) X.1 (c_f_P_now h1) rfl w_449 w_450 w_451 w_74 w_452 hdV_X10_now (Rc.s rfl ce_0) (by decide) hk0 hn0 (Nat.le_of_ble_eq_true rfl) dL_law_443 rfl ?_
  refine r_aload_n (x := some 39) (pc := 446) X.1 dL_law_446 2 rfl ?_
  refine r_callVi (As := []) (st := [.int r1]) (pc := 447) X.1 (c_f_M_now h2) rfl w_1440 w_1441 w_1442 w_84 w_1443 hdV_X11_now (Rc.s rfl ce_39) (by decide) hk0 hn0 (Nat.le_of_ble_eq_true rfl) dL_law_447 rfl ?_
  exact l_eq (tgt := 1688) (pc := 450) X rfl dL_law_450 (by decide) (kk σ2 h3)
set_option maxHeartbeats 1000000 in
theorem lc_7 (X : LX Γ D B b L xs) {F : Nat} {Inv : St → Prop} {j : Nat} (hj : 5 * j + 5 ≤ L) (hop : B_log F Inv) {σ : St} (hI : Inv σ) {k n : Nat} (hk : k + 64 ≤ 601024) (hn : n + 768 ≤ 7293034) (kk : ∀ σ', Inv σ' → V Γ D B true 8 Q (k + 64) (n + 768) σ' 1688 (L5 B b j) []) : V Γ D B true 8 Q k n σ 455 (L5 B b j) [] := by
  have hk0 : k + 64 + 0 ≤ room_1.cells := hk
  have hn0 : n + 768 + 0 ≤ room_1.slots := hn
  refine r_aload_n (x := some 0) (pc := 455) X.1 dL_law_455 1 rfl ?_
  refine l_arg (pc := 456) (j := j) (q := 1) X rfl (by omega) rfl rfl dL_law_456 dL_law_457 dL_law_459 dL_law_460 dL_law_461 ?_
  refine l_arg (pc := 462) (j := j) (q := 2) X rfl (by omega) rfl rfl dL_law_462 dL_law_463 dL_law_465 dL_law_466 dL_law_467 ?_
  refine l_arg (pc := 468) (j := j) (q := 3) X rfl (by omega) rfl rfl dL_law_468 dL_law_469 dL_law_471 dL_law_472 dL_law_473 ?_
  refine l_arg (pc := 474) (j := j) (q := 4) X rfl (by omega) rfl rfl dL_law_474 dL_law_475 dL_law_477 dL_law_478 dL_law_479 ?_
  refine r_aload_n (x := some 70) (pc := 480) X.1 dL_law_480 3 rfl ?_
  obtain ⟨k1, σ1, h1, h2⟩ := hop σ hI (xs (5 * j + 1)) (xs (5 * j + 2)) (xs (5 * j + 3)) (xs (5 * j + 4))
  refine l_wrap (As := [.ref (B + 0), .int (xs (5 * j + 1)), .int (xs (5 * j + 2)), .int (xs (5 * j + 3)), .int (xs (5 * j + 4)), .ref (B + 70)]) (st := []) (pc := 481) X (c_L_log h1) rfl w_794 w_795 w_73 w_796 hdS_L_log (by decide) hk hn (Nat.le_of_ble_eq_true rfl) dL_law_481 rfl (fun n9 hn9 => ?_)
  obtain ⟨b1, σ2, h2, h3, h4, h5⟩ := h2 n9 hn9
  refine r_istore (pc := 484) (lv' := [(0, .ref b), (1, .ref (B + 0)), (2, .ref (B + 39)), (3, .ref (B + 70)), (4, .int (Int32.ofNat (5 * j))), (5, .int k1)]) X.1 dL_law_484 (by decide) [1, 2, 3, 4, 5, 0] rfl ?_
  refine r_aload_n (x := some 39) (pc := 486) X.1 dL_law_486 2 rfl ?_
  refine l_arg (pc := 487) (j := j) (q := 1) X rfl (by omega) rfl rfl dL_law_487 dL_law_488 dL_law_490 dL_law_491 dL_law_492 ?_
  refine l_arg (pc := 493) (j := j) (q := 2) X rfl (by omega) rfl rfl dL_law_493 dL_law_494 dL_law_496 dL_law_497 dL_law_498 ?_
  refine l_arg (pc := 499) (j := j) (q := 3) X rfl (by omega) rfl rfl dL_law_499 dL_law_500 dL_law_502 dL_law_503 dL_law_504 ?_
  refine l_arg (pc := 505) (j := j) (q := 4) X rfl (by omega) rfl rfl dL_law_505 dL_law_506 dL_law_508 dL_law_509 dL_law_510 ?_
  refine r_callVi (As := [.int (xs (5 * j + 1)), .int (xs (5 * j + 2)), .int (xs (5 * j + 3)), .int (xs (5 * j + 4))]) (st := []) (pc := 511) X.1 (c_f_M_log h2) rfl w_1444 w_1445 w_1446 w_84 w_1447 hdV_X11_log (Rc.s rfl ce_39) (by decide) hk0 hn0 (Nat.le_of_ble_eq_true rfl) dL_law_511 rfl ?_
  refine r_istore (pc := 514) (lv' := [(0, .ref b), (1, .ref (B + 0)), (2, .ref (B + 39)), (3, .ref (B + 70)), (4, .int (Int32.ofNat (5 * j))), (5, .int k1), (6, .int b1)]) X.1 dL_law_514 (by decide) [1, 2, 3, 4, 5, 6, 0] rfl ?_
  refine r_aload_n (x := some 39) (pc := 516) X.1 dL_law_516 2 rfl ?_
  refine r_callVi (As := []) (st := []) (pc := 517) X.1 (c_f_M_thrown (F := F) (s := σ2) rfl) rfl w_1249 w_1250 w_1251 w_84 w_1252 hdV_X11_thrown (Rc.s rfl ce_39) (by decide) hk0 hn0 (Nat.le_of_ble_eq_true rfl) dL_law_517 rfl ?_
  refine r_iload (pc := 520) X.1 dL_law_520 5 rfl ?_
  refine l_eq (tgt := 527) (pc := 522) X h3 dL_law_522 (by decide) ?_
  refine r_iload (pc := 527) X.1 dL_law_527 5 rfl ?_
  refine l_ne (tgt := 544) (pc := 529) X dL_law_529 (by decide) (fun hz => ?_) (fun hz => ?_)
  · refine r_goto (tgt := 1688) (pc := 544) X.1 dL_law_544 (by decide) ?_
    exact r_forget [0, 1, 2, 3, 4] rfl (kk σ2 h5)
  · refine r_aload_n (x := some 70) (pc := 532) X.1 dL_law_532 3 rfl ?_
    refine r_iconst (v := 0) (pc := 533) X.1 dL_law_533 (by decide) ?_
    refine l_out (pc := 534) X dL_law_534 ?_
    refine r_iload (pc := 535) X.1 dL_law_535 6 rfl ?_
    refine r_i2l (pc := 537) X.1 dL_law_537 ?_
    refine l_lcmp (tgt := 544) (pc := 538) X (h4 hz) dL_law_538 dL_law_539 (by decide) ?_
    refine r_goto (tgt := 1688) (pc := 544) X.1 dL_law_544 (by decide) ?_
    exact r_forget [0, 1, 2, 3, 4] rfl (kk σ2 h5)
set_option maxHeartbeats 1000000 in
theorem lc_8 (X : LX Γ D B b L xs) {F : Nat} {Inv : St → Prop} {j : Nat} (hj : 5 * j + 5 ≤ L) (hop : B_addPerson F Inv) {σ : St} (hI : Inv σ) {k n : Nat} (hk : k + 64 ≤ 601024) (hn : n + 768 ≤ 7293034) (kk : ∀ σ', Inv σ' → V Γ D B true 8 Q (k + 64) (n + 768) σ' 1688 (L5 B b j) []) : V Γ D B true 8 Q k n σ 547 (L5 B b j) [] := by
  have hk0 : k + 64 + 0 ≤ room_1.cells := hk
  have hn0 : n + 768 + 0 ≤ room_1.slots := hn
  refine r_aload_n (x := some 0) (pc := 547) X.1 dL_law_547 1 rfl ?_
  refine r_aload_n (x := some 70) (pc := 548) X.1 dL_law_548 3 rfl ?_
  obtain ⟨k1, σ1, h1, h2⟩ := hop σ hI 
  refine l_wrap (As := [.ref (B + 0), .ref (B + 70)]) (st := []) (pc := 549) X (c_L_addPerson h1) rfl w_812 w_813 w_73 w_814 hdS_L_addPerson (by decide) hk hn (Nat.le_of_ble_eq_true rfl) dL_law_549 rfl (fun n9 hn9 => ?_)
  obtain ⟨b1, σ2, h2, h3, h4, h5⟩ := h2 n9 hn9
  refine r_istore (pc := 552) (lv' := [(0, .ref b), (1, .ref (B + 0)), (2, .ref (B + 39)), (3, .ref (B + 70)), (4, .int (Int32.ofNat (5 * j))), (5, .int k1)]) X.1 dL_law_552 (by decide) [1, 2, 3, 4, 5, 0] rfl ?_
  refine r_aload_n (x := some 39) (pc := 554) X.1 dL_law_554 2 rfl ?_
  refine r_callVi (As := []) (st := []) (pc := 555) X.1 (c_f_M_addPerson h2) rfl w_1448 w_1449 w_1450 w_84 w_1451 hdV_X11_addPerson (Rc.s rfl ce_39) (by decide) hk0 hn0 (Nat.le_of_ble_eq_true rfl) dL_law_555 rfl ?_
  refine r_istore (pc := 558) (lv' := [(0, .ref b), (1, .ref (B + 0)), (2, .ref (B + 39)), (3, .ref (B + 70)), (4, .int (Int32.ofNat (5 * j))), (5, .int k1), (6, .int b1)]) X.1 dL_law_558 (by decide) [1, 2, 3, 4, 5, 6, 0] rfl ?_
  refine r_aload_n (x := some 39) (pc := 560) X.1 dL_law_560 2 rfl ?_
  refine r_callVi (As := []) (st := []) (pc := 561) X.1 (c_f_M_thrown (F := F) (s := σ2) rfl) rfl w_1249 w_1250 w_1251 w_84 w_1252 hdV_X11_thrown (Rc.s rfl ce_39) (by decide) hk0 hn0 (Nat.le_of_ble_eq_true rfl) dL_law_561 rfl ?_
  refine r_iload (pc := 564) X.1 dL_law_564 5 rfl ?_
  refine l_eq (tgt := 571) (pc := 566) X h3 dL_law_566 (by decide) ?_
  refine r_iload (pc := 571) X.1 dL_law_571 5 rfl ?_
  refine l_ne (tgt := 588) (pc := 573) X dL_law_573 (by decide) (fun hz => ?_) (fun hz => ?_)
  · refine r_goto (tgt := 1688) (pc := 588) X.1 dL_law_588 (by decide) ?_
    exact r_forget [0, 1, 2, 3, 4] rfl (kk σ2 h5)
  · refine r_aload_n (x := some 70) (pc := 576) X.1 dL_law_576 3 rfl ?_
    refine r_iconst (v := 0) (pc := 577) X.1 dL_law_577 (by decide) ?_
    refine l_out (pc := 578) X dL_law_578 ?_
    refine r_iload (pc := 579) X.1 dL_law_579 6 rfl ?_
    refine r_i2l (pc := 581) X.1 dL_law_581 ?_
    refine l_lcmp (tgt := 588) (pc := 582) X (h4 hz) dL_law_582 dL_law_583 (by decide) ?_
    refine r_goto (tgt := 1688) (pc := 588) X.1 dL_law_588 (by decide) ?_
    exact r_forget [0, 1, 2, 3, 4] rfl (kk σ2 h5)
set_option maxHeartbeats 1000000 in
theorem lc_9 (X : LX Γ D B b L xs) {F : Nat} {Inv : St → Prop} {j : Nat} (hj : 5 * j + 5 ≤ L) (hop : B_off F Inv) {σ : St} (hI : Inv σ) {k n : Nat} (hk : k + 64 ≤ 601024) (hn : n + 768 ≤ 7293034) (kk : ∀ σ', Inv σ' → V Γ D B true 8 Q (k + 64) (n + 768) σ' 1688 (L5 B b j) []) : V Γ D B true 8 Q k n σ 591 (L5 B b j) [] := by
  have hk0 : k + 64 + 0 ≤ room_1.cells := hk
  have hn0 : n + 768 + 0 ≤ room_1.slots := hn
  refine r_aload_n (x := some 0) (pc := 591) X.1 dL_law_591 1 rfl ?_
  refine l_arg (pc := 592) (j := j) (q := 1) X rfl (by omega) rfl rfl dL_law_592 dL_law_593 dL_law_595 dL_law_596 dL_law_597 ?_
  refine l_arg (pc := 598) (j := j) (q := 2) X rfl (by omega) rfl rfl dL_law_598 dL_law_599 dL_law_601 dL_law_602 dL_law_603 ?_
  refine r_aload_n (x := some 70) (pc := 604) X.1 dL_law_604 3 rfl ?_
  obtain ⟨k1, σ1, h1, h2⟩ := hop σ hI (xs (5 * j + 1)) (xs (5 * j + 2))
  refine l_wrap (As := [.ref (B + 0), .int (xs (5 * j + 1)), .int (xs (5 * j + 2)), .ref (B + 70)]) (st := []) (pc := 605) X (c_L_off h1) rfl w_820 w_821 w_73 w_822 hdS_L_off (by decide) hk hn (Nat.le_of_ble_eq_true rfl) dL_law_605 rfl (fun n9 hn9 => ?_)
  obtain ⟨b1, σ2, h2, h3, h4, h5⟩ := h2 n9 hn9
  refine r_istore (pc := 608) (lv' := [(0, .ref b), (1, .ref (B + 0)), (2, .ref (B + 39)), (3, .ref (B + 70)), (4, .int (Int32.ofNat (5 * j))), (5, .int k1)]) X.1 dL_law_608 (by decide) [1, 2, 3, 4, 5, 0] rfl ?_
  refine r_aload_n (x := some 39) (pc := 610) X.1 dL_law_610 2 rfl ?_
  refine l_arg (pc := 611) (j := j) (q := 1) X rfl (by omega) rfl rfl dL_law_611 dL_law_612 dL_law_614 dL_law_615 dL_law_616 ?_
  refine l_arg (pc := 617) (j := j) (q := 2) X rfl (by omega) rfl rfl dL_law_617 dL_law_618 dL_law_620 dL_law_621 dL_law_622 ?_
  refine r_callVi (As := [.int (xs (5 * j + 1)), .int (xs (5 * j + 2))]) (st := []) (pc := 623) X.1 (c_f_M_off h2) rfl w_1452 w_1453 w_1454 w_84 w_1455 hdV_X11_off (Rc.s rfl ce_39) (by decide) hk0 hn0 (Nat.le_of_ble_eq_true rfl) dL_law_623 rfl ?_
  refine r_istore (pc := 626) (lv' := [(0, .ref b), (1, .ref (B + 0)), (2, .ref (B + 39)), (3, .ref (B + 70)), (4, .int (Int32.ofNat (5 * j))), (5, .int k1), (6, .int b1)]) X.1 dL_law_626 (by decide) [1, 2, 3, 4, 5, 6, 0] rfl ?_
  refine r_aload_n (x := some 39) (pc := 628) X.1 dL_law_628 2 rfl ?_
  refine r_callVi (As := []) (st := []) (pc := 629) X.1 (c_f_M_thrown (F := F) (s := σ2) rfl) rfl w_1249 w_1250 w_1251 w_84 w_1252 hdV_X11_thrown (Rc.s rfl ce_39) (by decide) hk0 hn0 (Nat.le_of_ble_eq_true rfl) dL_law_629 rfl ?_
  refine r_iload (pc := 632) X.1 dL_law_632 5 rfl ?_
  refine l_eq (tgt := 639) (pc := 634) X h3 dL_law_634 (by decide) ?_
  refine r_iload (pc := 639) X.1 dL_law_639 5 rfl ?_
  refine l_ne (tgt := 663) (pc := 641) X dL_law_641 (by decide) (fun hz => ?_) (fun hz => ?_)
  · refine r_goto (tgt := 1688) (pc := 663) X.1 dL_law_663 (by decide) ?_
    exact r_forget [0, 1, 2, 3, 4] rfl (kk σ2 h5)
  · refine r_aload_n (x := some 70) (pc := 644) X.1 dL_law_644 3 rfl ?_
    refine r_iconst (v := 0) (pc := 645) X.1 dL_law_645 (by decide) ?_
    refine l_out (pc := 646) X dL_law_646 ?_
    refine r_iload (pc := 647) X.1 dL_law_647 6 rfl ?_
    refine l_eq0 (tgt := 656) (pc := 649) X dL_law_649 (by decide) (fun hb => ?_) (fun hb => ?_)
    · refine r_lconst (v := 0) (pc := 656) X.1 dL_law_656 (by decide) ?_
      refine l_lcmp (tgt := 663) (pc := 657) X ((h4 hz).trans (if_pos hb)) dL_law_657 dL_law_658 (by decide) ?_
      refine r_goto (tgt := 1688) (pc := 663) X.1 dL_law_663 (by decide) ?_
      exact r_forget [0, 1, 2, 3, 4] rfl (kk σ2 h5)
    · refine r_lconst (v := 1) (pc := 652) X.1 dL_law_652 (by decide) ?_
      refine r_goto (tgt := 657) (pc := 653) X.1 dL_law_653 (by decide) ?_
      refine l_lcmp (tgt := 663) (pc := 657) X ((h4 hz).trans (if_neg hb)) dL_law_657 dL_law_658 (by decide) ?_
      refine r_goto (tgt := 1688) (pc := 663) X.1 dL_law_663 (by decide) ?_
      exact r_forget [0, 1, 2, 3, 4] rfl (kk σ2 h5)
set_option maxHeartbeats 1000000 in
theorem lc_10 (X : LX Γ D B b L xs) {F : Nat} {Inv : St → Prop} {j : Nat} (hj : 5 * j + 5 ≤ L) (hop : B_swap F Inv) {σ : St} (hI : Inv σ) {k n : Nat} (hk : k + 64 ≤ 601024) (hn : n + 768 ≤ 7293034) (kk : ∀ σ', Inv σ' → V Γ D B true 8 Q (k + 64) (n + 768) σ' 1688 (L5 B b j) []) : V Γ D B true 8 Q k n σ 666 (L5 B b j) [] := by
  have hk0 : k + 64 + 0 ≤ room_1.cells := hk
  have hn0 : n + 768 + 0 ≤ room_1.slots := hn
  refine r_aload_n (x := some 0) (pc := 666) X.1 dL_law_666 1 rfl ?_
  refine l_arg (pc := 667) (j := j) (q := 1) X rfl (by omega) rfl rfl dL_law_667 dL_law_668 dL_law_670 dL_law_671 dL_law_672 ?_
  refine l_arg (pc := 673) (j := j) (q := 2) X rfl (by omega) rfl rfl dL_law_673 dL_law_674 dL_law_676 dL_law_677 dL_law_678 ?_
  obtain ⟨k1, σ1, h1, h2⟩ := hop σ hI (xs (5 * j + 1)) (xs (5 * j + 2))
  refine l_wrap (As := [.ref (B + 0), .int (xs (5 * j + 1)), .int (xs (5 * j + 2))]) (st := []) (pc := 679) X (c_L_swap h1) rfl w_854 w_855 w_73 w_856 hdS_L_swap (by decide) hk hn (Nat.le_of_ble_eq_true rfl) dL_law_679 rfl (fun n9 hn9 => ?_)
  obtain ⟨σ2, h2, h3, h4, h5⟩ := h2 n9 hn9
  refine r_istore (pc := 682) (lv' := [(0, .ref b), (1, .ref (B + 0)), (2, .ref (B + 39)), (3, .ref (B + 70)), (4, .int (Int32.ofNat (5 * j))), (5, .int k1)]) X.1 dL_law_682 (by decide) [1, 2, 3, 4, 5, 0] rfl ?_
  refine r_aload_n (x := some 39) (pc := 684) X.1 dL_law_684 2 rfl ?_
  refine l_arg (pc := 685) (j := j) (q := 1) X rfl (by omega) rfl rfl dL_law_685 dL_law_686 dL_law_688 dL_law_689 dL_law_690 ?_
  refine l_arg (pc := 691) (j := j) (q := 2) X rfl (by omega) rfl rfl dL_law_691 dL_law_692 dL_law_694 dL_law_695 dL_law_696 ?_
  refine r_callVv (As := [.int (xs (5 * j + 1)), .int (xs (5 * j + 2))]) (st := []) (pc := 697) X.1 (c_f_M_swap h2) rfl w_1464 w_1465 w_1466 w_84 w_1467 hdV_X11_swap (Rc.s rfl ce_39) (by decide) hk0 hn0 (Nat.le_of_ble_eq_true rfl) dL_law_697 rfl ?_
  refine r_aload_n (x := some 39) (pc := 700) X.1 dL_law_700 2 rfl ?_
  refine r_callVi (As := []) (st := []) (pc := 701) X.1 (c_f_M_thrown (F := F) (s := σ2) rfl) rfl w_1249 w_1250 w_1251 w_84 w_1252 hdV_X11_thrown (Rc.s rfl ce_39) (by decide) hk0 hn0 (Nat.le_of_ble_eq_true rfl) dL_law_701 rfl ?_
  refine r_iload (pc := 704) X.1 dL_law_704 5 rfl ?_
  refine l_eq (tgt := 711) (pc := 706) X h3 dL_law_706 (by decide) ?_
  refine r_goto (tgt := 1688) (pc := 711) X.1 dL_law_711 (by decide) ?_
  exact r_forget [0, 1, 2, 3, 4] rfl (kk σ2 h5)
set_option maxHeartbeats 1000000 in
theorem lc_11 (X : LX Γ D B b L xs) {F : Nat} {Inv : St → Prop} {j : Nat} (hj : 5 * j + 5 ≤ L) (hop : B_planned F Inv) {σ : St} (hI : Inv σ) {k n : Nat} (hk : k + 64 ≤ 601024) (hn : n + 768 ≤ 7293034) (kk : ∀ σ', Inv σ' → V Γ D B true 8 Q (k + 64) (n + 768) σ' 1688 (L5 B b j) []) : V Γ D B true 8 Q k n σ 714 (L5 B b j) [] := by
  have hk0 : k + 64 + 0 ≤ room_1.cells := hk
  have hn0 : n + 768 + 0 ≤ room_1.slots := hn
  refine r_aload_n (x := some 0) (pc := 714) X.1 dL_law_714 1 rfl ?_
  refine l_arg (pc := 715) (j := j) (q := 1) X rfl (by omega) rfl rfl dL_law_715 dL_law_716 dL_law_718 dL_law_719 dL_law_720 ?_
  refine r_aload_n (x := some 70) (pc := 721) X.1 dL_law_721 3 rfl ?_
  obtain ⟨k1, σ1, h1, h2⟩ := hop σ hI (xs (5 * j + 1))
  refine l_wrap (As := [.ref (B + 0), .int (xs (5 * j + 1)), .ref (B + 70)]) (st := []) (pc := 722) X (c_L_planned h1) rfl w_869 w_870 w_73 w_871 hdS_L_planned (by decide) hk hn (Nat.le_of_ble_eq_true rfl) dL_law_722 rfl (fun n9 hn9 => ?_)
  obtain ⟨b1, σ2, h2, h3, h4, h5⟩ := h2 n9 hn9
  refine r_istore (pc := 725) (lv' := [(0, .ref b), (1, .ref (B + 0)), (2, .ref (B + 39)), (3, .ref (B + 70)), (4, .int (Int32.ofNat (5 * j))), (5, .int k1)]) X.1 dL_law_725 (by decide) [1, 2, 3, 4, 5, 0] rfl ?_
  refine r_aload_n (x := some 39) (pc := 727) X.1 dL_law_727 2 rfl ?_
  refine l_arg (pc := 728) (j := j) (q := 1) X rfl (by omega) rfl rfl dL_law_728 dL_law_729 dL_law_731 dL_law_732 dL_law_733 ?_
  refine r_callVi (As := [.int (xs (5 * j + 1))]) (st := []) (pc := 734) X.1 (c_f_M_planned h2) rfl w_1468 w_1469 w_1470 w_84 w_1471 hdV_X11_planned (Rc.s rfl ce_39) (by decide) hk0 hn0 (Nat.le_of_ble_eq_true rfl) dL_law_734 rfl ?_
  refine r_istore (pc := 737) (lv' := [(0, .ref b), (1, .ref (B + 0)), (2, .ref (B + 39)), (3, .ref (B + 70)), (4, .int (Int32.ofNat (5 * j))), (5, .int k1), (6, .int b1)]) X.1 dL_law_737 (by decide) [1, 2, 3, 4, 5, 6, 0] rfl ?_
  refine r_aload_n (x := some 39) (pc := 739) X.1 dL_law_739 2 rfl ?_
  refine r_callVi (As := []) (st := []) (pc := 740) X.1 (c_f_M_thrown (F := F) (s := σ2) rfl) rfl w_1249 w_1250 w_1251 w_84 w_1252 hdV_X11_thrown (Rc.s rfl ce_39) (by decide) hk0 hn0 (Nat.le_of_ble_eq_true rfl) dL_law_740 rfl ?_
  refine r_iload (pc := 743) X.1 dL_law_743 5 rfl ?_
  refine l_eq (tgt := 750) (pc := 745) X h3 dL_law_745 (by decide) ?_
  refine r_iload (pc := 750) X.1 dL_law_750 5 rfl ?_
  refine l_ne (tgt := 767) (pc := 752) X dL_law_752 (by decide) (fun hz => ?_) (fun hz => ?_)
  · refine r_goto (tgt := 1688) (pc := 767) X.1 dL_law_767 (by decide) ?_
    exact r_forget [0, 1, 2, 3, 4] rfl (kk σ2 h5)
  · refine r_aload_n (x := some 70) (pc := 755) X.1 dL_law_755 3 rfl ?_
    refine r_iconst (v := 0) (pc := 756) X.1 dL_law_756 (by decide) ?_
    refine l_out (pc := 757) X dL_law_757 ?_
    refine r_iload (pc := 758) X.1 dL_law_758 6 rfl ?_
    refine r_i2l (pc := 760) X.1 dL_law_760 ?_
    refine l_lcmp (tgt := 767) (pc := 761) X (h4 hz) dL_law_761 dL_law_762 (by decide) ?_
    refine r_goto (tgt := 1688) (pc := 767) X.1 dL_law_767 (by decide) ?_
    exact r_forget [0, 1, 2, 3, 4] rfl (kk σ2 h5)
set_option maxHeartbeats 1000000 in
theorem lc_12 (X : LX Γ D B b L xs) {F : Nat} {Inv : St → Prop} {j : Nat} (hj : 5 * j + 5 ≤ L) (hop : B_next F Inv) {σ : St} (hI : Inv σ) {k n : Nat} (hk : k + 64 ≤ 601024) (hn : n + 768 ≤ 7293034) (kk : ∀ σ', Inv σ' → V Γ D B true 8 Q (k + 64) (n + 768) σ' 1688 (L5 B b j) []) : V Γ D B true 8 Q k n σ 770 (L5 B b j) [] := by
  have hk0 : k + 64 + 0 ≤ room_1.cells := hk
  have hn0 : n + 768 + 0 ≤ room_1.slots := hn
  refine r_aload_n (x := some 0) (pc := 770) X.1 dL_law_770 1 rfl ?_
  refine V.mono (Nat.le_add_right k 64) (Nat.le_add_right n 768) ?_
  obtain ⟨r1, σ1, h1, σ2, h2, h3⟩ := hop σ hI
  refine r_callVi (As := []) (st := []) (pc := 771) X.1 (c_f_P_next h1) rfl w_453 w_454 w_455 w_74 w_456 hdV_X10_next (Rc.s rfl ce_0) (by decide) hk0 hn0 (Nat.le_of_ble_eq_true rfl) dL_law_771 rfl ?_
  refine r_aload_n (x := some 39) (pc := 774) X.1 dL_law_774 2 rfl ?_
  refine r_callVi (As := []) (st := [.int r1]) (pc := 775) X.1 (c_f_M_next h2) rfl w_1472 w_1473 w_1474 w_84 w_1475 hdV_X11_next (Rc.s rfl ce_39) (by decide) hk0 hn0 (Nat.le_of_ble_eq_true rfl) dL_law_775 rfl ?_
  exact l_eq (tgt := 1688) (pc := 778) X rfl dL_law_778 (by decide) (kk σ2 h3)
set_option maxHeartbeats 1000000 in
theorem lc_13 (X : LX Γ D B b L xs) {F : Nat} {Inv : St → Prop} {j : Nat} (hj : 5 * j + 5 ≤ L) (hop : B_holder F Inv) {σ : St} (hI : Inv σ) {k n : Nat} (hk : k + 64 ≤ 601024) (hn : n + 768 ≤ 7293034) (kk : ∀ σ', Inv σ' → V Γ D B true 8 Q (k + 64) (n + 768) σ' 1688 (L5 B b j) []) : V Γ D B true 8 Q k n σ 783 (L5 B b j) [] := by
  have hk0 : k + 64 + 0 ≤ room_1.cells := hk
  have hn0 : n + 768 + 0 ≤ room_1.slots := hn
  refine r_aload_n (x := some 0) (pc := 783) X.1 dL_law_783 1 rfl ?_
  refine l_arg (pc := 784) (j := j) (q := 1) X rfl (by omega) rfl rfl dL_law_784 dL_law_785 dL_law_787 dL_law_788 dL_law_789 ?_
  refine r_aload_n (x := some 70) (pc := 790) X.1 dL_law_790 3 rfl ?_
  obtain ⟨k1, σ1, h1, h2⟩ := hop σ hI (xs (5 * j + 1))
  refine l_wrap (As := [.ref (B + 0), .int (xs (5 * j + 1)), .ref (B + 70)]) (st := []) (pc := 791) X (c_L_holder h1) rfl w_876 w_877 w_73 w_878 hdS_L_holder (by decide) hk hn (Nat.le_of_ble_eq_true rfl) dL_law_791 rfl (fun n9 hn9 => ?_)
  obtain ⟨b1, σ2, h2, h3, h4, h5⟩ := h2 n9 hn9
  refine r_istore (pc := 794) (lv' := [(0, .ref b), (1, .ref (B + 0)), (2, .ref (B + 39)), (3, .ref (B + 70)), (4, .int (Int32.ofNat (5 * j))), (5, .int k1)]) X.1 dL_law_794 (by decide) [1, 2, 3, 4, 5, 0] rfl ?_
  refine r_aload_n (x := some 39) (pc := 796) X.1 dL_law_796 2 rfl ?_
  refine l_arg (pc := 797) (j := j) (q := 1) X rfl (by omega) rfl rfl dL_law_797 dL_law_798 dL_law_800 dL_law_801 dL_law_802 ?_
  refine r_callVi (As := [.int (xs (5 * j + 1))]) (st := []) (pc := 803) X.1 (c_f_M_holder h2) rfl w_1476 w_1477 w_1478 w_84 w_1479 hdV_X11_holder (Rc.s rfl ce_39) (by decide) hk0 hn0 (Nat.le_of_ble_eq_true rfl) dL_law_803 rfl ?_
  refine r_istore (pc := 806) (lv' := [(0, .ref b), (1, .ref (B + 0)), (2, .ref (B + 39)), (3, .ref (B + 70)), (4, .int (Int32.ofNat (5 * j))), (5, .int k1), (6, .int b1)]) X.1 dL_law_806 (by decide) [1, 2, 3, 4, 5, 6, 0] rfl ?_
  refine r_aload_n (x := some 39) (pc := 808) X.1 dL_law_808 2 rfl ?_
  refine r_callVi (As := []) (st := []) (pc := 809) X.1 (c_f_M_thrown (F := F) (s := σ2) rfl) rfl w_1249 w_1250 w_1251 w_84 w_1252 hdV_X11_thrown (Rc.s rfl ce_39) (by decide) hk0 hn0 (Nat.le_of_ble_eq_true rfl) dL_law_809 rfl ?_
  refine r_iload (pc := 812) X.1 dL_law_812 5 rfl ?_
  refine l_eq (tgt := 819) (pc := 814) X h3 dL_law_814 (by decide) ?_
  refine r_iload (pc := 819) X.1 dL_law_819 5 rfl ?_
  refine l_ne (tgt := 836) (pc := 821) X dL_law_821 (by decide) (fun hz => ?_) (fun hz => ?_)
  · refine r_goto (tgt := 1688) (pc := 836) X.1 dL_law_836 (by decide) ?_
    exact r_forget [0, 1, 2, 3, 4] rfl (kk σ2 h5)
  · refine r_aload_n (x := some 70) (pc := 824) X.1 dL_law_824 3 rfl ?_
    refine r_iconst (v := 0) (pc := 825) X.1 dL_law_825 (by decide) ?_
    refine l_out (pc := 826) X dL_law_826 ?_
    refine r_iload (pc := 827) X.1 dL_law_827 6 rfl ?_
    refine r_i2l (pc := 829) X.1 dL_law_829 ?_
    refine l_lcmp (tgt := 836) (pc := 830) X (h4 hz) dL_law_830 dL_law_831 (by decide) ?_
    refine r_goto (tgt := 1688) (pc := 836) X.1 dL_law_836 (by decide) ?_
    exact r_forget [0, 1, 2, 3, 4] rfl (kk σ2 h5)
set_option maxHeartbeats 1000000 in
theorem lc_14 (X : LX Γ D B b L xs) {F : Nat} {Inv : St → Prop} {j : Nat} (hj : 5 * j + 5 ≤ L) (hop : B_nights F Inv) {σ : St} (hI : Inv σ) {k n : Nat} (hk : k + 64 ≤ 601024) (hn : n + 768 ≤ 7293034) (kk : ∀ σ', Inv σ' → V Γ D B true 8 Q (k + 64) (n + 768) σ' 1688 (L5 B b j) []) : V Γ D B true 8 Q k n σ 839 (L5 B b j) [] := by
  have hk0 : k + 64 + 0 ≤ room_1.cells := hk
  have hn0 : n + 768 + 0 ≤ room_1.slots := hn
  refine r_aload_n (x := some 0) (pc := 839) X.1 dL_law_839 1 rfl ?_
  refine l_arg (pc := 840) (j := j) (q := 1) X rfl (by omega) rfl rfl dL_law_840 dL_law_841 dL_law_843 dL_law_844 dL_law_845 ?_
  refine r_aload_n (x := some 70) (pc := 846) X.1 dL_law_846 3 rfl ?_
  obtain ⟨k1, σ1, h1, h2⟩ := hop σ hI (xs (5 * j + 1))
  refine l_wrap (As := [.ref (B + 0), .int (xs (5 * j + 1)), .ref (B + 70)]) (st := []) (pc := 847) X (c_L_nights h1) rfl w_883 w_884 w_73 w_885 hdS_L_nights (by decide) hk hn (Nat.le_of_ble_eq_true rfl) dL_law_847 rfl (fun n9 hn9 => ?_)
  obtain ⟨b1, σ2, h2, h3, h4, h5⟩ := h2 n9 hn9
  refine r_istore (pc := 850) (lv' := [(0, .ref b), (1, .ref (B + 0)), (2, .ref (B + 39)), (3, .ref (B + 70)), (4, .int (Int32.ofNat (5 * j))), (5, .int k1)]) X.1 dL_law_850 (by decide) [1, 2, 3, 4, 5, 0] rfl ?_
  refine r_aload_n (x := some 39) (pc := 852) X.1 dL_law_852 2 rfl ?_
  refine l_arg (pc := 853) (j := j) (q := 1) X rfl (by omega) rfl rfl dL_law_853 dL_law_854 dL_law_856 dL_law_857 dL_law_858 ?_
  refine r_callVi (As := [.int (xs (5 * j + 1))]) (st := []) (pc := 859) X.1 (c_f_M_nights h2) rfl w_1480 w_1481 w_1482 w_84 w_1483 hdV_X11_nights (Rc.s rfl ce_39) (by decide) hk0 hn0 (Nat.le_of_ble_eq_true rfl) dL_law_859 rfl ?_
  refine r_istore (pc := 862) (lv' := [(0, .ref b), (1, .ref (B + 0)), (2, .ref (B + 39)), (3, .ref (B + 70)), (4, .int (Int32.ofNat (5 * j))), (5, .int k1), (6, .int b1)]) X.1 dL_law_862 (by decide) [1, 2, 3, 4, 5, 6, 0] rfl ?_
  refine r_aload_n (x := some 39) (pc := 864) X.1 dL_law_864 2 rfl ?_
  refine r_callVi (As := []) (st := []) (pc := 865) X.1 (c_f_M_thrown (F := F) (s := σ2) rfl) rfl w_1249 w_1250 w_1251 w_84 w_1252 hdV_X11_thrown (Rc.s rfl ce_39) (by decide) hk0 hn0 (Nat.le_of_ble_eq_true rfl) dL_law_865 rfl ?_
  refine r_iload (pc := 868) X.1 dL_law_868 5 rfl ?_
  refine l_eq (tgt := 875) (pc := 870) X h3 dL_law_870 (by decide) ?_
  refine r_iload (pc := 875) X.1 dL_law_875 5 rfl ?_
  refine l_ne (tgt := 892) (pc := 877) X dL_law_877 (by decide) (fun hz => ?_) (fun hz => ?_)
  · refine r_goto (tgt := 1688) (pc := 892) X.1 dL_law_892 (by decide) ?_
    exact r_forget [0, 1, 2, 3, 4] rfl (kk σ2 h5)
  · refine r_aload_n (x := some 70) (pc := 880) X.1 dL_law_880 3 rfl ?_
    refine r_iconst (v := 0) (pc := 881) X.1 dL_law_881 (by decide) ?_
    refine l_out (pc := 882) X dL_law_882 ?_
    refine r_iload (pc := 883) X.1 dL_law_883 6 rfl ?_
    refine r_i2l (pc := 885) X.1 dL_law_885 ?_
    refine l_lcmp (tgt := 892) (pc := 886) X (h4 hz) dL_law_886 dL_law_887 (by decide) ?_
    refine r_goto (tgt := 1688) (pc := 892) X.1 dL_law_892 (by decide) ?_
    exact r_forget [0, 1, 2, 3, 4] rfl (kk σ2 h5)
set_option maxHeartbeats 1000000 in
theorem lc_15 (X : LX Γ D B b L xs) {F : Nat} {Inv : St → Prop} {j : Nat} (hj : 5 * j + 5 ≤ L) (hop : B_owes F Inv) {σ : St} (hI : Inv σ) {k n : Nat} (hk : k + 64 ≤ 601024) (hn : n + 768 ≤ 7293034) (kk : ∀ σ', Inv σ' → V Γ D B true 8 Q (k + 64) (n + 768) σ' 1688 (L5 B b j) []) : V Γ D B true 8 Q k n σ 895 (L5 B b j) [] := by
  have hk0 : k + 64 + 0 ≤ room_1.cells := hk
  have hn0 : n + 768 + 0 ≤ room_1.slots := hn
  refine r_aload_n (x := some 0) (pc := 895) X.1 dL_law_895 1 rfl ?_
  refine l_arg (pc := 896) (j := j) (q := 1) X rfl (by omega) rfl rfl dL_law_896 dL_law_897 dL_law_899 dL_law_900 dL_law_901 ?_
  refine l_arg (pc := 902) (j := j) (q := 2) X rfl (by omega) rfl rfl dL_law_902 dL_law_903 dL_law_905 dL_law_906 dL_law_907 ?_
  refine r_aload_n (x := some 70) (pc := 908) X.1 dL_law_908 3 rfl ?_
  obtain ⟨k1, σ1, h1, h2⟩ := hop σ hI (xs (5 * j + 1)) (xs (5 * j + 2))
  refine l_wrap (As := [.ref (B + 0), .int (xs (5 * j + 1)), .int (xs (5 * j + 2)), .ref (B + 70)]) (st := []) (pc := 909) X (c_L_owes h1) rfl w_894 w_895 w_73 w_896 hdS_L_owes (by decide) hk hn (Nat.le_of_ble_eq_true rfl) dL_law_909 rfl (fun n9 hn9 => ?_)
  obtain ⟨b1, σ2, h2, h3, h4, h5⟩ := h2 n9 hn9
  refine r_istore (pc := 912) (lv' := [(0, .ref b), (1, .ref (B + 0)), (2, .ref (B + 39)), (3, .ref (B + 70)), (4, .int (Int32.ofNat (5 * j))), (5, .int k1)]) X.1 dL_law_912 (by decide) [1, 2, 3, 4, 5, 0] rfl ?_
  refine r_aload_n (x := some 39) (pc := 914) X.1 dL_law_914 2 rfl ?_
  refine l_arg (pc := 915) (j := j) (q := 1) X rfl (by omega) rfl rfl dL_law_915 dL_law_916 dL_law_918 dL_law_919 dL_law_920 ?_
  refine l_arg (pc := 921) (j := j) (q := 2) X rfl (by omega) rfl rfl dL_law_921 dL_law_922 dL_law_924 dL_law_925 dL_law_926 ?_
  refine r_callVi (As := [.int (xs (5 * j + 1)), .int (xs (5 * j + 2))]) (st := []) (pc := 927) X.1 (c_f_M_owes h2) rfl w_1484 w_1485 w_1486 w_84 w_1487 hdV_X11_owes (Rc.s rfl ce_39) (by decide) hk0 hn0 (Nat.le_of_ble_eq_true rfl) dL_law_927 rfl ?_
  refine r_istore (pc := 930) (lv' := [(0, .ref b), (1, .ref (B + 0)), (2, .ref (B + 39)), (3, .ref (B + 70)), (4, .int (Int32.ofNat (5 * j))), (5, .int k1), (6, .int b1)]) X.1 dL_law_930 (by decide) [1, 2, 3, 4, 5, 6, 0] rfl ?_
  refine r_aload_n (x := some 39) (pc := 932) X.1 dL_law_932 2 rfl ?_
  refine r_callVi (As := []) (st := []) (pc := 933) X.1 (c_f_M_thrown (F := F) (s := σ2) rfl) rfl w_1249 w_1250 w_1251 w_84 w_1252 hdV_X11_thrown (Rc.s rfl ce_39) (by decide) hk0 hn0 (Nat.le_of_ble_eq_true rfl) dL_law_933 rfl ?_
  refine r_iload (pc := 936) X.1 dL_law_936 5 rfl ?_
  refine l_eq (tgt := 943) (pc := 938) X h3 dL_law_938 (by decide) ?_
  refine r_iload (pc := 943) X.1 dL_law_943 5 rfl ?_
  refine l_ne (tgt := 960) (pc := 945) X dL_law_945 (by decide) (fun hz => ?_) (fun hz => ?_)
  · refine r_goto (tgt := 1688) (pc := 960) X.1 dL_law_960 (by decide) ?_
    exact r_forget [0, 1, 2, 3, 4] rfl (kk σ2 h5)
  · refine r_aload_n (x := some 70) (pc := 948) X.1 dL_law_948 3 rfl ?_
    refine r_iconst (v := 0) (pc := 949) X.1 dL_law_949 (by decide) ?_
    refine l_out (pc := 950) X dL_law_950 ?_
    refine r_iload (pc := 951) X.1 dL_law_951 6 rfl ?_
    refine r_i2l (pc := 953) X.1 dL_law_953 ?_
    refine l_lcmp (tgt := 960) (pc := 954) X (h4 hz) dL_law_954 dL_law_955 (by decide) ?_
    refine r_goto (tgt := 1688) (pc := 960) X.1 dL_law_960 (by decide) ?_
    exact r_forget [0, 1, 2, 3, 4] rfl (kk σ2 h5)
set_option maxHeartbeats 1000000 in
theorem lc_16 (X : LX Γ D B b L xs) {F : Nat} {Inv : St → Prop} {j : Nat} (hj : 5 * j + 5 ≤ L) (hop : B_addRule F Inv) {σ : St} (hI : Inv σ) {k n : Nat} (hk : k + 64 ≤ 601024) (hn : n + 768 ≤ 7293034) (kk : ∀ σ', Inv σ' → V Γ D B true 8 Q (k + 64) (n + 768) σ' 1688 (L5 B b j) []) : V Γ D B true 8 Q k n σ 963 (L5 B b j) [] := by
  have hk0 : k + 64 + 0 ≤ room_1.cells := hk
  have hn0 : n + 768 + 0 ≤ room_1.slots := hn
  refine r_aload_n (x := some 0) (pc := 963) X.1 dL_law_963 1 rfl ?_
  refine l_arg (pc := 964) (j := j) (q := 1) X rfl (by omega) rfl rfl dL_law_964 dL_law_965 dL_law_967 dL_law_968 dL_law_969 ?_
  refine l_arg (pc := 970) (j := j) (q := 2) X rfl (by omega) rfl rfl dL_law_970 dL_law_971 dL_law_973 dL_law_974 dL_law_975 ?_
  refine l_arg (pc := 976) (j := j) (q := 3) X rfl (by omega) rfl rfl dL_law_976 dL_law_977 dL_law_979 dL_law_980 dL_law_981 ?_
  refine r_aload_n (x := some 70) (pc := 982) X.1 dL_law_982 3 rfl ?_
  obtain ⟨k1, σ1, h1, h2⟩ := hop σ hI (xs (5 * j + 1)) (xs (5 * j + 2)) (xs (5 * j + 3))
  refine l_wrap (As := [.ref (B + 0), .int (xs (5 * j + 1)), .int (xs (5 * j + 2)), .int (xs (5 * j + 3)), .ref (B + 70)]) (st := []) (pc := 983) X (c_L_addRule h1) rfl w_905 w_906 w_73 w_907 hdS_L_addRule (by decide) hk hn (Nat.le_of_ble_eq_true rfl) dL_law_983 rfl (fun n9 hn9 => ?_)
  obtain ⟨b1, σ2, h2, h3, h4, h5⟩ := h2 n9 hn9
  refine r_istore (pc := 986) (lv' := [(0, .ref b), (1, .ref (B + 0)), (2, .ref (B + 39)), (3, .ref (B + 70)), (4, .int (Int32.ofNat (5 * j))), (5, .int k1)]) X.1 dL_law_986 (by decide) [1, 2, 3, 4, 5, 0] rfl ?_
  refine r_aload_n (x := some 39) (pc := 988) X.1 dL_law_988 2 rfl ?_
  refine l_arg (pc := 989) (j := j) (q := 1) X rfl (by omega) rfl rfl dL_law_989 dL_law_990 dL_law_992 dL_law_993 dL_law_994 ?_
  refine l_arg (pc := 995) (j := j) (q := 2) X rfl (by omega) rfl rfl dL_law_995 dL_law_996 dL_law_998 dL_law_999 dL_law_1000 ?_
  refine l_arg (pc := 1001) (j := j) (q := 3) X rfl (by omega) rfl rfl dL_law_1001 dL_law_1002 dL_law_1004 dL_law_1005 dL_law_1006 ?_
  refine r_callVi (As := [.int (xs (5 * j + 1)), .int (xs (5 * j + 2)), .int (xs (5 * j + 3))]) (st := []) (pc := 1007) X.1 (c_f_M_addRule h2) rfl w_1488 w_1489 w_1490 w_84 w_1491 hdV_X11_addRule (Rc.s rfl ce_39) (by decide) hk0 hn0 (Nat.le_of_ble_eq_true rfl) dL_law_1007 rfl ?_
  refine r_istore (pc := 1010) (lv' := [(0, .ref b), (1, .ref (B + 0)), (2, .ref (B + 39)), (3, .ref (B + 70)), (4, .int (Int32.ofNat (5 * j))), (5, .int k1), (6, .int b1)]) X.1 dL_law_1010 (by decide) [1, 2, 3, 4, 5, 6, 0] rfl ?_
  refine r_aload_n (x := some 39) (pc := 1012) X.1 dL_law_1012 2 rfl ?_
  refine r_callVi (As := []) (st := []) (pc := 1013) X.1 (c_f_M_thrown (F := F) (s := σ2) rfl) rfl w_1249 w_1250 w_1251 w_84 w_1252 hdV_X11_thrown (Rc.s rfl ce_39) (by decide) hk0 hn0 (Nat.le_of_ble_eq_true rfl) dL_law_1013 rfl ?_
  refine r_iload (pc := 1016) X.1 dL_law_1016 5 rfl ?_
  refine l_eq (tgt := 1023) (pc := 1018) X h3 dL_law_1018 (by decide) ?_
  refine r_iload (pc := 1023) X.1 dL_law_1023 5 rfl ?_
  refine l_ne (tgt := 1040) (pc := 1025) X dL_law_1025 (by decide) (fun hz => ?_) (fun hz => ?_)
  · refine r_goto (tgt := 1688) (pc := 1040) X.1 dL_law_1040 (by decide) ?_
    exact r_forget [0, 1, 2, 3, 4] rfl (kk σ2 h5)
  · refine r_aload_n (x := some 70) (pc := 1028) X.1 dL_law_1028 3 rfl ?_
    refine r_iconst (v := 0) (pc := 1029) X.1 dL_law_1029 (by decide) ?_
    refine l_out (pc := 1030) X dL_law_1030 ?_
    refine r_iload (pc := 1031) X.1 dL_law_1031 6 rfl ?_
    refine r_i2l (pc := 1033) X.1 dL_law_1033 ?_
    refine l_lcmp (tgt := 1040) (pc := 1034) X (h4 hz) dL_law_1034 dL_law_1035 (by decide) ?_
    refine r_goto (tgt := 1688) (pc := 1040) X.1 dL_law_1040 (by decide) ?_
    exact r_forget [0, 1, 2, 3, 4] rfl (kk σ2 h5)
set_option maxHeartbeats 1000000 in
theorem lc_17 (X : LX Γ D B b L xs) {F : Nat} {Inv : St → Prop} {j : Nat} (hj : 5 * j + 5 ≤ L) (hop : B_drop F Inv) {σ : St} (hI : Inv σ) {k n : Nat} (hk : k + 64 ≤ 601024) (hn : n + 768 ≤ 7293034) (kk : ∀ σ', Inv σ' → V Γ D B true 8 Q (k + 64) (n + 768) σ' 1688 (L5 B b j) []) : V Γ D B true 8 Q k n σ 1043 (L5 B b j) [] := by
  have hk0 : k + 64 + 0 ≤ room_1.cells := hk
  have hn0 : n + 768 + 0 ≤ room_1.slots := hn
  refine r_aload_n (x := some 0) (pc := 1043) X.1 dL_law_1043 1 rfl ?_
  refine l_arg (pc := 1044) (j := j) (q := 1) X rfl (by omega) rfl rfl dL_law_1044 dL_law_1045 dL_law_1047 dL_law_1048 dL_law_1049 ?_
  refine r_aload_n (x := some 70) (pc := 1050) X.1 dL_law_1050 3 rfl ?_
  obtain ⟨k1, σ1, h1, h2⟩ := hop σ hI (xs (5 * j + 1))
  refine l_wrap (As := [.ref (B + 0), .int (xs (5 * j + 1)), .ref (B + 70)]) (st := []) (pc := 1051) X (c_L_drop h1) rfl w_961 w_962 w_73 w_963 hdS_L_drop (by decide) hk hn (Nat.le_of_ble_eq_true rfl) dL_law_1051 rfl (fun n9 hn9 => ?_)
  obtain ⟨b1, σ2, h2, h3, h4, h5⟩ := h2 n9 hn9
  refine r_istore (pc := 1054) (lv' := [(0, .ref b), (1, .ref (B + 0)), (2, .ref (B + 39)), (3, .ref (B + 70)), (4, .int (Int32.ofNat (5 * j))), (5, .int k1)]) X.1 dL_law_1054 (by decide) [1, 2, 3, 4, 5, 0] rfl ?_
  refine r_aload_n (x := some 39) (pc := 1056) X.1 dL_law_1056 2 rfl ?_
  refine l_arg (pc := 1057) (j := j) (q := 1) X rfl (by omega) rfl rfl dL_law_1057 dL_law_1058 dL_law_1060 dL_law_1061 dL_law_1062 ?_
  refine r_callVi (As := [.int (xs (5 * j + 1))]) (st := []) (pc := 1063) X.1 (c_f_M_drop h2) rfl w_1492 w_1493 w_1494 w_84 w_1495 hdV_X11_drop (Rc.s rfl ce_39) (by decide) hk0 hn0 (Nat.le_of_ble_eq_true rfl) dL_law_1063 rfl ?_
  refine r_istore (pc := 1066) (lv' := [(0, .ref b), (1, .ref (B + 0)), (2, .ref (B + 39)), (3, .ref (B + 70)), (4, .int (Int32.ofNat (5 * j))), (5, .int k1), (6, .int b1)]) X.1 dL_law_1066 (by decide) [1, 2, 3, 4, 5, 6, 0] rfl ?_
  refine r_aload_n (x := some 39) (pc := 1068) X.1 dL_law_1068 2 rfl ?_
  refine r_callVi (As := []) (st := []) (pc := 1069) X.1 (c_f_M_thrown (F := F) (s := σ2) rfl) rfl w_1249 w_1250 w_1251 w_84 w_1252 hdV_X11_thrown (Rc.s rfl ce_39) (by decide) hk0 hn0 (Nat.le_of_ble_eq_true rfl) dL_law_1069 rfl ?_
  refine r_iload (pc := 1072) X.1 dL_law_1072 5 rfl ?_
  refine l_eq (tgt := 1079) (pc := 1074) X h3 dL_law_1074 (by decide) ?_
  refine r_iload (pc := 1079) X.1 dL_law_1079 5 rfl ?_
  refine l_ne (tgt := 1096) (pc := 1081) X dL_law_1081 (by decide) (fun hz => ?_) (fun hz => ?_)
  · refine r_goto (tgt := 1688) (pc := 1096) X.1 dL_law_1096 (by decide) ?_
    exact r_forget [0, 1, 2, 3, 4] rfl (kk σ2 h5)
  · refine r_aload_n (x := some 70) (pc := 1084) X.1 dL_law_1084 3 rfl ?_
    refine r_iconst (v := 0) (pc := 1085) X.1 dL_law_1085 (by decide) ?_
    refine l_out (pc := 1086) X dL_law_1086 ?_
    refine r_iload (pc := 1087) X.1 dL_law_1087 6 rfl ?_
    refine r_i2l (pc := 1089) X.1 dL_law_1089 ?_
    refine l_lcmp (tgt := 1096) (pc := 1090) X (h4 hz) dL_law_1090 dL_law_1091 (by decide) ?_
    refine r_goto (tgt := 1688) (pc := 1096) X.1 dL_law_1096 (by decide) ?_
    exact r_forget [0, 1, 2, 3, 4] rfl (kk σ2 h5)
set_option maxHeartbeats 1000000 in
theorem lc_18 (X : LX Γ D B b L xs) {F : Nat} {Inv : St → Prop} {j : Nat} (hj : 5 * j + 5 ≤ L) (hop : B_silence F Inv) {σ : St} (hI : Inv σ) {k n : Nat} (hk : k + 64 ≤ 601024) (hn : n + 768 ≤ 7293034) (kk : ∀ σ', Inv σ' → V Γ D B true 8 Q (k + 64) (n + 768) σ' 1688 (L5 B b j) []) : V Γ D B true 8 Q k n σ 1099 (L5 B b j) [] := by
  have hk0 : k + 64 + 0 ≤ room_1.cells := hk
  have hn0 : n + 768 + 0 ≤ room_1.slots := hn
  refine r_aload_n (x := some 0) (pc := 1099) X.1 dL_law_1099 1 rfl ?_
  refine l_arg (pc := 1100) (j := j) (q := 1) X rfl (by omega) rfl rfl dL_law_1100 dL_law_1101 dL_law_1103 dL_law_1104 dL_law_1105 ?_
  refine l_arg (pc := 1106) (j := j) (q := 2) X rfl (by omega) rfl rfl dL_law_1106 dL_law_1107 dL_law_1109 dL_law_1110 dL_law_1111 ?_
  refine l_arg (pc := 1112) (j := j) (q := 3) X rfl (by omega) rfl rfl dL_law_1112 dL_law_1113 dL_law_1115 dL_law_1116 dL_law_1117 ?_
  refine r_aload_n (x := some 70) (pc := 1118) X.1 dL_law_1118 3 rfl ?_
  obtain ⟨k1, σ1, h1, h2⟩ := hop σ hI (xs (5 * j + 1)) (xs (5 * j + 2)) (xs (5 * j + 3))
  refine l_wrap (As := [.ref (B + 0), .int (xs (5 * j + 1)), .int (xs (5 * j + 2)), .int (xs (5 * j + 3)), .ref (B + 70)]) (st := []) (pc := 1119) X (c_L_silence h1) rfl w_970 w_971 w_73 w_972 hdS_L_silence (by decide) hk hn (Nat.le_of_ble_eq_true rfl) dL_law_1119 rfl (fun n9 hn9 => ?_)
  obtain ⟨b1, σ2, h2, h3, h4, h5⟩ := h2 n9 hn9
  refine r_istore (pc := 1122) (lv' := [(0, .ref b), (1, .ref (B + 0)), (2, .ref (B + 39)), (3, .ref (B + 70)), (4, .int (Int32.ofNat (5 * j))), (5, .int k1)]) X.1 dL_law_1122 (by decide) [1, 2, 3, 4, 5, 0] rfl ?_
  refine r_aload_n (x := some 39) (pc := 1124) X.1 dL_law_1124 2 rfl ?_
  refine l_arg (pc := 1125) (j := j) (q := 1) X rfl (by omega) rfl rfl dL_law_1125 dL_law_1126 dL_law_1128 dL_law_1129 dL_law_1130 ?_
  refine l_arg (pc := 1131) (j := j) (q := 2) X rfl (by omega) rfl rfl dL_law_1131 dL_law_1132 dL_law_1134 dL_law_1135 dL_law_1136 ?_
  refine l_arg (pc := 1137) (j := j) (q := 3) X rfl (by omega) rfl rfl dL_law_1137 dL_law_1138 dL_law_1140 dL_law_1141 dL_law_1142 ?_
  refine r_callVi (As := [.int (xs (5 * j + 1)), .int (xs (5 * j + 2)), .int (xs (5 * j + 3))]) (st := []) (pc := 1143) X.1 (c_f_M_silence h2) rfl w_1500 w_1501 w_1502 w_84 w_1503 hdV_X11_silence (Rc.s rfl ce_39) (by decide) hk0 hn0 (Nat.le_of_ble_eq_true rfl) dL_law_1143 rfl ?_
  refine r_istore (pc := 1146) (lv' := [(0, .ref b), (1, .ref (B + 0)), (2, .ref (B + 39)), (3, .ref (B + 70)), (4, .int (Int32.ofNat (5 * j))), (5, .int k1), (6, .int b1)]) X.1 dL_law_1146 (by decide) [1, 2, 3, 4, 5, 6, 0] rfl ?_
  refine r_aload_n (x := some 39) (pc := 1148) X.1 dL_law_1148 2 rfl ?_
  refine r_callVi (As := []) (st := []) (pc := 1149) X.1 (c_f_M_thrown (F := F) (s := σ2) rfl) rfl w_1249 w_1250 w_1251 w_84 w_1252 hdV_X11_thrown (Rc.s rfl ce_39) (by decide) hk0 hn0 (Nat.le_of_ble_eq_true rfl) dL_law_1149 rfl ?_
  refine r_iload (pc := 1152) X.1 dL_law_1152 5 rfl ?_
  refine l_eq (tgt := 1159) (pc := 1154) X h3 dL_law_1154 (by decide) ?_
  refine r_iload (pc := 1159) X.1 dL_law_1159 5 rfl ?_
  refine l_ne (tgt := 1176) (pc := 1161) X dL_law_1161 (by decide) (fun hz => ?_) (fun hz => ?_)
  · refine r_goto (tgt := 1688) (pc := 1176) X.1 dL_law_1176 (by decide) ?_
    exact r_forget [0, 1, 2, 3, 4] rfl (kk σ2 h5)
  · refine r_aload_n (x := some 70) (pc := 1164) X.1 dL_law_1164 3 rfl ?_
    refine r_iconst (v := 0) (pc := 1165) X.1 dL_law_1165 (by decide) ?_
    refine l_out (pc := 1166) X dL_law_1166 ?_
    refine r_iload (pc := 1167) X.1 dL_law_1167 6 rfl ?_
    refine r_i2l (pc := 1169) X.1 dL_law_1169 ?_
    refine l_lcmp (tgt := 1176) (pc := 1170) X (h4 hz) dL_law_1170 dL_law_1171 (by decide) ?_
    refine r_goto (tgt := 1688) (pc := 1176) X.1 dL_law_1176 (by decide) ?_
    exact r_forget [0, 1, 2, 3, 4] rfl (kk σ2 h5)
set_option maxHeartbeats 1000000 in
theorem lc_19 (X : LX Γ D B b L xs) {F : Nat} {Inv : St → Prop} {j : Nat} (hj : 5 * j + 5 ≤ L) (hop : B_inWindow F Inv) {σ : St} (hI : Inv σ) {k n : Nat} (hk : k + 64 ≤ 601024) (hn : n + 768 ≤ 7293034) (kk : ∀ σ', Inv σ' → V Γ D B true 8 Q (k + 64) (n + 768) σ' 1688 (L5 B b j) []) : V Γ D B true 8 Q k n σ 1179 (L5 B b j) [] := by
  have hk0 : k + 64 + 0 ≤ room_1.cells := hk
  have hn0 : n + 768 + 0 ≤ room_1.slots := hn
  refine r_aload_n (x := some 0) (pc := 1179) X.1 dL_law_1179 1 rfl ?_
  refine l_arg (pc := 1180) (j := j) (q := 1) X rfl (by omega) rfl rfl dL_law_1180 dL_law_1181 dL_law_1183 dL_law_1184 dL_law_1185 ?_
  refine r_aload_n (x := some 70) (pc := 1186) X.1 dL_law_1186 3 rfl ?_
  obtain ⟨k1, σ1, h1, h2⟩ := hop σ hI (xs (5 * j + 1))
  refine l_wrap (As := [.ref (B + 0), .int (xs (5 * j + 1)), .ref (B + 70)]) (st := []) (pc := 1187) X (c_L_inWindow h1) rfl w_982 w_983 w_73 w_984 hdS_L_inWindow (by decide) hk hn (Nat.le_of_ble_eq_true rfl) dL_law_1187 rfl (fun n9 hn9 => ?_)
  obtain ⟨b1, σ2, h2, h3, h4, h5⟩ := h2 n9 hn9
  refine r_istore (pc := 1190) (lv' := [(0, .ref b), (1, .ref (B + 0)), (2, .ref (B + 39)), (3, .ref (B + 70)), (4, .int (Int32.ofNat (5 * j))), (5, .int k1)]) X.1 dL_law_1190 (by decide) [1, 2, 3, 4, 5, 0] rfl ?_
  refine r_aload_n (x := some 39) (pc := 1192) X.1 dL_law_1192 2 rfl ?_
  refine l_arg (pc := 1193) (j := j) (q := 1) X rfl (by omega) rfl rfl dL_law_1193 dL_law_1194 dL_law_1196 dL_law_1197 dL_law_1198 ?_
  refine r_callVi (As := [.int (xs (5 * j + 1))]) (st := []) (pc := 1199) X.1 (c_f_M_inWindow h2) rfl w_1504 w_1505 w_1506 w_84 w_1507 hdV_X11_inWindow (Rc.s rfl ce_39) (by decide) hk0 hn0 (Nat.le_of_ble_eq_true rfl) dL_law_1199 rfl ?_
  refine r_istore (pc := 1202) (lv' := [(0, .ref b), (1, .ref (B + 0)), (2, .ref (B + 39)), (3, .ref (B + 70)), (4, .int (Int32.ofNat (5 * j))), (5, .int k1), (6, .int b1)]) X.1 dL_law_1202 (by decide) [1, 2, 3, 4, 5, 6, 0] rfl ?_
  refine r_aload_n (x := some 39) (pc := 1204) X.1 dL_law_1204 2 rfl ?_
  refine r_callVi (As := []) (st := []) (pc := 1205) X.1 (c_f_M_thrown (F := F) (s := σ2) rfl) rfl w_1249 w_1250 w_1251 w_84 w_1252 hdV_X11_thrown (Rc.s rfl ce_39) (by decide) hk0 hn0 (Nat.le_of_ble_eq_true rfl) dL_law_1205 rfl ?_
  refine r_iload (pc := 1208) X.1 dL_law_1208 5 rfl ?_
  refine l_eq (tgt := 1215) (pc := 1210) X h3 dL_law_1210 (by decide) ?_
  refine r_iload (pc := 1215) X.1 dL_law_1215 5 rfl ?_
  refine l_ne (tgt := 1232) (pc := 1217) X dL_law_1217 (by decide) (fun hz => ?_) (fun hz => ?_)
  · refine r_goto (tgt := 1688) (pc := 1232) X.1 dL_law_1232 (by decide) ?_
    exact r_forget [0, 1, 2, 3, 4] rfl (kk σ2 h5)
  · refine r_aload_n (x := some 70) (pc := 1220) X.1 dL_law_1220 3 rfl ?_
    refine r_iconst (v := 0) (pc := 1221) X.1 dL_law_1221 (by decide) ?_
    refine l_out (pc := 1222) X dL_law_1222 ?_
    refine r_iload (pc := 1223) X.1 dL_law_1223 6 rfl ?_
    refine r_i2l (pc := 1225) X.1 dL_law_1225 ?_
    refine l_lcmp (tgt := 1232) (pc := 1226) X (h4 hz) dL_law_1226 dL_law_1227 (by decide) ?_
    refine r_goto (tgt := 1688) (pc := 1232) X.1 dL_law_1232 (by decide) ?_
    exact r_forget [0, 1, 2, 3, 4] rfl (kk σ2 h5)
set_option maxHeartbeats 1000000 in
theorem lc_20 (X : LX Γ D B b L xs) {F : Nat} {Inv : St → Prop} {j : Nat} (hj : 5 * j + 5 ≤ L) (hop : B_rises F Inv) {σ : St} (hI : Inv σ) {k n : Nat} (hk : k + 64 ≤ 601024) (hn : n + 768 ≤ 7293034) (kk : ∀ σ', Inv σ' → V Γ D B true 8 Q (k + 64) (n + 768) σ' 1688 (L5 B b j) []) : V Γ D B true 8 Q k n σ 1235 (L5 B b j) [] := by
  have hk0 : k + 64 + 0 ≤ room_1.cells := hk
  have hn0 : n + 768 + 0 ≤ room_1.slots := hn
  refine r_aload_n (x := some 0) (pc := 1235) X.1 dL_law_1235 1 rfl ?_
  refine l_arg (pc := 1236) (j := j) (q := 1) X rfl (by omega) rfl rfl dL_law_1236 dL_law_1237 dL_law_1239 dL_law_1240 dL_law_1241 ?_
  refine r_aload_n (x := some 70) (pc := 1242) X.1 dL_law_1242 3 rfl ?_
  obtain ⟨k1, σ1, h1, h2⟩ := hop σ hI (xs (5 * j + 1))
  refine l_wrap (As := [.ref (B + 0), .int (xs (5 * j + 1)), .ref (B + 70)]) (st := []) (pc := 1243) X (c_L_rises h1) rfl w_989 w_990 w_73 w_991 hdS_L_rises (by decide) hk hn (Nat.le_of_ble_eq_true rfl) dL_law_1243 rfl (fun n9 hn9 => ?_)
  obtain ⟨b1, σ2, h2, h3, h4, h5⟩ := h2 n9 hn9
  refine r_istore (pc := 1246) (lv' := [(0, .ref b), (1, .ref (B + 0)), (2, .ref (B + 39)), (3, .ref (B + 70)), (4, .int (Int32.ofNat (5 * j))), (5, .int k1)]) X.1 dL_law_1246 (by decide) [1, 2, 3, 4, 5, 0] rfl ?_
  refine r_aload_n (x := some 39) (pc := 1248) X.1 dL_law_1248 2 rfl ?_
  refine l_arg (pc := 1249) (j := j) (q := 1) X rfl (by omega) rfl rfl dL_law_1249 dL_law_1250 dL_law_1252 dL_law_1253 dL_law_1254 ?_
  refine r_callVi (As := [.int (xs (5 * j + 1))]) (st := []) (pc := 1255) X.1 (c_f_M_rises h2) rfl w_1508 w_1509 w_1510 w_84 w_1511 hdV_X11_rises (Rc.s rfl ce_39) (by decide) hk0 hn0 (Nat.le_of_ble_eq_true rfl) dL_law_1255 rfl ?_
  refine r_istore (pc := 1258) (lv' := [(0, .ref b), (1, .ref (B + 0)), (2, .ref (B + 39)), (3, .ref (B + 70)), (4, .int (Int32.ofNat (5 * j))), (5, .int k1), (6, .int b1)]) X.1 dL_law_1258 (by decide) [1, 2, 3, 4, 5, 6, 0] rfl ?_
  refine r_aload_n (x := some 39) (pc := 1260) X.1 dL_law_1260 2 rfl ?_
  refine r_callVi (As := []) (st := []) (pc := 1261) X.1 (c_f_M_thrown (F := F) (s := σ2) rfl) rfl w_1249 w_1250 w_1251 w_84 w_1252 hdV_X11_thrown (Rc.s rfl ce_39) (by decide) hk0 hn0 (Nat.le_of_ble_eq_true rfl) dL_law_1261 rfl ?_
  refine r_iload (pc := 1264) X.1 dL_law_1264 5 rfl ?_
  refine l_eq (tgt := 1271) (pc := 1266) X h3 dL_law_1266 (by decide) ?_
  refine r_iload (pc := 1271) X.1 dL_law_1271 5 rfl ?_
  refine l_ne (tgt := 1288) (pc := 1273) X dL_law_1273 (by decide) (fun hz => ?_) (fun hz => ?_)
  · refine r_goto (tgt := 1688) (pc := 1288) X.1 dL_law_1288 (by decide) ?_
    exact r_forget [0, 1, 2, 3, 4] rfl (kk σ2 h5)
  · refine r_aload_n (x := some 70) (pc := 1276) X.1 dL_law_1276 3 rfl ?_
    refine r_iconst (v := 0) (pc := 1277) X.1 dL_law_1277 (by decide) ?_
    refine l_out (pc := 1278) X dL_law_1278 ?_
    refine r_iload (pc := 1279) X.1 dL_law_1279 6 rfl ?_
    refine r_i2l (pc := 1281) X.1 dL_law_1281 ?_
    refine l_lcmp (tgt := 1288) (pc := 1282) X (h4 hz) dL_law_1282 dL_law_1283 (by decide) ?_
    refine r_goto (tgt := 1688) (pc := 1288) X.1 dL_law_1288 (by decide) ?_
    exact r_forget [0, 1, 2, 3, 4] rfl (kk σ2 h5)
set_option maxHeartbeats 1000000 in
theorem lc_21 (X : LX Γ D B b L xs) {F : Nat} {Inv : St → Prop} {j : Nat} (hj : 5 * j + 5 ≤ L) (hop : B_risesAnew F Inv) {σ : St} (hI : Inv σ) {k n : Nat} (hk : k + 64 ≤ 601024) (hn : n + 768 ≤ 7293034) (kk : ∀ σ', Inv σ' → V Γ D B true 8 Q (k + 64) (n + 768) σ' 1688 (L5 B b j) []) : V Γ D B true 8 Q k n σ 1291 (L5 B b j) [] := by
  have hk0 : k + 64 + 0 ≤ room_1.cells := hk
  have hn0 : n + 768 + 0 ≤ room_1.slots := hn
  refine r_aload_n (x := some 0) (pc := 1291) X.1 dL_law_1291 1 rfl ?_
  refine l_arg (pc := 1292) (j := j) (q := 1) X rfl (by omega) rfl rfl dL_law_1292 dL_law_1293 dL_law_1295 dL_law_1296 dL_law_1297 ?_
  refine r_aload_n (x := some 70) (pc := 1298) X.1 dL_law_1298 3 rfl ?_
  obtain ⟨k1, σ1, h1, h2⟩ := hop σ hI (xs (5 * j + 1))
  refine l_wrap (As := [.ref (B + 0), .int (xs (5 * j + 1)), .ref (B + 70)]) (st := []) (pc := 1299) X (c_L_risesAnew h1) rfl w_996 w_997 w_73 w_998 hdS_L_risesAnew (by decide) hk hn (Nat.le_of_ble_eq_true rfl) dL_law_1299 rfl (fun n9 hn9 => ?_)
  obtain ⟨b1, σ2, h2, h3, h4, h5⟩ := h2 n9 hn9
  refine r_istore (pc := 1302) (lv' := [(0, .ref b), (1, .ref (B + 0)), (2, .ref (B + 39)), (3, .ref (B + 70)), (4, .int (Int32.ofNat (5 * j))), (5, .int k1)]) X.1 dL_law_1302 (by decide) [1, 2, 3, 4, 5, 0] rfl ?_
  refine r_aload_n (x := some 39) (pc := 1304) X.1 dL_law_1304 2 rfl ?_
  refine l_arg (pc := 1305) (j := j) (q := 1) X rfl (by omega) rfl rfl dL_law_1305 dL_law_1306 dL_law_1308 dL_law_1309 dL_law_1310 ?_
  refine r_callVi (As := [.int (xs (5 * j + 1))]) (st := []) (pc := 1311) X.1 (c_f_M_risesAnew h2) rfl w_1512 w_1513 w_1514 w_84 w_1515 hdV_X11_risesAnew (Rc.s rfl ce_39) (by decide) hk0 hn0 (Nat.le_of_ble_eq_true rfl) dL_law_1311 rfl ?_
  refine r_istore (pc := 1314) (lv' := [(0, .ref b), (1, .ref (B + 0)), (2, .ref (B + 39)), (3, .ref (B + 70)), (4, .int (Int32.ofNat (5 * j))), (5, .int k1), (6, .int b1)]) X.1 dL_law_1314 (by decide) [1, 2, 3, 4, 5, 6, 0] rfl ?_
  refine r_aload_n (x := some 39) (pc := 1316) X.1 dL_law_1316 2 rfl ?_
  refine r_callVi (As := []) (st := []) (pc := 1317) X.1 (c_f_M_thrown (F := F) (s := σ2) rfl) rfl w_1249 w_1250 w_1251 w_84 w_1252 hdV_X11_thrown (Rc.s rfl ce_39) (by decide) hk0 hn0 (Nat.le_of_ble_eq_true rfl) dL_law_1317 rfl ?_
  refine r_iload (pc := 1320) X.1 dL_law_1320 5 rfl ?_
  refine l_eq (tgt := 1327) (pc := 1322) X h3 dL_law_1322 (by decide) ?_
  refine r_iload (pc := 1327) X.1 dL_law_1327 5 rfl ?_
  refine l_ne (tgt := 1344) (pc := 1329) X dL_law_1329 (by decide) (fun hz => ?_) (fun hz => ?_)
  · refine r_goto (tgt := 1688) (pc := 1344) X.1 dL_law_1344 (by decide) ?_
    exact r_forget [0, 1, 2, 3, 4] rfl (kk σ2 h5)
  · refine r_aload_n (x := some 70) (pc := 1332) X.1 dL_law_1332 3 rfl ?_
    refine r_iconst (v := 0) (pc := 1333) X.1 dL_law_1333 (by decide) ?_
    refine l_out (pc := 1334) X dL_law_1334 ?_
    refine r_iload (pc := 1335) X.1 dL_law_1335 6 rfl ?_
    refine r_i2l (pc := 1337) X.1 dL_law_1337 ?_
    refine l_lcmp (tgt := 1344) (pc := 1338) X (h4 hz) dL_law_1338 dL_law_1339 (by decide) ?_
    refine r_goto (tgt := 1688) (pc := 1344) X.1 dL_law_1344 (by decide) ?_
    exact r_forget [0, 1, 2, 3, 4] rfl (kk σ2 h5)
set_option maxHeartbeats 1000000 in
theorem lc_22 (X : LX Γ D B b L xs) {F : Nat} {Inv : St → Prop} {j : Nat} (hj : 5 * j + 5 ≤ L) (hop : B_alarms F Inv) {σ : St} (hI : Inv σ) {k n : Nat} (hk : k + 64 ≤ 601024) (hn : n + 768 ≤ 7293034) (kk : ∀ σ', Inv σ' → V Γ D B true 8 Q (k + 64) (n + 768) σ' 1688 (L5 B b j) []) : V Γ D B true 8 Q k n σ 1347 (L5 B b j) [] := by
  have hk0 : k + 64 + 0 ≤ room_1.cells := hk
  have hn0 : n + 768 + 0 ≤ room_1.slots := hn
  refine r_aload_n (x := some 0) (pc := 1347) X.1 dL_law_1347 1 rfl ?_
  refine V.mono (Nat.le_add_right k 64) (Nat.le_add_right n 768) ?_
  obtain ⟨r1, σ1, h1, σ2, h2, h3⟩ := hop σ hI
  refine r_callVi (As := []) (st := []) (pc := 1348) X.1 (c_f_P_alarms h1) rfl w_483 w_484 w_485 w_74 w_486 hdV_X10_alarms (Rc.s rfl ce_0) (by decide) hk0 hn0 (Nat.le_of_ble_eq_true rfl) dL_law_1348 rfl ?_
  refine r_aload_n (x := some 39) (pc := 1351) X.1 dL_law_1351 2 rfl ?_
  refine r_callVi (As := []) (st := [.int r1]) (pc := 1352) X.1 (c_f_M_alarms h2) rfl w_1516 w_1517 w_1518 w_84 w_1519 hdV_X11_alarms (Rc.s rfl ce_39) (by decide) hk0 hn0 (Nat.le_of_ble_eq_true rfl) dL_law_1352 rfl ?_
  exact l_eq (tgt := 1688) (pc := 1355) X rfl dL_law_1355 (by decide) (kk σ2 h3)
set_option maxHeartbeats 1000000 in
theorem lc_23 (X : LX Γ D B b L xs) {F : Nat} {Inv : St → Prop} {j : Nat} (hj : 5 * j + 5 ≤ L) (hop : B_waiting F Inv) {σ : St} (hI : Inv σ) {k n : Nat} (hk : k + 64 ≤ 601024) (hn : n + 768 ≤ 7293034) (kk : ∀ σ', Inv σ' → V Γ D B true 8 Q (k + 64) (n + 768) σ' 1688 (L5 B b j) []) : V Γ D B true 8 Q k n σ 1360 (L5 B b j) [] := by
  have hk0 : k + 64 + 0 ≤ room_1.cells := hk
  have hn0 : n + 768 + 0 ≤ room_1.slots := hn
  refine r_aload_n (x := some 0) (pc := 1360) X.1 dL_law_1360 1 rfl ?_
  refine V.mono (Nat.le_add_right k 64) (Nat.le_add_right n 768) ?_
  obtain ⟨r1, σ1, h1, σ2, h2, h3⟩ := hop σ hI
  refine r_callVi (As := []) (st := []) (pc := 1361) X.1 (c_f_P_waiting h1) rfl w_487 w_488 w_489 w_74 w_490 hdV_X10_waiting (Rc.s rfl ce_0) (by decide) hk0 hn0 (Nat.le_of_ble_eq_true rfl) dL_law_1361 rfl ?_
  refine r_aload_n (x := some 39) (pc := 1364) X.1 dL_law_1364 2 rfl ?_
  refine r_callVi (As := []) (st := [.int r1]) (pc := 1365) X.1 (c_f_M_waiting h2) rfl w_1520 w_1521 w_1522 w_84 w_1523 hdV_X11_waiting (Rc.s rfl ce_39) (by decide) hk0 hn0 (Nat.le_of_ble_eq_true rfl) dL_law_1365 rfl ?_
  exact l_eq (tgt := 1688) (pc := 1368) X rfl dL_law_1368 (by decide) (kk σ2 h3)
set_option maxHeartbeats 1000000 in
theorem lc_24 (X : LX Γ D B b L xs) {F : Nat} {Inv : St → Prop} {j : Nat} (hj : 5 * j + 5 ≤ L) (hop : B_alarm F Inv) {σ : St} (hI : Inv σ) {k n : Nat} (hk : k + 64 ≤ 601024) (hn : n + 768 ≤ 7293034) (kk : ∀ σ', Inv σ' → V Γ D B true 8 Q (k + 64) (n + 768) σ' 1688 (L5 B b j) []) : V Γ D B true 8 Q k n σ 1373 (L5 B b j) [] := by
  have hk0 : k + 64 + 0 ≤ room_1.cells := hk
  have hn0 : n + 768 + 0 ≤ room_1.slots := hn
  refine r_aload_n (x := some 0) (pc := 1373) X.1 dL_law_1373 1 rfl ?_
  refine l_arg (pc := 1374) (j := j) (q := 1) X rfl (by omega) rfl rfl dL_law_1374 dL_law_1375 dL_law_1377 dL_law_1378 dL_law_1379 ?_
  refine r_aload_n (x := some 70) (pc := 1380) X.1 dL_law_1380 3 rfl ?_
  obtain ⟨k1, σ1, h1, h2⟩ := hop σ hI (xs (5 * j + 1))
  refine l_wrap (As := [.ref (B + 0), .int (xs (5 * j + 1)), .ref (B + 70)]) (st := []) (pc := 1381) X (c_L_alarm h1) rfl w_1003 w_1004 w_73 w_1005 hdS_L_alarm (by decide) hk hn (Nat.le_of_ble_eq_true rfl) dL_law_1381 rfl (fun n9 hn9 => ?_)
  obtain ⟨b1, σ2, h2, h3, h4, h5⟩ := h2 n9 hn9
  refine r_istore (pc := 1384) (lv' := [(0, .ref b), (1, .ref (B + 0)), (2, .ref (B + 39)), (3, .ref (B + 70)), (4, .int (Int32.ofNat (5 * j))), (5, .int k1)]) X.1 dL_law_1384 (by decide) [1, 2, 3, 4, 5, 0] rfl ?_
  refine r_aload_n (x := some 39) (pc := 1386) X.1 dL_law_1386 2 rfl ?_
  refine l_arg (pc := 1387) (j := j) (q := 1) X rfl (by omega) rfl rfl dL_law_1387 dL_law_1388 dL_law_1390 dL_law_1391 dL_law_1392 ?_
  refine r_callVi (As := [.int (xs (5 * j + 1))]) (st := []) (pc := 1393) X.1 (c_f_M_alarm h2) rfl w_1524 w_1525 w_1526 w_84 w_1527 hdV_X11_alarm (Rc.s rfl ce_39) (by decide) hk0 hn0 (Nat.le_of_ble_eq_true rfl) dL_law_1393 rfl ?_
  refine r_istore (pc := 1396) (lv' := [(0, .ref b), (1, .ref (B + 0)), (2, .ref (B + 39)), (3, .ref (B + 70)), (4, .int (Int32.ofNat (5 * j))), (5, .int k1), (6, .int b1)]) X.1 dL_law_1396 (by decide) [1, 2, 3, 4, 5, 6, 0] rfl ?_
  refine r_aload_n (x := some 39) (pc := 1398) X.1 dL_law_1398 2 rfl ?_
  refine r_callVi (As := []) (st := []) (pc := 1399) X.1 (c_f_M_thrown (F := F) (s := σ2) rfl) rfl w_1249 w_1250 w_1251 w_84 w_1252 hdV_X11_thrown (Rc.s rfl ce_39) (by decide) hk0 hn0 (Nat.le_of_ble_eq_true rfl) dL_law_1399 rfl ?_
  refine r_iload (pc := 1402) X.1 dL_law_1402 5 rfl ?_
  refine l_eq (tgt := 1409) (pc := 1404) X h3 dL_law_1404 (by decide) ?_
  refine r_iload (pc := 1409) X.1 dL_law_1409 5 rfl ?_
  refine l_ne (tgt := 1426) (pc := 1411) X dL_law_1411 (by decide) (fun hz => ?_) (fun hz => ?_)
  · refine r_goto (tgt := 1688) (pc := 1426) X.1 dL_law_1426 (by decide) ?_
    exact r_forget [0, 1, 2, 3, 4] rfl (kk σ2 h5)
  · refine r_aload_n (x := some 70) (pc := 1414) X.1 dL_law_1414 3 rfl ?_
    refine r_iconst (v := 0) (pc := 1415) X.1 dL_law_1415 (by decide) ?_
    refine l_out (pc := 1416) X dL_law_1416 ?_
    refine r_iload (pc := 1417) X.1 dL_law_1417 6 rfl ?_
    refine r_i2l (pc := 1419) X.1 dL_law_1419 ?_
    refine l_lcmp (tgt := 1426) (pc := 1420) X (h4 hz) dL_law_1420 dL_law_1421 (by decide) ?_
    refine r_goto (tgt := 1688) (pc := 1426) X.1 dL_law_1426 (by decide) ?_
    exact r_forget [0, 1, 2, 3, 4] rfl (kk σ2 h5)
set_option maxHeartbeats 1000000 in
theorem lc_25 (X : LX Γ D B b L xs) {F : Nat} {Inv : St → Prop} {j : Nat} (hj : 5 * j + 5 ≤ L) (hop : B_woken F Inv) {σ : St} (hI : Inv σ) {k n : Nat} (hk : k + 64 ≤ 601024) (hn : n + 768 ≤ 7293034) (kk : ∀ σ', Inv σ' → V Γ D B true 8 Q (k + 64) (n + 768) σ' 1688 (L5 B b j) []) : V Γ D B true 8 Q k n σ 1429 (L5 B b j) [] := by
  have hk0 : k + 64 + 0 ≤ room_1.cells := hk
  have hn0 : n + 768 + 0 ≤ room_1.slots := hn
  refine r_aload_n (x := some 0) (pc := 1429) X.1 dL_law_1429 1 rfl ?_
  refine l_arg (pc := 1430) (j := j) (q := 1) X rfl (by omega) rfl rfl dL_law_1430 dL_law_1431 dL_law_1433 dL_law_1434 dL_law_1435 ?_
  refine r_aload_n (x := some 70) (pc := 1436) X.1 dL_law_1436 3 rfl ?_
  obtain ⟨k1, σ1, h1, h2⟩ := hop σ hI (xs (5 * j + 1))
  refine l_wrap (As := [.ref (B + 0), .int (xs (5 * j + 1)), .ref (B + 70)]) (st := []) (pc := 1437) X (c_L_woken h1) rfl w_1015 w_1016 w_73 w_1017 hdS_L_woken (by decide) hk hn (Nat.le_of_ble_eq_true rfl) dL_law_1437 rfl (fun n9 hn9 => ?_)
  obtain ⟨b1, σ2, h2, h3, h4, h5⟩ := h2 n9 hn9
  refine r_istore (pc := 1440) (lv' := [(0, .ref b), (1, .ref (B + 0)), (2, .ref (B + 39)), (3, .ref (B + 70)), (4, .int (Int32.ofNat (5 * j))), (5, .int k1)]) X.1 dL_law_1440 (by decide) [1, 2, 3, 4, 5, 0] rfl ?_
  refine r_aload_n (x := some 39) (pc := 1442) X.1 dL_law_1442 2 rfl ?_
  refine l_arg (pc := 1443) (j := j) (q := 1) X rfl (by omega) rfl rfl dL_law_1443 dL_law_1444 dL_law_1446 dL_law_1447 dL_law_1448 ?_
  refine r_callVi (As := [.int (xs (5 * j + 1))]) (st := []) (pc := 1449) X.1 (c_f_M_woken h2) rfl w_1532 w_1533 w_1534 w_84 w_1535 hdV_X11_woken (Rc.s rfl ce_39) (by decide) hk0 hn0 (Nat.le_of_ble_eq_true rfl) dL_law_1449 rfl ?_
  refine r_istore (pc := 1452) (lv' := [(0, .ref b), (1, .ref (B + 0)), (2, .ref (B + 39)), (3, .ref (B + 70)), (4, .int (Int32.ofNat (5 * j))), (5, .int k1), (6, .int b1)]) X.1 dL_law_1452 (by decide) [1, 2, 3, 4, 5, 6, 0] rfl ?_
  refine r_aload_n (x := some 39) (pc := 1454) X.1 dL_law_1454 2 rfl ?_
  refine r_callVi (As := []) (st := []) (pc := 1455) X.1 (c_f_M_thrown (F := F) (s := σ2) rfl) rfl w_1249 w_1250 w_1251 w_84 w_1252 hdV_X11_thrown (Rc.s rfl ce_39) (by decide) hk0 hn0 (Nat.le_of_ble_eq_true rfl) dL_law_1455 rfl ?_
  refine r_iload (pc := 1458) X.1 dL_law_1458 5 rfl ?_
  refine l_eq (tgt := 1465) (pc := 1460) X h3 dL_law_1460 (by decide) ?_
  refine r_iload (pc := 1465) X.1 dL_law_1465 5 rfl ?_
  refine l_ne (tgt := 1482) (pc := 1467) X dL_law_1467 (by decide) (fun hz => ?_) (fun hz => ?_)
  · refine r_goto (tgt := 1688) (pc := 1482) X.1 dL_law_1482 (by decide) ?_
    exact r_forget [0, 1, 2, 3, 4] rfl (kk σ2 h5)
  · refine r_aload_n (x := some 70) (pc := 1470) X.1 dL_law_1470 3 rfl ?_
    refine r_iconst (v := 0) (pc := 1471) X.1 dL_law_1471 (by decide) ?_
    refine l_out (pc := 1472) X dL_law_1472 ?_
    refine r_iload (pc := 1473) X.1 dL_law_1473 6 rfl ?_
    refine r_i2l (pc := 1475) X.1 dL_law_1475 ?_
    refine l_lcmp (tgt := 1482) (pc := 1476) X (h4 hz) dL_law_1476 dL_law_1477 (by decide) ?_
    refine r_goto (tgt := 1688) (pc := 1482) X.1 dL_law_1482 (by decide) ?_
    exact r_forget [0, 1, 2, 3, 4] rfl (kk σ2 h5)
set_option maxHeartbeats 1000000 in
theorem lc_26 (X : LX Γ D B b L xs) {F : Nat} {Inv : St → Prop} {j : Nat} (hj : 5 * j + 5 ≤ L) (hop : B_wokenAt F Inv) {σ : St} (hI : Inv σ) {k n : Nat} (hk : k + 64 ≤ 601024) (hn : n + 768 ≤ 7293034) (kk : ∀ σ', Inv σ' → V Γ D B true 8 Q (k + 64) (n + 768) σ' 1688 (L5 B b j) []) : V Γ D B true 8 Q k n σ 1485 (L5 B b j) [] := by
  have hk0 : k + 64 + 0 ≤ room_1.cells := hk
  have hn0 : n + 768 + 0 ≤ room_1.slots := hn
  refine r_aload_n (x := some 0) (pc := 1485) X.1 dL_law_1485 1 rfl ?_
  refine l_arg (pc := 1486) (j := j) (q := 1) X rfl (by omega) rfl rfl dL_law_1486 dL_law_1487 dL_law_1489 dL_law_1490 dL_law_1491 ?_
  refine r_aload_n (x := some 70) (pc := 1492) X.1 dL_law_1492 3 rfl ?_
  obtain ⟨k1, σ1, h1, h2⟩ := hop σ hI (xs (5 * j + 1))
  refine l_wrap (As := [.ref (B + 0), .int (xs (5 * j + 1)), .ref (B + 70)]) (st := []) (pc := 1493) X (c_L_wokenAt h1) rfl w_1026 w_1027 w_73 w_1028 hdS_L_wokenAt (by decide) hk hn (Nat.le_of_ble_eq_true rfl) dL_law_1493 rfl (fun n9 hn9 => ?_)
  obtain ⟨b1, σ2, h2, h3, h4, h5⟩ := h2 n9 hn9
  refine r_istore (pc := 1496) (lv' := [(0, .ref b), (1, .ref (B + 0)), (2, .ref (B + 39)), (3, .ref (B + 70)), (4, .int (Int32.ofNat (5 * j))), (5, .int k1)]) X.1 dL_law_1496 (by decide) [1, 2, 3, 4, 5, 0] rfl ?_
  refine r_aload_n (x := some 39) (pc := 1498) X.1 dL_law_1498 2 rfl ?_
  refine l_arg (pc := 1499) (j := j) (q := 1) X rfl (by omega) rfl rfl dL_law_1499 dL_law_1500 dL_law_1502 dL_law_1503 dL_law_1504 ?_
  refine r_callVi (As := [.int (xs (5 * j + 1))]) (st := []) (pc := 1505) X.1 (c_f_M_wokenAt h2) rfl w_1536 w_1537 w_1538 w_84 w_1539 hdV_X11_wokenAt (Rc.s rfl ce_39) (by decide) hk0 hn0 (Nat.le_of_ble_eq_true rfl) dL_law_1505 rfl ?_
  refine r_istore (pc := 1508) (lv' := [(0, .ref b), (1, .ref (B + 0)), (2, .ref (B + 39)), (3, .ref (B + 70)), (4, .int (Int32.ofNat (5 * j))), (5, .int k1), (6, .int b1)]) X.1 dL_law_1508 (by decide) [1, 2, 3, 4, 5, 6, 0] rfl ?_
  refine r_aload_n (x := some 39) (pc := 1510) X.1 dL_law_1510 2 rfl ?_
  refine r_callVi (As := []) (st := []) (pc := 1511) X.1 (c_f_M_thrown (F := F) (s := σ2) rfl) rfl w_1249 w_1250 w_1251 w_84 w_1252 hdV_X11_thrown (Rc.s rfl ce_39) (by decide) hk0 hn0 (Nat.le_of_ble_eq_true rfl) dL_law_1511 rfl ?_
  refine r_iload (pc := 1514) X.1 dL_law_1514 5 rfl ?_
  refine l_eq (tgt := 1521) (pc := 1516) X h3 dL_law_1516 (by decide) ?_
  refine r_iload (pc := 1521) X.1 dL_law_1521 5 rfl ?_
  refine l_ne (tgt := 1538) (pc := 1523) X dL_law_1523 (by decide) (fun hz => ?_) (fun hz => ?_)
  · refine r_goto (tgt := 1688) (pc := 1538) X.1 dL_law_1538 (by decide) ?_
    exact r_forget [0, 1, 2, 3, 4] rfl (kk σ2 h5)
  · refine r_aload_n (x := some 70) (pc := 1526) X.1 dL_law_1526 3 rfl ?_
    refine r_iconst (v := 0) (pc := 1527) X.1 dL_law_1527 (by decide) ?_
    refine l_out (pc := 1528) X dL_law_1528 ?_
    refine r_iload (pc := 1529) X.1 dL_law_1529 6 rfl ?_
    refine r_i2l (pc := 1531) X.1 dL_law_1531 ?_
    refine l_lcmp (tgt := 1538) (pc := 1532) X (h4 hz) dL_law_1532 dL_law_1533 (by decide) ?_
    refine r_goto (tgt := 1688) (pc := 1538) X.1 dL_law_1538 (by decide) ?_
    exact r_forget [0, 1, 2, 3, 4] rfl (kk σ2 h5)
set_option maxHeartbeats 1000000 in
theorem lc_27 (X : LX Γ D B b L xs) {F : Nat} {Inv : St → Prop} {j : Nat} (hj : 5 * j + 5 ≤ L) (hop : B_answer F Inv) {σ : St} (hI : Inv σ) {k n : Nat} (hk : k + 64 ≤ 601024) (hn : n + 768 ≤ 7293034) (kk : ∀ σ', Inv σ' → V Γ D B true 8 Q (k + 64) (n + 768) σ' 1688 (L5 B b j) []) : V Γ D B true 8 Q k n σ 1541 (L5 B b j) [] := by
  have hk0 : k + 64 + 0 ≤ room_1.cells := hk
  have hn0 : n + 768 + 0 ≤ room_1.slots := hn
  refine r_aload_n (x := some 0) (pc := 1541) X.1 dL_law_1541 1 rfl ?_
  refine l_arg (pc := 1542) (j := j) (q := 1) X rfl (by omega) rfl rfl dL_law_1542 dL_law_1543 dL_law_1545 dL_law_1546 dL_law_1547 ?_
  refine l_arg (pc := 1548) (j := j) (q := 2) X rfl (by omega) rfl rfl dL_law_1548 dL_law_1549 dL_law_1551 dL_law_1552 dL_law_1553 ?_
  have hbool : V Γ D B true 8 Q k n σ 1562 [(0, .ref b), (1, .ref (B + 0)), (2, .ref (B + 39)), (3, .ref (B + 70)), (4, .int (Int32.ofNat (5 * j)))] (.int (if xs (5 * j + 2) = 0 then (0 : Int32) else 1) :: [.int (xs (5 * j + 1)), .ref (B + 0)]) → V Γ D B true 8 Q k n σ 1554 [(0, .ref b), (1, .ref (B + 0)), (2, .ref (B + 39)), (3, .ref (B + 70)), (4, .int (Int32.ofNat (5 * j)))] (.int (xs (5 * j + 2)) :: [.int (xs (5 * j + 1)), .ref (B + 0)]) := by
    intro hk9
    refine l_eq0 (tgt := 1561) (pc := 1554) X dL_law_1554 (by decide) (fun h => ?_) (fun h => ?_)
    · rw [if_pos h] at hk9
      exact r_iconst (v := 0) (pc := 1561) X.1 dL_law_1561 (by decide) hk9
    · rw [if_neg h] at hk9
      exact r_iconst (v := 1) (pc := 1557) X.1 dL_law_1557 (by decide) (r_goto (tgt := 1562) (pc := 1558) X.1 dL_law_1558 (by decide) hk9)
  refine hbool ?_
  refine r_aload_n (x := some 70) (pc := 1562) X.1 dL_law_1562 3 rfl ?_
  obtain ⟨k1, σ1, h1, h2⟩ := hop σ hI (xs (5 * j + 1)) (xs (5 * j + 2))
  refine l_wrap (As := [.ref (B + 0), .int (xs (5 * j + 1)), .int (if xs (5 * j + 2) = 0 then (0 : Int32) else 1), .ref (B + 70)]) (st := []) (pc := 1563) X (c_L_answer h1) rfl w_1050 w_1051 w_73 w_1052 hdS_L_answer (by decide) hk hn (Nat.le_of_ble_eq_true rfl) dL_law_1563 rfl (fun n9 hn9 => ?_)
  obtain ⟨b1, σ2, h2, h3, h4, h5⟩ := h2 n9 hn9
  refine r_istore (pc := 1566) (lv' := [(0, .ref b), (1, .ref (B + 0)), (2, .ref (B + 39)), (3, .ref (B + 70)), (4, .int (Int32.ofNat (5 * j))), (5, .int k1)]) X.1 dL_law_1566 (by decide) [1, 2, 3, 4, 5, 0] rfl ?_
  refine r_aload_n (x := some 39) (pc := 1568) X.1 dL_law_1568 2 rfl ?_
  refine l_arg (pc := 1569) (j := j) (q := 1) X rfl (by omega) rfl rfl dL_law_1569 dL_law_1570 dL_law_1572 dL_law_1573 dL_law_1574 ?_
  refine l_arg (pc := 1575) (j := j) (q := 2) X rfl (by omega) rfl rfl dL_law_1575 dL_law_1576 dL_law_1578 dL_law_1579 dL_law_1580 ?_
  have hbool : V Γ D B true 8 Q (k + 64) (n + 768) (sz' σ1 n9) 1589 [(0, .ref b), (1, .ref (B + 0)), (2, .ref (B + 39)), (3, .ref (B + 70)), (4, .int (Int32.ofNat (5 * j))), (5, .int k1)] (.int (if xs (5 * j + 2) = 0 then (0 : Int32) else 1) :: [.int (xs (5 * j + 1)), .ref (B + 39)]) → V Γ D B true 8 Q (k + 64) (n + 768) (sz' σ1 n9) 1581 [(0, .ref b), (1, .ref (B + 0)), (2, .ref (B + 39)), (3, .ref (B + 70)), (4, .int (Int32.ofNat (5 * j))), (5, .int k1)] (.int (xs (5 * j + 2)) :: [.int (xs (5 * j + 1)), .ref (B + 39)]) := by
    intro hk9
    refine l_eq0 (tgt := 1588) (pc := 1581) X dL_law_1581 (by decide) (fun h => ?_) (fun h => ?_)
    · rw [if_pos h] at hk9
      exact r_iconst (v := 0) (pc := 1588) X.1 dL_law_1588 (by decide) hk9
    · rw [if_neg h] at hk9
      exact r_iconst (v := 1) (pc := 1584) X.1 dL_law_1584 (by decide) (r_goto (tgt := 1589) (pc := 1585) X.1 dL_law_1585 (by decide) hk9)
  refine hbool ?_
  refine r_callVi (As := [.int (xs (5 * j + 1)), .int (if xs (5 * j + 2) = 0 then (0 : Int32) else 1)]) (st := []) (pc := 1589) X.1 (c_f_M_answer h2) rfl w_1540 w_1541 w_1542 w_84 w_1543 hdV_X11_answer (Rc.s rfl ce_39) (by decide) hk0 hn0 (Nat.le_of_ble_eq_true rfl) dL_law_1589 rfl ?_
  refine r_istore (pc := 1592) (lv' := [(0, .ref b), (1, .ref (B + 0)), (2, .ref (B + 39)), (3, .ref (B + 70)), (4, .int (Int32.ofNat (5 * j))), (5, .int k1), (6, .int b1)]) X.1 dL_law_1592 (by decide) [1, 2, 3, 4, 5, 6, 0] rfl ?_
  refine r_aload_n (x := some 39) (pc := 1594) X.1 dL_law_1594 2 rfl ?_
  refine r_callVi (As := []) (st := []) (pc := 1595) X.1 (c_f_M_thrown (F := F) (s := σ2) rfl) rfl w_1249 w_1250 w_1251 w_84 w_1252 hdV_X11_thrown (Rc.s rfl ce_39) (by decide) hk0 hn0 (Nat.le_of_ble_eq_true rfl) dL_law_1595 rfl ?_
  refine r_iload (pc := 1598) X.1 dL_law_1598 5 rfl ?_
  refine l_eq (tgt := 1605) (pc := 1600) X h3 dL_law_1600 (by decide) ?_
  refine r_iload (pc := 1605) X.1 dL_law_1605 5 rfl ?_
  refine l_ne (tgt := 1622) (pc := 1607) X dL_law_1607 (by decide) (fun hz => ?_) (fun hz => ?_)
  · refine r_goto (tgt := 1688) (pc := 1622) X.1 dL_law_1622 (by decide) ?_
    exact r_forget [0, 1, 2, 3, 4] rfl (kk σ2 h5)
  · refine r_aload_n (x := some 70) (pc := 1610) X.1 dL_law_1610 3 rfl ?_
    refine r_iconst (v := 0) (pc := 1611) X.1 dL_law_1611 (by decide) ?_
    refine l_out (pc := 1612) X dL_law_1612 ?_
    refine r_iload (pc := 1613) X.1 dL_law_1613 6 rfl ?_
    refine r_i2l (pc := 1615) X.1 dL_law_1615 ?_
    refine l_lcmp (tgt := 1622) (pc := 1616) X (h4 hz) dL_law_1616 dL_law_1617 (by decide) ?_
    refine r_goto (tgt := 1688) (pc := 1622) X.1 dL_law_1622 (by decide) ?_
    exact r_forget [0, 1, 2, 3, 4] rfl (kk σ2 h5)
set_option maxHeartbeats 1000000 in
theorem lc_28 (X : LX Γ D B b L xs) {F : Nat} {Inv : St → Prop} {j : Nat} (hj : 5 * j + 5 ≤ L) (hop : B_wouldRise F Inv) {σ : St} (hI : Inv σ) {k n : Nat} (hk : k + 64 ≤ 601024) (hn : n + 768 ≤ 7293034) (kk : ∀ σ', Inv σ' → V Γ D B true 8 Q (k + 64) (n + 768) σ' 1688 (L5 B b j) []) : V Γ D B true 8 Q k n σ 1625 (L5 B b j) [] := by
  have hk0 : k + 64 + 0 ≤ room_1.cells := hk
  have hn0 : n + 768 + 0 ≤ room_1.slots := hn
  refine r_aload_n (x := some 0) (pc := 1625) X.1 dL_law_1625 1 rfl ?_
  refine l_arg (pc := 1626) (j := j) (q := 1) X rfl (by omega) rfl rfl dL_law_1626 dL_law_1627 dL_law_1629 dL_law_1630 dL_law_1631 ?_
  refine r_aload_n (x := some 70) (pc := 1632) X.1 dL_law_1632 3 rfl ?_
  obtain ⟨k1, σ1, h1, h2⟩ := hop σ hI (xs (5 * j + 1))
  refine l_wrap (As := [.ref (B + 0), .int (xs (5 * j + 1)), .ref (B + 70)]) (st := []) (pc := 1633) X (c_L_wouldRise h1) rfl w_1067 w_1068 w_73 w_1069 hdS_L_wouldRise (by decide) hk hn (Nat.le_of_ble_eq_true rfl) dL_law_1633 rfl (fun n9 hn9 => ?_)
  obtain ⟨b1, σ2, h2, h3, h4, h5⟩ := h2 n9 hn9
  refine r_istore (pc := 1636) (lv' := [(0, .ref b), (1, .ref (B + 0)), (2, .ref (B + 39)), (3, .ref (B + 70)), (4, .int (Int32.ofNat (5 * j))), (5, .int k1)]) X.1 dL_law_1636 (by decide) [1, 2, 3, 4, 5, 0] rfl ?_
  refine r_aload_n (x := some 39) (pc := 1638) X.1 dL_law_1638 2 rfl ?_
  refine l_arg (pc := 1639) (j := j) (q := 1) X rfl (by omega) rfl rfl dL_law_1639 dL_law_1640 dL_law_1642 dL_law_1643 dL_law_1644 ?_
  refine r_callVi (As := [.int (xs (5 * j + 1))]) (st := []) (pc := 1645) X.1 (c_f_M_wouldRise h2) rfl w_1545 w_1546 w_1547 w_84 w_1548 hdV_X11_wouldRise (Rc.s rfl ce_39) (by decide) hk0 hn0 (Nat.le_of_ble_eq_true rfl) dL_law_1645 rfl ?_
  refine r_istore (pc := 1648) (lv' := [(0, .ref b), (1, .ref (B + 0)), (2, .ref (B + 39)), (3, .ref (B + 70)), (4, .int (Int32.ofNat (5 * j))), (5, .int k1), (6, .int b1)]) X.1 dL_law_1648 (by decide) [1, 2, 3, 4, 5, 6, 0] rfl ?_
  refine r_aload_n (x := some 39) (pc := 1650) X.1 dL_law_1650 2 rfl ?_
  refine r_callVi (As := []) (st := []) (pc := 1651) X.1 (c_f_M_thrown (F := F) (s := σ2) rfl) rfl w_1249 w_1250 w_1251 w_84 w_1252 hdV_X11_thrown (Rc.s rfl ce_39) (by decide) hk0 hn0 (Nat.le_of_ble_eq_true rfl) dL_law_1651 rfl ?_
  refine r_iload (pc := 1654) X.1 dL_law_1654 5 rfl ?_
  refine l_eq (tgt := 1661) (pc := 1656) X h3 dL_law_1656 (by decide) ?_
  refine r_iload (pc := 1661) X.1 dL_law_1661 5 rfl ?_
  refine l_ne (tgt := 1685) (pc := 1663) X dL_law_1663 (by decide) (fun hz => ?_) (fun hz => ?_)
  · refine r_goto (tgt := 1688) (pc := 1685) X.1 dL_law_1685 (by decide) ?_
    exact r_forget [0, 1, 2, 3, 4] rfl (kk σ2 h5)
  · refine r_aload_n (x := some 70) (pc := 1666) X.1 dL_law_1666 3 rfl ?_
    refine r_iconst (v := 0) (pc := 1667) X.1 dL_law_1667 (by decide) ?_
    refine l_out (pc := 1668) X dL_law_1668 ?_
    refine r_iload (pc := 1669) X.1 dL_law_1669 6 rfl ?_
    refine l_eq0 (tgt := 1678) (pc := 1671) X dL_law_1671 (by decide) (fun hb => ?_) (fun hb => ?_)
    · refine r_lconst (v := 0) (pc := 1678) X.1 dL_law_1678 (by decide) ?_
      refine l_lcmp (tgt := 1685) (pc := 1679) X ((h4 hz).trans (if_pos hb)) dL_law_1679 dL_law_1680 (by decide) ?_
      refine r_goto (tgt := 1688) (pc := 1685) X.1 dL_law_1685 (by decide) ?_
      exact r_forget [0, 1, 2, 3, 4] rfl (kk σ2 h5)
    · refine r_lconst (v := 1) (pc := 1674) X.1 dL_law_1674 (by decide) ?_
      refine r_goto (tgt := 1679) (pc := 1675) X.1 dL_law_1675 (by decide) ?_
      refine l_lcmp (tgt := 1685) (pc := 1679) X ((h4 hz).trans (if_neg hb)) dL_law_1679 dL_law_1680 (by decide) ?_
      refine r_goto (tgt := 1688) (pc := 1685) X.1 dL_law_1685 (by decide) ?_
      exact r_forget [0, 1, 2, 3, 4] rfl (kk σ2 h5)
end LAWC
def BB (F : Nat) (Inv : St → Prop) : Prop := Inv σi ∧ B_type F Inv ∧ B_clearText F Inv ∧ B_errorAt F Inv ∧ B_ask F Inv ∧ B_askByCodes F Inv ∧ B_pass F Inv ∧ B_now F Inv ∧ B_log F Inv ∧ B_addPerson F Inv ∧ B_off F Inv ∧ B_swap F Inv ∧ B_planned F Inv ∧ B_next F Inv ∧ B_holder F Inv ∧ B_nights F Inv ∧ B_owes F Inv ∧ B_addRule F Inv ∧ B_drop F Inv ∧ B_silence F Inv ∧ B_inWindow F Inv ∧ B_rises F Inv ∧ B_risesAnew F Inv ∧ B_alarms F Inv ∧ B_waiting F Inv ∧ B_alarm F Inv ∧ B_woken F Inv ∧ B_wokenAt F Inv ∧ B_answer F Inv ∧ B_wouldRise F Inv
