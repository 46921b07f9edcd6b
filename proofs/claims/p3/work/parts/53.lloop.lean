/-! THE LAW'S LOOP: its cases, each over the contracts of the calls in it -/
def lvl (a b : Int32) : Int64 := (a.toInt64 <<< ((32 : Int32).toInt64 &&& 63)) ||| (b.toInt64 &&& 4294967295)
def wL (gm : Nat → Nat) (ca : Nat → ClassId) (gq : Nat → Nat) (cq : Nat → ClassId) (o : Nat) (cO : ClassId) (st : BSt) (ms : MSt) (f : Nat → Int64) : va_W := wO gm ca st o cO f ++ wM gq cq ms
theorem wL_b {gm : Nat → Nat} {ca : Nat → ClassId} {gq : Nat → Nat} {cq : Nat → ClassId} {o : Nat} {cO : ClassId} {st : BSt} {ms : MSt} {f : Nat → Int64} : (wL gm ca gq cq o cO st ms f).Perm (wB gm ca st ++ (wM gq cq ms ++ [eO o cO f])) := by
  show (eO o cO f :: (wB gm ca st ++ wM gq cq ms)).Perm _
  rw [← List.append_assoc]
  exact (List.perm_append_singleton _ _).symm
abbrev lvL (b : Nat) (gm gq : Nat → Nat) (o : Nat) (i : Int32) : List (Nat × Value) := [(0, .ref b), (1, .ref (gm 0)), (2, .ref (gq 0)), (3, .ref o), (4, .int i)]
def LC (p : Program) (s : State) (m : MethodId) (args : Array Value) (c : Code) (D : va_G) (A : Nat → Prop) (b L : Nat) (xs : Nat → Int32) (ca cq : Nat → ClassId) (cO : ClassId) : Prop :=
  p.tables.exec = Jvm.exec ∧ c.code = code ∧ c.maxLocals = 8 ∧ s.vm.findClass R_law = some m.cls ∧ (∀ w ∈ lw_g, w.before args s = true) ∧ lk D (tysO ca cO) s ∧ lk D (tysM cq) s ∧ zz A s s.heap ∧ (∀ q, s.heap.size ≤ q → A q) ∧ va_X b L xs s s.heap ∧ b < s.heap.size ∧ ¬ A b
theorem dw_0 : decode code 0 = .ok (.new 8, 3) := by decide +kernel
theorem dw_3 : decode code 3 = .ok (.dup, 1) := by decide +kernel
theorem dw_4 : decode code 4 = .ok (.aload_n 0, 1) := by decide +kernel
theorem dw_5 : decode code 5 = .ok (.iconst 0, 1) := by decide +kernel
theorem dw_6 : decode code 6 = .ok (.invokestatic 64, 3) := by decide +kernel
theorem dw_9 : decode code 9 = .ok (.invokespecial 70, 3) := by decide +kernel
theorem dw_12 : decode code 12 = .ok (.astore_n 1, 1) := by decide +kernel
theorem dw_13 : decode code 13 = .ok (.new 73, 3) := by decide +kernel
theorem dw_16 : decode code 16 = .ok (.dup, 1) := by decide +kernel
theorem dw_17 : decode code 17 = .ok (.aload_n 0, 1) := by decide +kernel
theorem dw_18 : decode code 18 = .ok (.iconst 0, 1) := by decide +kernel
theorem dw_19 : decode code 19 = .ok (.invokestatic 64, 3) := by decide +kernel
theorem dw_22 : decode code 22 = .ok (.invokespecial 75, 3) := by decide +kernel
theorem dw_25 : decode code 25 = .ok (.astore_n 2, 1) := by decide +kernel
theorem dw_26 : decode code 26 = .ok (.iconst 1, 1) := by decide +kernel
theorem dw_27 : decode code 27 = .ok (.newarray .long, 2) := by decide +kernel
theorem dw_29 : decode code 29 = .ok (.astore_n 3, 1) := by decide +kernel
theorem dw_30 : decode code 30 = .ok (.iconst 1, 1) := by decide +kernel
theorem dw_31 : decode code 31 = .ok (.istore 4, 2) := by decide +kernel
theorem dw_33 : decode code 33 = .ok (.iload 4, 2) := by decide +kernel
theorem dw_35 : decode code 35 = .ok (.aload_n 0, 1) := by decide +kernel
theorem dw_36 : decode code 36 = .ok (.arraylength, 1) := by decide +kernel
theorem dw_37 : decode code 37 = .ok (.iconst 5, 1) := by decide +kernel
theorem dw_38 : decode code 38 = .ok (.isub, 1) := by decide +kernel
theorem dw_39 : decode code 39 = .ok (.if_icmp .gt 751, 3) := by decide +kernel
theorem dw_42 : decode code 42 = .ok (.aload_n 0, 1) := by decide +kernel
theorem dw_43 : decode code 43 = .ok (.iload 4, 2) := by decide +kernel
theorem dw_45 : decode code 45 = .ok (.iaload, 1) := by decide +kernel
theorem dw_46 : decode code 46 = .ok (.bipush 15, 2) := by decide +kernel
theorem dw_48 : decode code 48 = .ok (.iand, 1) := by decide +kernel
theorem dw_49 : decode code 49 = .ok (.tableswitch 735 0 15 #[79, 151, 207, 223, 263, 303, 343, 383, 423, 439, 467, 480, 520, 560, 641, 722], 79) := by decide +kernel
theorem dw_128 : decode code 128 = .ok (.aload_n 1, 1) := by decide +kernel
theorem dw_129 : decode code 129 = .ok (.aload_n 0, 1) := by decide +kernel
theorem dw_130 : decode code 130 = .ok (.iload 4, 2) := by decide +kernel
theorem dw_132 : decode code 132 = .ok (.iconst 1, 1) := by decide +kernel
theorem dw_133 : decode code 133 = .ok (.iadd, 1) := by decide +kernel
theorem dw_134 : decode code 134 = .ok (.iaload, 1) := by decide +kernel
theorem dw_135 : decode code 135 = .ok (.aload_n 0, 1) := by decide +kernel
theorem dw_136 : decode code 136 = .ok (.iload 4, 2) := by decide +kernel
theorem dw_138 : decode code 138 = .ok (.iconst 2, 1) := by decide +kernel
theorem dw_139 : decode code 139 = .ok (.iadd, 1) := by decide +kernel
theorem dw_140 : decode code 140 = .ok (.iaload, 1) := by decide +kernel
theorem dw_141 : decode code 141 = .ok (.i2l, 1) := by decide +kernel
theorem dw_142 : decode code 142 = .ok (.bipush 32, 2) := by decide +kernel
theorem dw_144 : decode code 144 = .ok (.lshl, 1) := by decide +kernel
theorem dw_145 : decode code 145 = .ok (.aload_n 0, 1) := by decide +kernel
theorem dw_146 : decode code 146 = .ok (.iload 4, 2) := by decide +kernel
theorem dw_148 : decode code 148 = .ok (.iconst 3, 1) := by decide +kernel
theorem dw_149 : decode code 149 = .ok (.iadd, 1) := by decide +kernel
theorem dw_150 : decode code 150 = .ok (.iaload, 1) := by decide +kernel
theorem dw_151 : decode code 151 = .ok (.i2l, 1) := by decide +kernel
theorem dw_152 : decode code 152 = .ok (.ldc2_w 76, 3) := by decide +kernel
theorem dw_155 : decode code 155 = .ok (.land, 1) := by decide +kernel
theorem dw_156 : decode code 156 = .ok (.lor, 1) := by decide +kernel
theorem dw_157 : decode code 157 = .ok (.aload_n 3, 1) := by decide +kernel
theorem dw_158 : decode code 158 = .ok (.invokestatic 78, 3) := by decide +kernel
theorem dw_161 : decode code 161 = .ok (.istore 5, 2) := by decide +kernel
theorem dw_163 : decode code 163 = .ok (.aload_n 2, 1) := by decide +kernel
theorem dw_164 : decode code 164 = .ok (.aload_n 0, 1) := by decide +kernel
theorem dw_165 : decode code 165 = .ok (.iload 4, 2) := by decide +kernel
theorem dw_167 : decode code 167 = .ok (.iconst 1, 1) := by decide +kernel
theorem dw_168 : decode code 168 = .ok (.iadd, 1) := by decide +kernel
theorem dw_169 : decode code 169 = .ok (.iaload, 1) := by decide +kernel
theorem dw_170 : decode code 170 = .ok (.aload_n 0, 1) := by decide +kernel
theorem dw_171 : decode code 171 = .ok (.iload 4, 2) := by decide +kernel
theorem dw_173 : decode code 173 = .ok (.iconst 2, 1) := by decide +kernel
theorem dw_174 : decode code 174 = .ok (.iadd, 1) := by decide +kernel
theorem dw_175 : decode code 175 = .ok (.iaload, 1) := by decide +kernel
theorem dw_176 : decode code 176 = .ok (.i2l, 1) := by decide +kernel
theorem dw_177 : decode code 177 = .ok (.bipush 32, 2) := by decide +kernel
theorem dw_179 : decode code 179 = .ok (.lshl, 1) := by decide +kernel
theorem dw_180 : decode code 180 = .ok (.aload_n 0, 1) := by decide +kernel
theorem dw_181 : decode code 181 = .ok (.iload 4, 2) := by decide +kernel
theorem dw_183 : decode code 183 = .ok (.iconst 3, 1) := by decide +kernel
theorem dw_184 : decode code 184 = .ok (.iadd, 1) := by decide +kernel
theorem dw_185 : decode code 185 = .ok (.iaload, 1) := by decide +kernel
theorem dw_186 : decode code 186 = .ok (.i2l, 1) := by decide +kernel
theorem dw_187 : decode code 187 = .ok (.ldc2_w 76, 3) := by decide +kernel
theorem dw_190 : decode code 190 = .ok (.land, 1) := by decide +kernel
theorem dw_191 : decode code 191 = .ok (.lor, 1) := by decide +kernel
theorem dw_192 : decode code 192 = .ok (.invokevirtual 81, 3) := by decide +kernel
theorem dw_195 : decode code 195 = .ok (.istore 6, 2) := by decide +kernel
theorem dw_197 : decode code 197 = .ok (.goto 587, 3) := by decide +kernel
theorem dw_200 : decode code 200 = .ok (.aload_n 1, 1) := by decide +kernel
theorem dw_201 : decode code 201 = .ok (.aload_n 0, 1) := by decide +kernel
theorem dw_202 : decode code 202 = .ok (.iload 4, 2) := by decide +kernel
theorem dw_204 : decode code 204 = .ok (.iconst 1, 1) := by decide +kernel
theorem dw_205 : decode code 205 = .ok (.iadd, 1) := by decide +kernel
theorem dw_206 : decode code 206 = .ok (.iaload, 1) := by decide +kernel
theorem dw_207 : decode code 207 = .ok (.aload_n 3, 1) := by decide +kernel
theorem dw_208 : decode code 208 = .ok (.invokestatic 82, 3) := by decide +kernel
theorem dw_211 : decode code 211 = .ok (.istore 5, 2) := by decide +kernel
theorem dw_213 : decode code 213 = .ok (.aload_n 2, 1) := by decide +kernel
theorem dw_214 : decode code 214 = .ok (.aload_n 0, 1) := by decide +kernel
theorem dw_215 : decode code 215 = .ok (.iload 4, 2) := by decide +kernel
theorem dw_217 : decode code 217 = .ok (.iconst 1, 1) := by decide +kernel
theorem dw_218 : decode code 218 = .ok (.iadd, 1) := by decide +kernel
theorem dw_219 : decode code 219 = .ok (.iaload, 1) := by decide +kernel
theorem dw_220 : decode code 220 = .ok (.invokevirtual 85, 3) := by decide +kernel
theorem dw_223 : decode code 223 = .ok (.istore 6, 2) := by decide +kernel
theorem dw_225 : decode code 225 = .ok (.aload_n 2, 1) := by decide +kernel
theorem dw_226 : decode code 226 = .ok (.invokevirtual 86, 3) := by decide +kernel
theorem dw_229 : decode code 229 = .ok (.iload 5, 2) := by decide +kernel
theorem dw_231 : decode code 231 = .ok (.if_icmp .eq 5, 3) := by decide +kernel
theorem dw_234 : decode code 234 = .ok (.iconst 0, 1) := by decide +kernel
theorem dw_235 : decode code 235 = .ok (.ireturn, 1) := by decide +kernel
theorem dw_236 : decode code 236 = .ok (.iload 5, 2) := by decide +kernel
theorem dw_238 : decode code 238 = .ok (.ifCond .ne 15, 3) := by decide +kernel
theorem dw_241 : decode code 241 = .ok (.aload_n 3, 1) := by decide +kernel
theorem dw_242 : decode code 242 = .ok (.iconst 0, 1) := by decide +kernel
theorem dw_243 : decode code 243 = .ok (.laload, 1) := by decide +kernel
theorem dw_244 : decode code 244 = .ok (.iload 6, 2) := by decide +kernel
theorem dw_246 : decode code 246 = .ok (.i2l, 1) := by decide +kernel
theorem dw_247 : decode code 247 = .ok (.lcmp, 1) := by decide +kernel
theorem dw_248 : decode code 248 = .ok (.ifCond .eq 5, 3) := by decide +kernel
theorem dw_251 : decode code 251 = .ok (.iconst 0, 1) := by decide +kernel
theorem dw_252 : decode code 252 = .ok (.ireturn, 1) := by decide +kernel
theorem dw_253 : decode code 253 = .ok (.goto 531, 3) := by decide +kernel
theorem dw_256 : decode code 256 = .ok (.aload_n 1, 1) := by decide +kernel
theorem dw_257 : decode code 257 = .ok (.aload_n 3, 1) := by decide +kernel
theorem dw_258 : decode code 258 = .ok (.invokestatic 89, 3) := by decide +kernel
theorem dw_261 : decode code 261 = .ok (.istore 5, 2) := by decide +kernel
theorem dw_263 : decode code 263 = .ok (.aload_n 2, 1) := by decide +kernel
theorem dw_264 : decode code 264 = .ok (.invokevirtual 92, 3) := by decide +kernel
theorem dw_267 : decode code 267 = .ok (.istore 6, 2) := by decide +kernel
theorem dw_269 : decode code 269 = .ok (.goto 515, 3) := by decide +kernel
theorem dw_272 : decode code 272 = .ok (.aload_n 1, 1) := by decide +kernel
theorem dw_273 : decode code 273 = .ok (.aload_n 0, 1) := by decide +kernel
theorem dw_274 : decode code 274 = .ok (.iload 4, 2) := by decide +kernel
theorem dw_276 : decode code 276 = .ok (.iconst 1, 1) := by decide +kernel
theorem dw_277 : decode code 277 = .ok (.iadd, 1) := by decide +kernel
theorem dw_278 : decode code 278 = .ok (.iaload, 1) := by decide +kernel
theorem dw_279 : decode code 279 = .ok (.aload_n 0, 1) := by decide +kernel
theorem dw_280 : decode code 280 = .ok (.iload 4, 2) := by decide +kernel
theorem dw_282 : decode code 282 = .ok (.iconst 2, 1) := by decide +kernel
theorem dw_283 : decode code 283 = .ok (.iadd, 1) := by decide +kernel
theorem dw_284 : decode code 284 = .ok (.iaload, 1) := by decide +kernel
theorem dw_285 : decode code 285 = .ok (.aload_n 3, 1) := by decide +kernel
theorem dw_286 : decode code 286 = .ok (.invokestatic 93, 3) := by decide +kernel
theorem dw_289 : decode code 289 = .ok (.istore 5, 2) := by decide +kernel
theorem dw_291 : decode code 291 = .ok (.aload_n 2, 1) := by decide +kernel
theorem dw_292 : decode code 292 = .ok (.aload_n 0, 1) := by decide +kernel
theorem dw_293 : decode code 293 = .ok (.iload 4, 2) := by decide +kernel
theorem dw_295 : decode code 295 = .ok (.iconst 1, 1) := by decide +kernel
theorem dw_296 : decode code 296 = .ok (.iadd, 1) := by decide +kernel
theorem dw_297 : decode code 297 = .ok (.iaload, 1) := by decide +kernel
theorem dw_298 : decode code 298 = .ok (.aload_n 0, 1) := by decide +kernel
theorem dw_299 : decode code 299 = .ok (.iload 4, 2) := by decide +kernel
theorem dw_301 : decode code 301 = .ok (.iconst 2, 1) := by decide +kernel
theorem dw_302 : decode code 302 = .ok (.iadd, 1) := by decide +kernel
theorem dw_303 : decode code 303 = .ok (.iaload, 1) := by decide +kernel
theorem dw_304 : decode code 304 = .ok (.invokevirtual 96, 3) := by decide +kernel
theorem dw_307 : decode code 307 = .ok (.istore 6, 2) := by decide +kernel
theorem dw_309 : decode code 309 = .ok (.goto 475, 3) := by decide +kernel
theorem dw_312 : decode code 312 = .ok (.aload_n 1, 1) := by decide +kernel
theorem dw_313 : decode code 313 = .ok (.aload_n 0, 1) := by decide +kernel
theorem dw_314 : decode code 314 = .ok (.iload 4, 2) := by decide +kernel
theorem dw_316 : decode code 316 = .ok (.iconst 1, 1) := by decide +kernel
theorem dw_317 : decode code 317 = .ok (.iadd, 1) := by decide +kernel
theorem dw_318 : decode code 318 = .ok (.iaload, 1) := by decide +kernel
theorem dw_319 : decode code 319 = .ok (.aload_n 0, 1) := by decide +kernel
theorem dw_320 : decode code 320 = .ok (.iload 4, 2) := by decide +kernel
theorem dw_322 : decode code 322 = .ok (.iconst 2, 1) := by decide +kernel
theorem dw_323 : decode code 323 = .ok (.iadd, 1) := by decide +kernel
theorem dw_324 : decode code 324 = .ok (.iaload, 1) := by decide +kernel
theorem dw_325 : decode code 325 = .ok (.aload_n 3, 1) := by decide +kernel
theorem dw_326 : decode code 326 = .ok (.invokestatic 97, 3) := by decide +kernel
theorem dw_329 : decode code 329 = .ok (.istore 5, 2) := by decide +kernel
theorem dw_331 : decode code 331 = .ok (.aload_n 2, 1) := by decide +kernel
theorem dw_332 : decode code 332 = .ok (.aload_n 0, 1) := by decide +kernel
theorem dw_333 : decode code 333 = .ok (.iload 4, 2) := by decide +kernel
theorem dw_335 : decode code 335 = .ok (.iconst 1, 1) := by decide +kernel
theorem dw_336 : decode code 336 = .ok (.iadd, 1) := by decide +kernel
theorem dw_337 : decode code 337 = .ok (.iaload, 1) := by decide +kernel
theorem dw_338 : decode code 338 = .ok (.aload_n 0, 1) := by decide +kernel
theorem dw_339 : decode code 339 = .ok (.iload 4, 2) := by decide +kernel
theorem dw_341 : decode code 341 = .ok (.iconst 2, 1) := by decide +kernel
theorem dw_342 : decode code 342 = .ok (.iadd, 1) := by decide +kernel
theorem dw_343 : decode code 343 = .ok (.iaload, 1) := by decide +kernel
theorem dw_344 : decode code 344 = .ok (.invokevirtual 99, 3) := by decide +kernel
theorem dw_347 : decode code 347 = .ok (.lstore 6, 2) := by decide +kernel
theorem dw_349 : decode code 349 = .ok (.goto 435, 3) := by decide +kernel
theorem dw_352 : decode code 352 = .ok (.aload_n 1, 1) := by decide +kernel
theorem dw_353 : decode code 353 = .ok (.aload_n 0, 1) := by decide +kernel
theorem dw_354 : decode code 354 = .ok (.iload 4, 2) := by decide +kernel
theorem dw_356 : decode code 356 = .ok (.iconst 1, 1) := by decide +kernel
theorem dw_357 : decode code 357 = .ok (.iadd, 1) := by decide +kernel
theorem dw_358 : decode code 358 = .ok (.iaload, 1) := by decide +kernel
theorem dw_359 : decode code 359 = .ok (.aload_n 0, 1) := by decide +kernel
theorem dw_360 : decode code 360 = .ok (.iload 4, 2) := by decide +kernel
theorem dw_362 : decode code 362 = .ok (.iconst 2, 1) := by decide +kernel
theorem dw_363 : decode code 363 = .ok (.iadd, 1) := by decide +kernel
theorem dw_364 : decode code 364 = .ok (.iaload, 1) := by decide +kernel
theorem dw_365 : decode code 365 = .ok (.aload_n 3, 1) := by decide +kernel
theorem dw_366 : decode code 366 = .ok (.invokestatic 100, 3) := by decide +kernel
theorem dw_369 : decode code 369 = .ok (.istore 5, 2) := by decide +kernel
theorem dw_371 : decode code 371 = .ok (.aload_n 2, 1) := by decide +kernel
theorem dw_372 : decode code 372 = .ok (.aload_n 0, 1) := by decide +kernel
theorem dw_373 : decode code 373 = .ok (.iload 4, 2) := by decide +kernel
theorem dw_375 : decode code 375 = .ok (.iconst 1, 1) := by decide +kernel
theorem dw_376 : decode code 376 = .ok (.iadd, 1) := by decide +kernel
theorem dw_377 : decode code 377 = .ok (.iaload, 1) := by decide +kernel
theorem dw_378 : decode code 378 = .ok (.aload_n 0, 1) := by decide +kernel
theorem dw_379 : decode code 379 = .ok (.iload 4, 2) := by decide +kernel
theorem dw_381 : decode code 381 = .ok (.iconst 2, 1) := by decide +kernel
theorem dw_382 : decode code 382 = .ok (.iadd, 1) := by decide +kernel
theorem dw_383 : decode code 383 = .ok (.iaload, 1) := by decide +kernel
theorem dw_384 : decode code 384 = .ok (.invokevirtual 102, 3) := by decide +kernel
theorem dw_387 : decode code 387 = .ok (.istore 6, 2) := by decide +kernel
theorem dw_389 : decode code 389 = .ok (.goto 395, 3) := by decide +kernel
theorem dw_392 : decode code 392 = .ok (.aload_n 1, 1) := by decide +kernel
theorem dw_393 : decode code 393 = .ok (.aload_n 0, 1) := by decide +kernel
theorem dw_394 : decode code 394 = .ok (.iload 4, 2) := by decide +kernel
theorem dw_396 : decode code 396 = .ok (.iconst 1, 1) := by decide +kernel
theorem dw_397 : decode code 397 = .ok (.iadd, 1) := by decide +kernel
theorem dw_398 : decode code 398 = .ok (.iaload, 1) := by decide +kernel
theorem dw_399 : decode code 399 = .ok (.aload_n 0, 1) := by decide +kernel
theorem dw_400 : decode code 400 = .ok (.iload 4, 2) := by decide +kernel
theorem dw_402 : decode code 402 = .ok (.iconst 2, 1) := by decide +kernel
theorem dw_403 : decode code 403 = .ok (.iadd, 1) := by decide +kernel
theorem dw_404 : decode code 404 = .ok (.iaload, 1) := by decide +kernel
theorem dw_405 : decode code 405 = .ok (.aload_n 3, 1) := by decide +kernel
theorem dw_406 : decode code 406 = .ok (.invokestatic 103, 3) := by decide +kernel
theorem dw_409 : decode code 409 = .ok (.istore 5, 2) := by decide +kernel
theorem dw_411 : decode code 411 = .ok (.aload_n 2, 1) := by decide +kernel
theorem dw_412 : decode code 412 = .ok (.aload_n 0, 1) := by decide +kernel
theorem dw_413 : decode code 413 = .ok (.iload 4, 2) := by decide +kernel
theorem dw_415 : decode code 415 = .ok (.iconst 1, 1) := by decide +kernel
theorem dw_416 : decode code 416 = .ok (.iadd, 1) := by decide +kernel
theorem dw_417 : decode code 417 = .ok (.iaload, 1) := by decide +kernel
theorem dw_418 : decode code 418 = .ok (.aload_n 0, 1) := by decide +kernel
theorem dw_419 : decode code 419 = .ok (.iload 4, 2) := by decide +kernel
theorem dw_421 : decode code 421 = .ok (.iconst 2, 1) := by decide +kernel
theorem dw_422 : decode code 422 = .ok (.iadd, 1) := by decide +kernel
theorem dw_423 : decode code 423 = .ok (.iaload, 1) := by decide +kernel
theorem dw_424 : decode code 424 = .ok (.invokevirtual 105, 3) := by decide +kernel
theorem dw_427 : decode code 427 = .ok (.istore 6, 2) := by decide +kernel
theorem dw_429 : decode code 429 = .ok (.goto 355, 3) := by decide +kernel
theorem dw_432 : decode code 432 = .ok (.aload_n 1, 1) := by decide +kernel
theorem dw_433 : decode code 433 = .ok (.aload_n 0, 1) := by decide +kernel
theorem dw_434 : decode code 434 = .ok (.iload 4, 2) := by decide +kernel
theorem dw_436 : decode code 436 = .ok (.iconst 1, 1) := by decide +kernel
theorem dw_437 : decode code 437 = .ok (.iadd, 1) := by decide +kernel
theorem dw_438 : decode code 438 = .ok (.iaload, 1) := by decide +kernel
theorem dw_439 : decode code 439 = .ok (.aload_n 0, 1) := by decide +kernel
theorem dw_440 : decode code 440 = .ok (.iload 4, 2) := by decide +kernel
theorem dw_442 : decode code 442 = .ok (.iconst 2, 1) := by decide +kernel
theorem dw_443 : decode code 443 = .ok (.iadd, 1) := by decide +kernel
theorem dw_444 : decode code 444 = .ok (.iaload, 1) := by decide +kernel
theorem dw_445 : decode code 445 = .ok (.aload_n 3, 1) := by decide +kernel
theorem dw_446 : decode code 446 = .ok (.invokestatic 106, 3) := by decide +kernel
theorem dw_449 : decode code 449 = .ok (.istore 5, 2) := by decide +kernel
theorem dw_451 : decode code 451 = .ok (.aload_n 2, 1) := by decide +kernel
theorem dw_452 : decode code 452 = .ok (.aload_n 0, 1) := by decide +kernel
theorem dw_453 : decode code 453 = .ok (.iload 4, 2) := by decide +kernel
theorem dw_455 : decode code 455 = .ok (.iconst 1, 1) := by decide +kernel
theorem dw_456 : decode code 456 = .ok (.iadd, 1) := by decide +kernel
theorem dw_457 : decode code 457 = .ok (.iaload, 1) := by decide +kernel
theorem dw_458 : decode code 458 = .ok (.aload_n 0, 1) := by decide +kernel
theorem dw_459 : decode code 459 = .ok (.iload 4, 2) := by decide +kernel
theorem dw_461 : decode code 461 = .ok (.iconst 2, 1) := by decide +kernel
theorem dw_462 : decode code 462 = .ok (.iadd, 1) := by decide +kernel
theorem dw_463 : decode code 463 = .ok (.iaload, 1) := by decide +kernel
theorem dw_464 : decode code 464 = .ok (.invokevirtual 108, 3) := by decide +kernel
theorem dw_467 : decode code 467 = .ok (.istore 6, 2) := by decide +kernel
theorem dw_469 : decode code 469 = .ok (.goto 315, 3) := by decide +kernel
theorem dw_472 : decode code 472 = .ok (.aload_n 1, 1) := by decide +kernel
theorem dw_473 : decode code 473 = .ok (.aload_n 3, 1) := by decide +kernel
theorem dw_474 : decode code 474 = .ok (.invokestatic 109, 3) := by decide +kernel
theorem dw_477 : decode code 477 = .ok (.istore 5, 2) := by decide +kernel
theorem dw_479 : decode code 479 = .ok (.aload_n 2, 1) := by decide +kernel
theorem dw_480 : decode code 480 = .ok (.invokevirtual 111, 3) := by decide +kernel
theorem dw_483 : decode code 483 = .ok (.istore 6, 2) := by decide +kernel
theorem dw_485 : decode code 485 = .ok (.goto 299, 3) := by decide +kernel
theorem dw_488 : decode code 488 = .ok (.aload_n 1, 1) := by decide +kernel
theorem dw_489 : decode code 489 = .ok (.aload_n 0, 1) := by decide +kernel
theorem dw_490 : decode code 490 = .ok (.iload 4, 2) := by decide +kernel
theorem dw_492 : decode code 492 = .ok (.iconst 1, 1) := by decide +kernel
theorem dw_493 : decode code 493 = .ok (.iadd, 1) := by decide +kernel
theorem dw_494 : decode code 494 = .ok (.iaload, 1) := by decide +kernel
theorem dw_495 : decode code 495 = .ok (.aload_n 3, 1) := by decide +kernel
theorem dw_496 : decode code 496 = .ok (.invokestatic 112, 3) := by decide +kernel
theorem dw_499 : decode code 499 = .ok (.istore 5, 2) := by decide +kernel
theorem dw_501 : decode code 501 = .ok (.aload_n 2, 1) := by decide +kernel
theorem dw_502 : decode code 502 = .ok (.aload_n 0, 1) := by decide +kernel
theorem dw_503 : decode code 503 = .ok (.iload 4, 2) := by decide +kernel
theorem dw_505 : decode code 505 = .ok (.iconst 1, 1) := by decide +kernel
theorem dw_506 : decode code 506 = .ok (.iadd, 1) := by decide +kernel
theorem dw_507 : decode code 507 = .ok (.iaload, 1) := by decide +kernel
theorem dw_508 : decode code 508 = .ok (.invokevirtual 114, 3) := by decide +kernel
theorem dw_511 : decode code 511 = .ok (.istore 6, 2) := by decide +kernel
theorem dw_513 : decode code 513 = .ok (.goto 271, 3) := by decide +kernel
theorem dw_516 : decode code 516 = .ok (.aload_n 1, 1) := by decide +kernel
theorem dw_517 : decode code 517 = .ok (.invokevirtual 115, 3) := by decide +kernel
theorem dw_520 : decode code 520 = .ok (.pop, 1) := by decide +kernel
theorem dw_521 : decode code 521 = .ok (.aload_n 2, 1) := by decide +kernel
theorem dw_522 : decode code 522 = .ok (.invokevirtual 118, 3) := by decide +kernel
theorem dw_525 : decode code 525 = .ok (.pop, 1) := by decide +kernel
theorem dw_526 : decode code 526 = .ok (.goto 258, 3) := by decide +kernel
theorem dw_529 : decode code 529 = .ok (.aload_n 1, 1) := by decide +kernel
theorem dw_530 : decode code 530 = .ok (.aload_n 0, 1) := by decide +kernel
theorem dw_531 : decode code 531 = .ok (.iload 4, 2) := by decide +kernel
theorem dw_533 : decode code 533 = .ok (.iconst 1, 1) := by decide +kernel
theorem dw_534 : decode code 534 = .ok (.iadd, 1) := by decide +kernel
theorem dw_535 : decode code 535 = .ok (.iaload, 1) := by decide +kernel
theorem dw_536 : decode code 536 = .ok (.aload_n 0, 1) := by decide +kernel
theorem dw_537 : decode code 537 = .ok (.iload 4, 2) := by decide +kernel
theorem dw_539 : decode code 539 = .ok (.iconst 2, 1) := by decide +kernel
theorem dw_540 : decode code 540 = .ok (.iadd, 1) := by decide +kernel
theorem dw_541 : decode code 541 = .ok (.iaload, 1) := by decide +kernel
theorem dw_542 : decode code 542 = .ok (.aload_n 3, 1) := by decide +kernel
theorem dw_543 : decode code 543 = .ok (.invokestatic 119, 3) := by decide +kernel
theorem dw_546 : decode code 546 = .ok (.istore 5, 2) := by decide +kernel
theorem dw_548 : decode code 548 = .ok (.aload_n 2, 1) := by decide +kernel
theorem dw_549 : decode code 549 = .ok (.aload_n 0, 1) := by decide +kernel
theorem dw_550 : decode code 550 = .ok (.iload 4, 2) := by decide +kernel
theorem dw_552 : decode code 552 = .ok (.iconst 1, 1) := by decide +kernel
theorem dw_553 : decode code 553 = .ok (.iadd, 1) := by decide +kernel
theorem dw_554 : decode code 554 = .ok (.iaload, 1) := by decide +kernel
theorem dw_555 : decode code 555 = .ok (.aload_n 0, 1) := by decide +kernel
theorem dw_556 : decode code 556 = .ok (.iload 4, 2) := by decide +kernel
theorem dw_558 : decode code 558 = .ok (.iconst 2, 1) := by decide +kernel
theorem dw_559 : decode code 559 = .ok (.iadd, 1) := by decide +kernel
theorem dw_560 : decode code 560 = .ok (.iaload, 1) := by decide +kernel
theorem dw_561 : decode code 561 = .ok (.invokevirtual 121, 3) := by decide +kernel
theorem dw_564 : decode code 564 = .ok (.lstore 6, 2) := by decide +kernel
theorem dw_566 : decode code 566 = .ok (.goto 218, 3) := by decide +kernel
theorem dw_569 : decode code 569 = .ok (.aload_n 1, 1) := by decide +kernel
theorem dw_570 : decode code 570 = .ok (.aload_n 0, 1) := by decide +kernel
theorem dw_571 : decode code 571 = .ok (.iload 4, 2) := by decide +kernel
theorem dw_573 : decode code 573 = .ok (.iconst 1, 1) := by decide +kernel
theorem dw_574 : decode code 574 = .ok (.iadd, 1) := by decide +kernel
theorem dw_575 : decode code 575 = .ok (.iaload, 1) := by decide +kernel
theorem dw_576 : decode code 576 = .ok (.aload_n 0, 1) := by decide +kernel
theorem dw_577 : decode code 577 = .ok (.iload 4, 2) := by decide +kernel
theorem dw_579 : decode code 579 = .ok (.iconst 2, 1) := by decide +kernel
theorem dw_580 : decode code 580 = .ok (.iadd, 1) := by decide +kernel
theorem dw_581 : decode code 581 = .ok (.iaload, 1) := by decide +kernel
theorem dw_582 : decode code 582 = .ok (.aload_n 3, 1) := by decide +kernel
theorem dw_583 : decode code 583 = .ok (.invokestatic 122, 3) := by decide +kernel
theorem dw_586 : decode code 586 = .ok (.istore 5, 2) := by decide +kernel
theorem dw_588 : decode code 588 = .ok (.aload_n 2, 1) := by decide +kernel
theorem dw_589 : decode code 589 = .ok (.aload_n 0, 1) := by decide +kernel
theorem dw_590 : decode code 590 = .ok (.iload 4, 2) := by decide +kernel
theorem dw_592 : decode code 592 = .ok (.iconst 1, 1) := by decide +kernel
theorem dw_593 : decode code 593 = .ok (.iadd, 1) := by decide +kernel
theorem dw_594 : decode code 594 = .ok (.iaload, 1) := by decide +kernel
theorem dw_595 : decode code 595 = .ok (.aload_n 0, 1) := by decide +kernel
theorem dw_596 : decode code 596 = .ok (.iload 4, 2) := by decide +kernel
theorem dw_598 : decode code 598 = .ok (.iconst 2, 1) := by decide +kernel
theorem dw_599 : decode code 599 = .ok (.iadd, 1) := by decide +kernel
theorem dw_600 : decode code 600 = .ok (.iaload, 1) := by decide +kernel
theorem dw_601 : decode code 601 = .ok (.invokevirtual 124, 3) := by decide +kernel
theorem dw_604 : decode code 604 = .ok (.lstore 6, 2) := by decide +kernel
theorem dw_606 : decode code 606 = .ok (.goto 178, 3) := by decide +kernel
theorem dw_609 : decode code 609 = .ok (.aload_n 1, 1) := by decide +kernel
theorem dw_610 : decode code 610 = .ok (.aload_n 0, 1) := by decide +kernel
theorem dw_611 : decode code 611 = .ok (.iload 4, 2) := by decide +kernel
theorem dw_613 : decode code 613 = .ok (.iconst 1, 1) := by decide +kernel
theorem dw_614 : decode code 614 = .ok (.iadd, 1) := by decide +kernel
theorem dw_615 : decode code 615 = .ok (.iaload, 1) := by decide +kernel
theorem dw_616 : decode code 616 = .ok (.aload_n 0, 1) := by decide +kernel
theorem dw_617 : decode code 617 = .ok (.iload 4, 2) := by decide +kernel
theorem dw_619 : decode code 619 = .ok (.iconst 2, 1) := by decide +kernel
theorem dw_620 : decode code 620 = .ok (.iadd, 1) := by decide +kernel
theorem dw_621 : decode code 621 = .ok (.iaload, 1) := by decide +kernel
theorem dw_622 : decode code 622 = .ok (.aload_n 0, 1) := by decide +kernel
theorem dw_623 : decode code 623 = .ok (.iload 4, 2) := by decide +kernel
theorem dw_625 : decode code 625 = .ok (.iconst 3, 1) := by decide +kernel
theorem dw_626 : decode code 626 = .ok (.iadd, 1) := by decide +kernel
theorem dw_627 : decode code 627 = .ok (.iaload, 1) := by decide +kernel
theorem dw_628 : decode code 628 = .ok (.i2l, 1) := by decide +kernel
theorem dw_629 : decode code 629 = .ok (.bipush 32, 2) := by decide +kernel
theorem dw_631 : decode code 631 = .ok (.lshl, 1) := by decide +kernel
theorem dw_632 : decode code 632 = .ok (.aload_n 0, 1) := by decide +kernel
theorem dw_633 : decode code 633 = .ok (.iload 4, 2) := by decide +kernel
theorem dw_635 : decode code 635 = .ok (.iconst 4, 1) := by decide +kernel
theorem dw_636 : decode code 636 = .ok (.iadd, 1) := by decide +kernel
theorem dw_637 : decode code 637 = .ok (.iaload, 1) := by decide +kernel
theorem dw_638 : decode code 638 = .ok (.i2l, 1) := by decide +kernel
theorem dw_639 : decode code 639 = .ok (.ldc2_w 76, 3) := by decide +kernel
theorem dw_642 : decode code 642 = .ok (.land, 1) := by decide +kernel
theorem dw_643 : decode code 643 = .ok (.lor, 1) := by decide +kernel
theorem dw_644 : decode code 644 = .ok (.invokestatic 125, 3) := by decide +kernel
theorem dw_647 : decode code 647 = .ok (.istore 5, 2) := by decide +kernel
theorem dw_649 : decode code 649 = .ok (.aload_n 2, 1) := by decide +kernel
theorem dw_650 : decode code 650 = .ok (.aload_n 0, 1) := by decide +kernel
theorem dw_651 : decode code 651 = .ok (.iload 4, 2) := by decide +kernel
theorem dw_653 : decode code 653 = .ok (.iconst 1, 1) := by decide +kernel
theorem dw_654 : decode code 654 = .ok (.iadd, 1) := by decide +kernel
theorem dw_655 : decode code 655 = .ok (.iaload, 1) := by decide +kernel
theorem dw_656 : decode code 656 = .ok (.aload_n 0, 1) := by decide +kernel
theorem dw_657 : decode code 657 = .ok (.iload 4, 2) := by decide +kernel
theorem dw_659 : decode code 659 = .ok (.iconst 2, 1) := by decide +kernel
theorem dw_660 : decode code 660 = .ok (.iadd, 1) := by decide +kernel
theorem dw_661 : decode code 661 = .ok (.iaload, 1) := by decide +kernel
theorem dw_662 : decode code 662 = .ok (.aload_n 0, 1) := by decide +kernel
theorem dw_663 : decode code 663 = .ok (.iload 4, 2) := by decide +kernel
theorem dw_665 : decode code 665 = .ok (.iconst 3, 1) := by decide +kernel
theorem dw_666 : decode code 666 = .ok (.iadd, 1) := by decide +kernel
theorem dw_667 : decode code 667 = .ok (.iaload, 1) := by decide +kernel
theorem dw_668 : decode code 668 = .ok (.i2l, 1) := by decide +kernel
theorem dw_669 : decode code 669 = .ok (.bipush 32, 2) := by decide +kernel
theorem dw_671 : decode code 671 = .ok (.lshl, 1) := by decide +kernel
theorem dw_672 : decode code 672 = .ok (.aload_n 0, 1) := by decide +kernel
theorem dw_673 : decode code 673 = .ok (.iload 4, 2) := by decide +kernel
theorem dw_675 : decode code 675 = .ok (.iconst 4, 1) := by decide +kernel
theorem dw_676 : decode code 676 = .ok (.iadd, 1) := by decide +kernel
theorem dw_677 : decode code 677 = .ok (.iaload, 1) := by decide +kernel
theorem dw_678 : decode code 678 = .ok (.i2l, 1) := by decide +kernel
theorem dw_679 : decode code 679 = .ok (.ldc2_w 76, 3) := by decide +kernel
theorem dw_682 : decode code 682 = .ok (.land, 1) := by decide +kernel
theorem dw_683 : decode code 683 = .ok (.lor, 1) := by decide +kernel
theorem dw_684 : decode code 684 = .ok (.invokevirtual 128, 3) := by decide +kernel
theorem dw_687 : decode code 687 = .ok (.goto 97, 3) := by decide +kernel
theorem dw_690 : decode code 690 = .ok (.aload_n 1, 1) := by decide +kernel
theorem dw_691 : decode code 691 = .ok (.aload_n 0, 1) := by decide +kernel
theorem dw_692 : decode code 692 = .ok (.iload 4, 2) := by decide +kernel
theorem dw_694 : decode code 694 = .ok (.iconst 1, 1) := by decide +kernel
theorem dw_695 : decode code 695 = .ok (.iadd, 1) := by decide +kernel
theorem dw_696 : decode code 696 = .ok (.iaload, 1) := by decide +kernel
theorem dw_697 : decode code 697 = .ok (.aload_n 0, 1) := by decide +kernel
theorem dw_698 : decode code 698 = .ok (.iload 4, 2) := by decide +kernel
theorem dw_700 : decode code 700 = .ok (.iconst 2, 1) := by decide +kernel
theorem dw_701 : decode code 701 = .ok (.iadd, 1) := by decide +kernel
theorem dw_702 : decode code 702 = .ok (.iaload, 1) := by decide +kernel
theorem dw_703 : decode code 703 = .ok (.aload_n 0, 1) := by decide +kernel
theorem dw_704 : decode code 704 = .ok (.iload 4, 2) := by decide +kernel
theorem dw_706 : decode code 706 = .ok (.iconst 3, 1) := by decide +kernel
theorem dw_707 : decode code 707 = .ok (.iadd, 1) := by decide +kernel
theorem dw_708 : decode code 708 = .ok (.iaload, 1) := by decide +kernel
theorem dw_709 : decode code 709 = .ok (.i2l, 1) := by decide +kernel
theorem dw_710 : decode code 710 = .ok (.bipush 32, 2) := by decide +kernel
theorem dw_712 : decode code 712 = .ok (.lshl, 1) := by decide +kernel
theorem dw_713 : decode code 713 = .ok (.aload_n 0, 1) := by decide +kernel
theorem dw_714 : decode code 714 = .ok (.iload 4, 2) := by decide +kernel
theorem dw_716 : decode code 716 = .ok (.iconst 4, 1) := by decide +kernel
theorem dw_717 : decode code 717 = .ok (.iadd, 1) := by decide +kernel
theorem dw_718 : decode code 718 = .ok (.iaload, 1) := by decide +kernel
theorem dw_719 : decode code 719 = .ok (.i2l, 1) := by decide +kernel
theorem dw_720 : decode code 720 = .ok (.ldc2_w 76, 3) := by decide +kernel
theorem dw_723 : decode code 723 = .ok (.land, 1) := by decide +kernel
theorem dw_724 : decode code 724 = .ok (.lor, 1) := by decide +kernel
theorem dw_725 : decode code 725 = .ok (.invokestatic 129, 3) := by decide +kernel
theorem dw_728 : decode code 728 = .ok (.istore 5, 2) := by decide +kernel
theorem dw_730 : decode code 730 = .ok (.aload_n 2, 1) := by decide +kernel
theorem dw_731 : decode code 731 = .ok (.aload_n 0, 1) := by decide +kernel
theorem dw_732 : decode code 732 = .ok (.iload 4, 2) := by decide +kernel
theorem dw_734 : decode code 734 = .ok (.iconst 1, 1) := by decide +kernel
theorem dw_735 : decode code 735 = .ok (.iadd, 1) := by decide +kernel
theorem dw_736 : decode code 736 = .ok (.iaload, 1) := by decide +kernel
theorem dw_737 : decode code 737 = .ok (.aload_n 0, 1) := by decide +kernel
theorem dw_738 : decode code 738 = .ok (.iload 4, 2) := by decide +kernel
theorem dw_740 : decode code 740 = .ok (.iconst 2, 1) := by decide +kernel
theorem dw_741 : decode code 741 = .ok (.iadd, 1) := by decide +kernel
theorem dw_742 : decode code 742 = .ok (.iaload, 1) := by decide +kernel
theorem dw_743 : decode code 743 = .ok (.aload_n 0, 1) := by decide +kernel
theorem dw_744 : decode code 744 = .ok (.iload 4, 2) := by decide +kernel
theorem dw_746 : decode code 746 = .ok (.iconst 3, 1) := by decide +kernel
theorem dw_747 : decode code 747 = .ok (.iadd, 1) := by decide +kernel
theorem dw_748 : decode code 748 = .ok (.iaload, 1) := by decide +kernel
theorem dw_749 : decode code 749 = .ok (.i2l, 1) := by decide +kernel
theorem dw_750 : decode code 750 = .ok (.bipush 32, 2) := by decide +kernel
theorem dw_752 : decode code 752 = .ok (.lshl, 1) := by decide +kernel
theorem dw_753 : decode code 753 = .ok (.aload_n 0, 1) := by decide +kernel
theorem dw_754 : decode code 754 = .ok (.iload 4, 2) := by decide +kernel
theorem dw_756 : decode code 756 = .ok (.iconst 4, 1) := by decide +kernel
theorem dw_757 : decode code 757 = .ok (.iadd, 1) := by decide +kernel
theorem dw_758 : decode code 758 = .ok (.iaload, 1) := by decide +kernel
theorem dw_759 : decode code 759 = .ok (.i2l, 1) := by decide +kernel
theorem dw_760 : decode code 760 = .ok (.ldc2_w 76, 3) := by decide +kernel
theorem dw_763 : decode code 763 = .ok (.land, 1) := by decide +kernel
theorem dw_764 : decode code 764 = .ok (.lor, 1) := by decide +kernel
theorem dw_765 : decode code 765 = .ok (.invokevirtual 131, 3) := by decide +kernel
theorem dw_768 : decode code 768 = .ok (.goto 16, 3) := by decide +kernel
theorem dw_771 : decode code 771 = .ok (.aload_n 1, 1) := by decide +kernel
theorem dw_772 : decode code 772 = .ok (.invokevirtual 132, 3) := by decide +kernel
theorem dw_775 : decode code 775 = .ok (.pop, 1) := by decide +kernel
theorem dw_776 : decode code 776 = .ok (.aload_n 2, 1) := by decide +kernel
theorem dw_777 : decode code 777 = .ok (.invokevirtual 135, 3) := by decide +kernel
theorem dw_780 : decode code 780 = .ok (.pop, 1) := by decide +kernel
theorem dw_781 : decode code 781 = .ok (.goto 3, 3) := by decide +kernel
theorem dw_784 : decode code 784 = .ok (.iinc 4 5, 3) := by decide +kernel
theorem dw_787 : decode code 787 = .ok (.goto (-754), 3) := by decide +kernel
theorem dw_790 : decode code 790 = .ok (.iconst 1, 1) := by decide +kernel
theorem dw_791 : decode code 791 = .ok (.ireturn, 1) := by decide +kernel
theorem kcl_76 {args : Array Value} {s : State} (hts : ∀ w ∈ lw_g, w.before args s = true) : (Cond.constantLong R_law 76 4294967295).before args s = true := hts _ (List.mem_filter.mpr ⟨List.mem_append_right _ (List.mem_of_getElem? (i := 716) (by decide +kernel)), rfl⟩)
theorem ll_put : Cond.methodLink R_law 78 yl_put ∈ lw_g := List.mem_filter.mpr ⟨List.mem_append_right _ (List.mem_of_getElem? (i := 164) (by decide +kernel)), rfl⟩
theorem ls_put : Cond.static yl_put ∈ lw_g := List.mem_filter.mpr ⟨List.mem_append_right _ (List.mem_of_getElem? (i := 165) (by decide +kernel)), rfl⟩
theorem ll_drop : Cond.methodLink R_law 82 yl_drop ∈ lw_g := List.mem_filter.mpr ⟨List.mem_append_right _ (List.mem_of_getElem? (i := 328) (by decide +kernel)), rfl⟩
theorem ls_drop : Cond.static yl_drop ∈ lw_g := List.mem_filter.mpr ⟨List.mem_append_right _ (List.mem_of_getElem? (i := 329) (by decide +kernel)), rfl⟩
theorem ll_version : Cond.methodLink R_law 89 yl_version ∈ lw_g := List.mem_filter.mpr ⟨List.mem_append_right _ (List.mem_of_getElem? (i := 339) (by decide +kernel)), rfl⟩
theorem ls_version : Cond.static yl_version ∈ lw_g := List.mem_filter.mpr ⟨List.mem_append_right _ (List.mem_of_getElem? (i := 340) (by decide +kernel)), rfl⟩
theorem ll_has : Cond.methodLink R_law 93 yl_has ∈ lw_g := List.mem_filter.mpr ⟨List.mem_append_right _ (List.mem_of_getElem? (i := 346) (by decide +kernel)), rfl⟩
theorem ls_has : Cond.static yl_has ∈ lw_g := List.mem_filter.mpr ⟨List.mem_append_right _ (List.mem_of_getElem? (i := 347) (by decide +kernel)), rfl⟩
theorem ll_find : Cond.methodLink R_law 97 yl_find ∈ lw_g := List.mem_filter.mpr ⟨List.mem_append_right _ (List.mem_of_getElem? (i := 378) (by decide +kernel)), rfl⟩
theorem ls_find : Cond.static yl_find ∈ lw_g := List.mem_filter.mpr ⟨List.mem_append_right _ (List.mem_of_getElem? (i := 379) (by decide +kernel)), rfl⟩
theorem ll_count : Cond.methodLink R_law 100 yl_count ∈ lw_g := List.mem_filter.mpr ⟨List.mem_append_right _ (List.mem_of_getElem? (i := 385) (by decide +kernel)), rfl⟩
theorem ls_count : Cond.static yl_count ∈ lw_g := List.mem_filter.mpr ⟨List.mem_append_right _ (List.mem_of_getElem? (i := 386) (by decide +kernel)), rfl⟩
theorem ll_key : Cond.methodLink R_law 103 yl_key ∈ lw_g := List.mem_filter.mpr ⟨List.mem_append_right _ (List.mem_of_getElem? (i := 393) (by decide +kernel)), rfl⟩
theorem ls_key : Cond.static yl_key ∈ lw_g := List.mem_filter.mpr ⟨List.mem_append_right _ (List.mem_of_getElem? (i := 394) (by decide +kernel)), rfl⟩
theorem ll_same : Cond.methodLink R_law 106 yl_same ∈ lw_g := List.mem_filter.mpr ⟨List.mem_append_right _ (List.mem_of_getElem? (i := 405) (by decide +kernel)), rfl⟩
theorem ls_same : Cond.static yl_same ∈ lw_g := List.mem_filter.mpr ⟨List.mem_append_right _ (List.mem_of_getElem? (i := 406) (by decide +kernel)), rfl⟩
theorem ll_free : Cond.methodLink R_law 109 yl_free ∈ lw_g := List.mem_filter.mpr ⟨List.mem_append_right _ (List.mem_of_getElem? (i := 416) (by decide +kernel)), rfl⟩
theorem ls_free : Cond.static yl_free ∈ lw_g := List.mem_filter.mpr ⟨List.mem_append_right _ (List.mem_of_getElem? (i := 417) (by decide +kernel)), rfl⟩
theorem ll_crash : Cond.methodLink R_law 112 yl_crash ∈ lw_g := List.mem_filter.mpr ⟨List.mem_append_right _ (List.mem_of_getElem? (i := 429) (by decide +kernel)), rfl⟩
theorem ls_crash : Cond.static yl_crash ∈ lw_g := List.mem_filter.mpr ⟨List.mem_append_right _ (List.mem_of_getElem? (i := 430) (by decide +kernel)), rfl⟩
theorem ll_wordAt : Cond.methodLink R_law 119 yl_wordAt ∈ lw_g := List.mem_filter.mpr ⟨List.mem_append_right _ (List.mem_of_getElem? (i := 446) (by decide +kernel)), rfl⟩
theorem ls_wordAt : Cond.static yl_wordAt ∈ lw_g := List.mem_filter.mpr ⟨List.mem_append_right _ (List.mem_of_getElem? (i := 447) (by decide +kernel)), rfl⟩
theorem ll_rootAt : Cond.methodLink R_law 122 yl_rootAt ∈ lw_g := List.mem_filter.mpr ⟨List.mem_append_right _ (List.mem_of_getElem? (i := 458) (by decide +kernel)), rfl⟩
theorem ls_rootAt : Cond.static yl_rootAt ∈ lw_g := List.mem_filter.mpr ⟨List.mem_append_right _ (List.mem_of_getElem? (i := 459) (by decide +kernel)), rfl⟩
theorem ll_poke : Cond.methodLink R_law 125 yl_poke ∈ lw_g := List.mem_filter.mpr ⟨List.mem_append_right _ (List.mem_of_getElem? (i := 470) (by decide +kernel)), rfl⟩
theorem ls_poke : Cond.static yl_poke ∈ lw_g := List.mem_filter.mpr ⟨List.mem_append_right _ (List.mem_of_getElem? (i := 471) (by decide +kernel)), rfl⟩
theorem ll_pokeRoot : Cond.methodLink R_law 129 yl_pokeRoot ∈ lw_g := List.mem_filter.mpr ⟨List.mem_append_right _ (List.mem_of_getElem? (i := 482) (by decide +kernel)), rfl⟩
theorem ls_pokeRoot : Cond.static yl_pokeRoot ∈ lw_g := List.mem_filter.mpr ⟨List.mem_append_right _ (List.mem_of_getElem? (i := 483) (by decide +kernel)), rfl⟩
