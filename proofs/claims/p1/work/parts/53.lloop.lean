/-! THE LAW'S LOOP: its cases, each over the contracts of the calls in it -/
def lvl (a b : Int32) : Int64 := (a.toInt64 <<< ((32 : Int32).toInt64 &&& 63)) ||| (b.toInt64 &&& 4294967295)
def wL (gm : Nat → Nat) (ca : Nat → ClassId) (gq : Nat → Nat) (cq : Nat → ClassId) (o : Nat) (cO : ClassId) (st : BSt) (ms : MSt) (f : Nat → Int64) : va_W := wO gm ca st o cO f ++ wM gq cq ms
theorem wL_b {gm : Nat → Nat} {ca : Nat → ClassId} {gq : Nat → Nat} {cq : Nat → ClassId} {o : Nat} {cO : ClassId} {st : BSt} {ms : MSt} {f : Nat → Int64} : (wL gm ca gq cq o cO st ms f).Perm (wB gm ca st ++ (wM gq cq ms ++ [eO o cO f])) := by
  show (eO o cO f :: (wB gm ca st ++ wM gq cq ms)).Perm _
  rw [← List.append_assoc]
  exact (List.perm_append_singleton _ _).symm
abbrev lvL (b : Nat) (gm gq : Nat → Nat) (o : Nat) (i : Int32) : List (Nat × Value) := [(0, .ref b), (1, .ref (gm 0)), (2, .ref (gq 0)), (3, .ref o), (4, .int i)]
def LC (p : Program) (s : State) (m : MethodId) (args : Array Value) (c : Code) (D : va_G) (A : Nat → Prop) (b L : Nat) (xs : Nat → Int32) (ca cq : Nat → ClassId) (cO : ClassId) : Prop :=
  p.tables.exec = Jvm.exec ∧ c.code = code ∧ c.maxLocals = 8 ∧ s.vm.findClass R_law = some m.cls ∧ (∀ w ∈ lw_g, w.before args s = true) ∧ lk D (tysO ca cO) s ∧ lk D (tysM cq) s ∧ zz A s s.heap ∧ (∀ q, s.heap.size ≤ q → A q) ∧ va_X b L xs s s.heap ∧ b < s.heap.size ∧ ¬ A b
theorem dw_0 : decode code 0 = .ok (.new 8, 3) := by decide +kernel
theorem dw_3 : decode code 3 = .ok (.dup, 1) := by decide +kernel
theorem dw_4 : decode code 4 = .ok (.aload_n 0, 1) := by decide +kernel
theorem dw_5 : decode code 5 = .ok (.iconst 0, 1) := by decide +kernel
theorem dw_6 : decode code 6 = .ok (.invokestatic 64, 3) := by decide +kernel
theorem dw_9 : decode code 9 = .ok (.invokespecial 70, 3) := by decide +kernel
theorem dw_12 : decode code 12 = .ok (.astore_n 1, 1) := by decide +kernel
theorem dw_13 : decode code 13 = .ok (.new 73, 3) := by decide +kernel
theorem dw_16 : decode code 16 = .ok (.dup, 1) := by decide +kernel
theorem dw_17 : decode code 17 = .ok (.aload_n 0, 1) := by decide +kernel
theorem dw_18 : decode code 18 = .ok (.iconst 0, 1) := by decide +kernel
theorem dw_19 : decode code 19 = .ok (.invokestatic 64, 3) := by decide +kernel
theorem dw_22 : decode code 22 = .ok (.invokespecial 75, 3) := by decide +kernel
theorem dw_25 : decode code 25 = .ok (.astore_n 2, 1) := by decide +kernel
theorem dw_26 : decode code 26 = .ok (.iconst 1, 1) := by decide +kernel
theorem dw_27 : decode code 27 = .ok (.newarray .long, 2) := by decide +kernel
theorem dw_29 : decode code 29 = .ok (.astore_n 3, 1) := by decide +kernel
theorem dw_30 : decode code 30 = .ok (.iconst 1, 1) := by decide +kernel
theorem dw_31 : decode code 31 = .ok (.istore 4, 2) := by decide +kernel
theorem dw_33 : decode code 33 = .ok (.iload 4, 2) := by decide +kernel
theorem dw_35 : decode code 35 = .ok (.aload_n 0, 1) := by decide +kernel
theorem dw_36 : decode code 36 = .ok (.arraylength, 1) := by decide +kernel
theorem dw_37 : decode code 37 = .ok (.iconst 5, 1) := by decide +kernel
theorem dw_38 : decode code 38 = .ok (.isub, 1) := by decide +kernel
theorem dw_39 : decode code 39 = .ok (.if_icmp .gt 1092, 3) := by decide +kernel
theorem dw_42 : decode code 42 = .ok (.aload_n 0, 1) := by decide +kernel
theorem dw_43 : decode code 43 = .ok (.iload 4, 2) := by decide +kernel
theorem dw_45 : decode code 45 = .ok (.iaload, 1) := by decide +kernel
theorem dw_46 : decode code 46 = .ok (.bipush 15, 2) := by decide +kernel
theorem dw_48 : decode code 48 = .ok (.iand, 1) := by decide +kernel
theorem dw_49 : decode code 49 = .ok (.tableswitch 1076 0 15 #[79, 179, 235, 279, 354, 421, 489, 557, 632, 676, 732, 745, 812, 879, 971, 1063], 79) := by decide +kernel
theorem dw_128 : decode code 128 = .ok (.aload_n 1, 1) := by decide +kernel
theorem dw_129 : decode code 129 = .ok (.aload_n 0, 1) := by decide +kernel
theorem dw_130 : decode code 130 = .ok (.iload 4, 2) := by decide +kernel
theorem dw_132 : decode code 132 = .ok (.iconst 1, 1) := by decide +kernel
theorem dw_133 : decode code 133 = .ok (.iadd, 1) := by decide +kernel
theorem dw_134 : decode code 134 = .ok (.iaload, 1) := by decide +kernel
theorem dw_135 : decode code 135 = .ok (.aload_n 0, 1) := by decide +kernel
theorem dw_136 : decode code 136 = .ok (.iload 4, 2) := by decide +kernel
theorem dw_138 : decode code 138 = .ok (.iconst 2, 1) := by decide +kernel
theorem dw_139 : decode code 139 = .ok (.iadd, 1) := by decide +kernel
theorem dw_140 : decode code 140 = .ok (.iaload, 1) := by decide +kernel
theorem dw_141 : decode code 141 = .ok (.i2l, 1) := by decide +kernel
theorem dw_142 : decode code 142 = .ok (.bipush 32, 2) := by decide +kernel
theorem dw_144 : decode code 144 = .ok (.lshl, 1) := by decide +kernel
theorem dw_145 : decode code 145 = .ok (.aload_n 0, 1) := by decide +kernel
theorem dw_146 : decode code 146 = .ok (.iload 4, 2) := by decide +kernel
theorem dw_148 : decode code 148 = .ok (.iconst 3, 1) := by decide +kernel
theorem dw_149 : decode code 149 = .ok (.iadd, 1) := by decide +kernel
theorem dw_150 : decode code 150 = .ok (.iaload, 1) := by decide +kernel
theorem dw_151 : decode code 151 = .ok (.i2l, 1) := by decide +kernel
theorem dw_152 : decode code 152 = .ok (.ldc2_w 76, 3) := by decide +kernel
theorem dw_155 : decode code 155 = .ok (.land, 1) := by decide +kernel
theorem dw_156 : decode code 156 = .ok (.lor, 1) := by decide +kernel
theorem dw_157 : decode code 157 = .ok (.aload_n 3, 1) := by decide +kernel
theorem dw_158 : decode code 158 = .ok (.invokestatic 78, 3) := by decide +kernel
theorem dw_161 : decode code 161 = .ok (.istore 5, 2) := by decide +kernel
theorem dw_163 : decode code 163 = .ok (.aload_n 2, 1) := by decide +kernel
theorem dw_164 : decode code 164 = .ok (.aload_n 0, 1) := by decide +kernel
theorem dw_165 : decode code 165 = .ok (.iload 4, 2) := by decide +kernel
theorem dw_167 : decode code 167 = .ok (.iconst 1, 1) := by decide +kernel
theorem dw_168 : decode code 168 = .ok (.iadd, 1) := by decide +kernel
theorem dw_169 : decode code 169 = .ok (.iaload, 1) := by decide +kernel
theorem dw_170 : decode code 170 = .ok (.aload_n 0, 1) := by decide +kernel
theorem dw_171 : decode code 171 = .ok (.iload 4, 2) := by decide +kernel
theorem dw_173 : decode code 173 = .ok (.iconst 2, 1) := by decide +kernel
theorem dw_174 : decode code 174 = .ok (.iadd, 1) := by decide +kernel
theorem dw_175 : decode code 175 = .ok (.iaload, 1) := by decide +kernel
theorem dw_176 : decode code 176 = .ok (.i2l, 1) := by decide +kernel
theorem dw_177 : decode code 177 = .ok (.bipush 32, 2) := by decide +kernel
theorem dw_179 : decode code 179 = .ok (.lshl, 1) := by decide +kernel
theorem dw_180 : decode code 180 = .ok (.aload_n 0, 1) := by decide +kernel
theorem dw_181 : decode code 181 = .ok (.iload 4, 2) := by decide +kernel
theorem dw_183 : decode code 183 = .ok (.iconst 3, 1) := by decide +kernel
theorem dw_184 : decode code 184 = .ok (.iadd, 1) := by decide +kernel
theorem dw_185 : decode code 185 = .ok (.iaload, 1) := by decide +kernel
theorem dw_186 : decode code 186 = .ok (.i2l, 1) := by decide +kernel
theorem dw_187 : decode code 187 = .ok (.ldc2_w 76, 3) := by decide +kernel
theorem dw_190 : decode code 190 = .ok (.land, 1) := by decide +kernel
theorem dw_191 : decode code 191 = .ok (.lor, 1) := by decide +kernel
theorem dw_192 : decode code 192 = .ok (.invokevirtual 81, 3) := by decide +kernel
theorem dw_195 : decode code 195 = .ok (.istore 6, 2) := by decide +kernel
theorem dw_197 : decode code 197 = .ok (.aload_n 2, 1) := by decide +kernel
theorem dw_198 : decode code 198 = .ok (.invokevirtual 82, 3) := by decide +kernel
theorem dw_201 : decode code 201 = .ok (.iload 5, 2) := by decide +kernel
theorem dw_203 : decode code 203 = .ok (.if_icmp .eq 5, 3) := by decide +kernel
theorem dw_206 : decode code 206 = .ok (.iconst 0, 1) := by decide +kernel
theorem dw_207 : decode code 207 = .ok (.ireturn, 1) := by decide +kernel
theorem dw_208 : decode code 208 = .ok (.iload 5, 2) := by decide +kernel
theorem dw_210 : decode code 210 = .ok (.ifCond .ne 15, 3) := by decide +kernel
theorem dw_213 : decode code 213 = .ok (.aload_n 3, 1) := by decide +kernel
theorem dw_214 : decode code 214 = .ok (.iconst 0, 1) := by decide +kernel
theorem dw_215 : decode code 215 = .ok (.laload, 1) := by decide +kernel
theorem dw_216 : decode code 216 = .ok (.iload 6, 2) := by decide +kernel
theorem dw_218 : decode code 218 = .ok (.i2l, 1) := by decide +kernel
theorem dw_219 : decode code 219 = .ok (.lcmp, 1) := by decide +kernel
theorem dw_220 : decode code 220 = .ok (.ifCond .eq 5, 3) := by decide +kernel
theorem dw_223 : decode code 223 = .ok (.iconst 0, 1) := by decide +kernel
theorem dw_224 : decode code 224 = .ok (.ireturn, 1) := by decide +kernel
theorem dw_225 : decode code 225 = .ok (.goto 900, 3) := by decide +kernel
theorem dw_228 : decode code 228 = .ok (.aload_n 1, 1) := by decide +kernel
theorem dw_229 : decode code 229 = .ok (.aload_n 0, 1) := by decide +kernel
theorem dw_230 : decode code 230 = .ok (.iload 4, 2) := by decide +kernel
theorem dw_232 : decode code 232 = .ok (.iconst 1, 1) := by decide +kernel
theorem dw_233 : decode code 233 = .ok (.iadd, 1) := by decide +kernel
theorem dw_234 : decode code 234 = .ok (.iaload, 1) := by decide +kernel
theorem dw_235 : decode code 235 = .ok (.aload_n 3, 1) := by decide +kernel
theorem dw_236 : decode code 236 = .ok (.invokestatic 85, 3) := by decide +kernel
theorem dw_239 : decode code 239 = .ok (.istore 5, 2) := by decide +kernel
theorem dw_241 : decode code 241 = .ok (.aload_n 2, 1) := by decide +kernel
theorem dw_242 : decode code 242 = .ok (.aload_n 0, 1) := by decide +kernel
theorem dw_243 : decode code 243 = .ok (.iload 4, 2) := by decide +kernel
theorem dw_245 : decode code 245 = .ok (.iconst 1, 1) := by decide +kernel
theorem dw_246 : decode code 246 = .ok (.iadd, 1) := by decide +kernel
theorem dw_247 : decode code 247 = .ok (.iaload, 1) := by decide +kernel
theorem dw_248 : decode code 248 = .ok (.invokevirtual 88, 3) := by decide +kernel
theorem dw_251 : decode code 251 = .ok (.istore 6, 2) := by decide +kernel
theorem dw_253 : decode code 253 = .ok (.aload_n 2, 1) := by decide +kernel
theorem dw_254 : decode code 254 = .ok (.invokevirtual 82, 3) := by decide +kernel
theorem dw_257 : decode code 257 = .ok (.iload 5, 2) := by decide +kernel
theorem dw_259 : decode code 259 = .ok (.if_icmp .eq 5, 3) := by decide +kernel
theorem dw_262 : decode code 262 = .ok (.iconst 0, 1) := by decide +kernel
theorem dw_263 : decode code 263 = .ok (.ireturn, 1) := by decide +kernel
theorem dw_264 : decode code 264 = .ok (.iload 5, 2) := by decide +kernel
theorem dw_266 : decode code 266 = .ok (.ifCond .ne 15, 3) := by decide +kernel
theorem dw_269 : decode code 269 = .ok (.aload_n 3, 1) := by decide +kernel
theorem dw_270 : decode code 270 = .ok (.iconst 0, 1) := by decide +kernel
theorem dw_271 : decode code 271 = .ok (.laload, 1) := by decide +kernel
theorem dw_272 : decode code 272 = .ok (.iload 6, 2) := by decide +kernel
theorem dw_274 : decode code 274 = .ok (.i2l, 1) := by decide +kernel
theorem dw_275 : decode code 275 = .ok (.lcmp, 1) := by decide +kernel
theorem dw_276 : decode code 276 = .ok (.ifCond .eq 5, 3) := by decide +kernel
theorem dw_279 : decode code 279 = .ok (.iconst 0, 1) := by decide +kernel
theorem dw_280 : decode code 280 = .ok (.ireturn, 1) := by decide +kernel
theorem dw_281 : decode code 281 = .ok (.goto 844, 3) := by decide +kernel
theorem dw_284 : decode code 284 = .ok (.aload_n 1, 1) := by decide +kernel
theorem dw_285 : decode code 285 = .ok (.aload_n 3, 1) := by decide +kernel
theorem dw_286 : decode code 286 = .ok (.invokestatic 89, 3) := by decide +kernel
theorem dw_289 : decode code 289 = .ok (.istore 5, 2) := by decide +kernel
theorem dw_291 : decode code 291 = .ok (.aload_n 2, 1) := by decide +kernel
theorem dw_292 : decode code 292 = .ok (.invokevirtual 92, 3) := by decide +kernel
theorem dw_295 : decode code 295 = .ok (.istore 6, 2) := by decide +kernel
theorem dw_297 : decode code 297 = .ok (.aload_n 2, 1) := by decide +kernel
theorem dw_298 : decode code 298 = .ok (.invokevirtual 82, 3) := by decide +kernel
theorem dw_301 : decode code 301 = .ok (.iload 5, 2) := by decide +kernel
theorem dw_303 : decode code 303 = .ok (.if_icmp .eq 5, 3) := by decide +kernel
theorem dw_306 : decode code 306 = .ok (.iconst 0, 1) := by decide +kernel
theorem dw_307 : decode code 307 = .ok (.ireturn, 1) := by decide +kernel
theorem dw_308 : decode code 308 = .ok (.iload 5, 2) := by decide +kernel
theorem dw_310 : decode code 310 = .ok (.ifCond .ne 15, 3) := by decide +kernel
theorem dw_313 : decode code 313 = .ok (.aload_n 3, 1) := by decide +kernel
theorem dw_314 : decode code 314 = .ok (.iconst 0, 1) := by decide +kernel
theorem dw_315 : decode code 315 = .ok (.laload, 1) := by decide +kernel
theorem dw_316 : decode code 316 = .ok (.iload 6, 2) := by decide +kernel
theorem dw_318 : decode code 318 = .ok (.i2l, 1) := by decide +kernel
theorem dw_319 : decode code 319 = .ok (.lcmp, 1) := by decide +kernel
theorem dw_320 : decode code 320 = .ok (.ifCond .eq 5, 3) := by decide +kernel
theorem dw_323 : decode code 323 = .ok (.iconst 0, 1) := by decide +kernel
theorem dw_324 : decode code 324 = .ok (.ireturn, 1) := by decide +kernel
theorem dw_325 : decode code 325 = .ok (.goto 800, 3) := by decide +kernel
theorem dw_328 : decode code 328 = .ok (.aload_n 1, 1) := by decide +kernel
theorem dw_329 : decode code 329 = .ok (.aload_n 0, 1) := by decide +kernel
theorem dw_330 : decode code 330 = .ok (.iload 4, 2) := by decide +kernel
theorem dw_332 : decode code 332 = .ok (.iconst 1, 1) := by decide +kernel
theorem dw_333 : decode code 333 = .ok (.iadd, 1) := by decide +kernel
theorem dw_334 : decode code 334 = .ok (.iaload, 1) := by decide +kernel
theorem dw_335 : decode code 335 = .ok (.aload_n 0, 1) := by decide +kernel
theorem dw_336 : decode code 336 = .ok (.iload 4, 2) := by decide +kernel
theorem dw_338 : decode code 338 = .ok (.iconst 2, 1) := by decide +kernel
theorem dw_339 : decode code 339 = .ok (.iadd, 1) := by decide +kernel
theorem dw_340 : decode code 340 = .ok (.iaload, 1) := by decide +kernel
theorem dw_341 : decode code 341 = .ok (.aload_n 3, 1) := by decide +kernel
theorem dw_342 : decode code 342 = .ok (.invokestatic 93, 3) := by decide +kernel
theorem dw_345 : decode code 345 = .ok (.istore 5, 2) := by decide +kernel
theorem dw_347 : decode code 347 = .ok (.aload_n 2, 1) := by decide +kernel
theorem dw_348 : decode code 348 = .ok (.aload_n 0, 1) := by decide +kernel
theorem dw_349 : decode code 349 = .ok (.iload 4, 2) := by decide +kernel
theorem dw_351 : decode code 351 = .ok (.iconst 1, 1) := by decide +kernel
theorem dw_352 : decode code 352 = .ok (.iadd, 1) := by decide +kernel
theorem dw_353 : decode code 353 = .ok (.iaload, 1) := by decide +kernel
theorem dw_354 : decode code 354 = .ok (.aload_n 0, 1) := by decide +kernel
theorem dw_355 : decode code 355 = .ok (.iload 4, 2) := by decide +kernel
theorem dw_357 : decode code 357 = .ok (.iconst 2, 1) := by decide +kernel
theorem dw_358 : decode code 358 = .ok (.iadd, 1) := by decide +kernel
theorem dw_359 : decode code 359 = .ok (.iaload, 1) := by decide +kernel
theorem dw_360 : decode code 360 = .ok (.invokevirtual 96, 3) := by decide +kernel
theorem dw_363 : decode code 363 = .ok (.istore 6, 2) := by decide +kernel
theorem dw_365 : decode code 365 = .ok (.aload_n 2, 1) := by decide +kernel
theorem dw_366 : decode code 366 = .ok (.invokevirtual 82, 3) := by decide +kernel
theorem dw_369 : decode code 369 = .ok (.iload 5, 2) := by decide +kernel
theorem dw_371 : decode code 371 = .ok (.if_icmp .eq 5, 3) := by decide +kernel
theorem dw_374 : decode code 374 = .ok (.iconst 0, 1) := by decide +kernel
theorem dw_375 : decode code 375 = .ok (.ireturn, 1) := by decide +kernel
theorem dw_376 : decode code 376 = .ok (.iload 5, 2) := by decide +kernel
theorem dw_378 : decode code 378 = .ok (.ifCond .ne 22, 3) := by decide +kernel
theorem dw_381 : decode code 381 = .ok (.aload_n 3, 1) := by decide +kernel
theorem dw_382 : decode code 382 = .ok (.iconst 0, 1) := by decide +kernel
theorem dw_383 : decode code 383 = .ok (.laload, 1) := by decide +kernel
theorem dw_384 : decode code 384 = .ok (.iload 6, 2) := by decide +kernel
theorem dw_386 : decode code 386 = .ok (.ifCond .eq 7, 3) := by decide +kernel
theorem dw_389 : decode code 389 = .ok (.lconst 1, 1) := by decide +kernel
theorem dw_390 : decode code 390 = .ok (.goto 4, 3) := by decide +kernel
theorem dw_393 : decode code 393 = .ok (.lconst 0, 1) := by decide +kernel
theorem dw_394 : decode code 394 = .ok (.lcmp, 1) := by decide +kernel
theorem dw_395 : decode code 395 = .ok (.ifCond .eq 5, 3) := by decide +kernel
theorem dw_398 : decode code 398 = .ok (.iconst 0, 1) := by decide +kernel
theorem dw_399 : decode code 399 = .ok (.ireturn, 1) := by decide +kernel
theorem dw_400 : decode code 400 = .ok (.goto 725, 3) := by decide +kernel
theorem dw_403 : decode code 403 = .ok (.aload_n 1, 1) := by decide +kernel
theorem dw_404 : decode code 404 = .ok (.aload_n 0, 1) := by decide +kernel
theorem dw_405 : decode code 405 = .ok (.iload 4, 2) := by decide +kernel
theorem dw_407 : decode code 407 = .ok (.iconst 1, 1) := by decide +kernel
theorem dw_408 : decode code 408 = .ok (.iadd, 1) := by decide +kernel
theorem dw_409 : decode code 409 = .ok (.iaload, 1) := by decide +kernel
theorem dw_410 : decode code 410 = .ok (.aload_n 0, 1) := by decide +kernel
theorem dw_411 : decode code 411 = .ok (.iload 4, 2) := by decide +kernel
theorem dw_413 : decode code 413 = .ok (.iconst 2, 1) := by decide +kernel
theorem dw_414 : decode code 414 = .ok (.iadd, 1) := by decide +kernel
theorem dw_415 : decode code 415 = .ok (.iaload, 1) := by decide +kernel
theorem dw_416 : decode code 416 = .ok (.aload_n 3, 1) := by decide +kernel
theorem dw_417 : decode code 417 = .ok (.invokestatic 97, 3) := by decide +kernel
theorem dw_420 : decode code 420 = .ok (.istore 5, 2) := by decide +kernel
theorem dw_422 : decode code 422 = .ok (.aload_n 2, 1) := by decide +kernel
theorem dw_423 : decode code 423 = .ok (.aload_n 0, 1) := by decide +kernel
theorem dw_424 : decode code 424 = .ok (.iload 4, 2) := by decide +kernel
theorem dw_426 : decode code 426 = .ok (.iconst 1, 1) := by decide +kernel
theorem dw_427 : decode code 427 = .ok (.iadd, 1) := by decide +kernel
theorem dw_428 : decode code 428 = .ok (.iaload, 1) := by decide +kernel
theorem dw_429 : decode code 429 = .ok (.aload_n 0, 1) := by decide +kernel
theorem dw_430 : decode code 430 = .ok (.iload 4, 2) := by decide +kernel
theorem dw_432 : decode code 432 = .ok (.iconst 2, 1) := by decide +kernel
theorem dw_433 : decode code 433 = .ok (.iadd, 1) := by decide +kernel
theorem dw_434 : decode code 434 = .ok (.iaload, 1) := by decide +kernel
theorem dw_435 : decode code 435 = .ok (.invokevirtual 99, 3) := by decide +kernel
theorem dw_438 : decode code 438 = .ok (.lstore 6, 2) := by decide +kernel
theorem dw_440 : decode code 440 = .ok (.aload_n 2, 1) := by decide +kernel
theorem dw_441 : decode code 441 = .ok (.invokevirtual 82, 3) := by decide +kernel
theorem dw_444 : decode code 444 = .ok (.iload 5, 2) := by decide +kernel
theorem dw_446 : decode code 446 = .ok (.if_icmp .eq 5, 3) := by decide +kernel
theorem dw_449 : decode code 449 = .ok (.iconst 0, 1) := by decide +kernel
theorem dw_450 : decode code 450 = .ok (.ireturn, 1) := by decide +kernel
theorem dw_451 : decode code 451 = .ok (.iload 5, 2) := by decide +kernel
theorem dw_453 : decode code 453 = .ok (.ifCond .ne 14, 3) := by decide +kernel
theorem dw_456 : decode code 456 = .ok (.aload_n 3, 1) := by decide +kernel
theorem dw_457 : decode code 457 = .ok (.iconst 0, 1) := by decide +kernel
theorem dw_458 : decode code 458 = .ok (.laload, 1) := by decide +kernel
theorem dw_459 : decode code 459 = .ok (.lload 6, 2) := by decide +kernel
theorem dw_461 : decode code 461 = .ok (.lcmp, 1) := by decide +kernel
theorem dw_462 : decode code 462 = .ok (.ifCond .eq 5, 3) := by decide +kernel
theorem dw_465 : decode code 465 = .ok (.iconst 0, 1) := by decide +kernel
theorem dw_466 : decode code 466 = .ok (.ireturn, 1) := by decide +kernel
theorem dw_467 : decode code 467 = .ok (.goto 658, 3) := by decide +kernel
theorem dw_470 : decode code 470 = .ok (.aload_n 1, 1) := by decide +kernel
theorem dw_471 : decode code 471 = .ok (.aload_n 0, 1) := by decide +kernel
theorem dw_472 : decode code 472 = .ok (.iload 4, 2) := by decide +kernel
theorem dw_474 : decode code 474 = .ok (.iconst 1, 1) := by decide +kernel
theorem dw_475 : decode code 475 = .ok (.iadd, 1) := by decide +kernel
theorem dw_476 : decode code 476 = .ok (.iaload, 1) := by decide +kernel
theorem dw_477 : decode code 477 = .ok (.aload_n 0, 1) := by decide +kernel
theorem dw_478 : decode code 478 = .ok (.iload 4, 2) := by decide +kernel
theorem dw_480 : decode code 480 = .ok (.iconst 2, 1) := by decide +kernel
theorem dw_481 : decode code 481 = .ok (.iadd, 1) := by decide +kernel
theorem dw_482 : decode code 482 = .ok (.iaload, 1) := by decide +kernel
theorem dw_483 : decode code 483 = .ok (.aload_n 3, 1) := by decide +kernel
theorem dw_484 : decode code 484 = .ok (.invokestatic 100, 3) := by decide +kernel
theorem dw_487 : decode code 487 = .ok (.istore 5, 2) := by decide +kernel
theorem dw_489 : decode code 489 = .ok (.aload_n 2, 1) := by decide +kernel
theorem dw_490 : decode code 490 = .ok (.aload_n 0, 1) := by decide +kernel
theorem dw_491 : decode code 491 = .ok (.iload 4, 2) := by decide +kernel
theorem dw_493 : decode code 493 = .ok (.iconst 1, 1) := by decide +kernel
theorem dw_494 : decode code 494 = .ok (.iadd, 1) := by decide +kernel
theorem dw_495 : decode code 495 = .ok (.iaload, 1) := by decide +kernel
theorem dw_496 : decode code 496 = .ok (.aload_n 0, 1) := by decide +kernel
theorem dw_497 : decode code 497 = .ok (.iload 4, 2) := by decide +kernel
theorem dw_499 : decode code 499 = .ok (.iconst 2, 1) := by decide +kernel
theorem dw_500 : decode code 500 = .ok (.iadd, 1) := by decide +kernel
theorem dw_501 : decode code 501 = .ok (.iaload, 1) := by decide +kernel
theorem dw_502 : decode code 502 = .ok (.invokevirtual 102, 3) := by decide +kernel
theorem dw_505 : decode code 505 = .ok (.istore 6, 2) := by decide +kernel
theorem dw_507 : decode code 507 = .ok (.aload_n 2, 1) := by decide +kernel
theorem dw_508 : decode code 508 = .ok (.invokevirtual 82, 3) := by decide +kernel
theorem dw_511 : decode code 511 = .ok (.iload 5, 2) := by decide +kernel
theorem dw_513 : decode code 513 = .ok (.if_icmp .eq 5, 3) := by decide +kernel
theorem dw_516 : decode code 516 = .ok (.iconst 0, 1) := by decide +kernel
theorem dw_517 : decode code 517 = .ok (.ireturn, 1) := by decide +kernel
theorem dw_518 : decode code 518 = .ok (.iload 5, 2) := by decide +kernel
theorem dw_520 : decode code 520 = .ok (.ifCond .ne 15, 3) := by decide +kernel
theorem dw_523 : decode code 523 = .ok (.aload_n 3, 1) := by decide +kernel
theorem dw_524 : decode code 524 = .ok (.iconst 0, 1) := by decide +kernel
theorem dw_525 : decode code 525 = .ok (.laload, 1) := by decide +kernel
theorem dw_526 : decode code 526 = .ok (.iload 6, 2) := by decide +kernel
theorem dw_528 : decode code 528 = .ok (.i2l, 1) := by decide +kernel
theorem dw_529 : decode code 529 = .ok (.lcmp, 1) := by decide +kernel
theorem dw_530 : decode code 530 = .ok (.ifCond .eq 5, 3) := by decide +kernel
theorem dw_533 : decode code 533 = .ok (.iconst 0, 1) := by decide +kernel
theorem dw_534 : decode code 534 = .ok (.ireturn, 1) := by decide +kernel
theorem dw_535 : decode code 535 = .ok (.goto 590, 3) := by decide +kernel
theorem dw_538 : decode code 538 = .ok (.aload_n 1, 1) := by decide +kernel
theorem dw_539 : decode code 539 = .ok (.aload_n 0, 1) := by decide +kernel
theorem dw_540 : decode code 540 = .ok (.iload 4, 2) := by decide +kernel
theorem dw_542 : decode code 542 = .ok (.iconst 1, 1) := by decide +kernel
theorem dw_543 : decode code 543 = .ok (.iadd, 1) := by decide +kernel
theorem dw_544 : decode code 544 = .ok (.iaload, 1) := by decide +kernel
theorem dw_545 : decode code 545 = .ok (.aload_n 0, 1) := by decide +kernel
theorem dw_546 : decode code 546 = .ok (.iload 4, 2) := by decide +kernel
theorem dw_548 : decode code 548 = .ok (.iconst 2, 1) := by decide +kernel
theorem dw_549 : decode code 549 = .ok (.iadd, 1) := by decide +kernel
theorem dw_550 : decode code 550 = .ok (.iaload, 1) := by decide +kernel
theorem dw_551 : decode code 551 = .ok (.aload_n 3, 1) := by decide +kernel
theorem dw_552 : decode code 552 = .ok (.invokestatic 103, 3) := by decide +kernel
theorem dw_555 : decode code 555 = .ok (.istore 5, 2) := by decide +kernel
theorem dw_557 : decode code 557 = .ok (.aload_n 2, 1) := by decide +kernel
theorem dw_558 : decode code 558 = .ok (.aload_n 0, 1) := by decide +kernel
theorem dw_559 : decode code 559 = .ok (.iload 4, 2) := by decide +kernel
theorem dw_561 : decode code 561 = .ok (.iconst 1, 1) := by decide +kernel
theorem dw_562 : decode code 562 = .ok (.iadd, 1) := by decide +kernel
theorem dw_563 : decode code 563 = .ok (.iaload, 1) := by decide +kernel
theorem dw_564 : decode code 564 = .ok (.aload_n 0, 1) := by decide +kernel
theorem dw_565 : decode code 565 = .ok (.iload 4, 2) := by decide +kernel
theorem dw_567 : decode code 567 = .ok (.iconst 2, 1) := by decide +kernel
theorem dw_568 : decode code 568 = .ok (.iadd, 1) := by decide +kernel
theorem dw_569 : decode code 569 = .ok (.iaload, 1) := by decide +kernel
theorem dw_570 : decode code 570 = .ok (.invokevirtual 105, 3) := by decide +kernel
theorem dw_573 : decode code 573 = .ok (.istore 6, 2) := by decide +kernel
theorem dw_575 : decode code 575 = .ok (.aload_n 2, 1) := by decide +kernel
theorem dw_576 : decode code 576 = .ok (.invokevirtual 82, 3) := by decide +kernel
theorem dw_579 : decode code 579 = .ok (.iload 5, 2) := by decide +kernel
theorem dw_581 : decode code 581 = .ok (.if_icmp .eq 5, 3) := by decide +kernel
theorem dw_584 : decode code 584 = .ok (.iconst 0, 1) := by decide +kernel
theorem dw_585 : decode code 585 = .ok (.ireturn, 1) := by decide +kernel
theorem dw_586 : decode code 586 = .ok (.iload 5, 2) := by decide +kernel
theorem dw_588 : decode code 588 = .ok (.ifCond .ne 15, 3) := by decide +kernel
theorem dw_591 : decode code 591 = .ok (.aload_n 3, 1) := by decide +kernel
theorem dw_592 : decode code 592 = .ok (.iconst 0, 1) := by decide +kernel
theorem dw_593 : decode code 593 = .ok (.laload, 1) := by decide +kernel
theorem dw_594 : decode code 594 = .ok (.iload 6, 2) := by decide +kernel
theorem dw_596 : decode code 596 = .ok (.i2l, 1) := by decide +kernel
theorem dw_597 : decode code 597 = .ok (.lcmp, 1) := by decide +kernel
theorem dw_598 : decode code 598 = .ok (.ifCond .eq 5, 3) := by decide +kernel
theorem dw_601 : decode code 601 = .ok (.iconst 0, 1) := by decide +kernel
theorem dw_602 : decode code 602 = .ok (.ireturn, 1) := by decide +kernel
theorem dw_603 : decode code 603 = .ok (.goto 522, 3) := by decide +kernel
theorem dw_606 : decode code 606 = .ok (.aload_n 1, 1) := by decide +kernel
theorem dw_607 : decode code 607 = .ok (.aload_n 0, 1) := by decide +kernel
theorem dw_608 : decode code 608 = .ok (.iload 4, 2) := by decide +kernel
theorem dw_610 : decode code 610 = .ok (.iconst 1, 1) := by decide +kernel
theorem dw_611 : decode code 611 = .ok (.iadd, 1) := by decide +kernel
theorem dw_612 : decode code 612 = .ok (.iaload, 1) := by decide +kernel
theorem dw_613 : decode code 613 = .ok (.aload_n 0, 1) := by decide +kernel
theorem dw_614 : decode code 614 = .ok (.iload 4, 2) := by decide +kernel
theorem dw_616 : decode code 616 = .ok (.iconst 2, 1) := by decide +kernel
theorem dw_617 : decode code 617 = .ok (.iadd, 1) := by decide +kernel
theorem dw_618 : decode code 618 = .ok (.iaload, 1) := by decide +kernel
theorem dw_619 : decode code 619 = .ok (.aload_n 3, 1) := by decide +kernel
theorem dw_620 : decode code 620 = .ok (.invokestatic 106, 3) := by decide +kernel
theorem dw_623 : decode code 623 = .ok (.istore 5, 2) := by decide +kernel
theorem dw_625 : decode code 625 = .ok (.aload_n 2, 1) := by decide +kernel
theorem dw_626 : decode code 626 = .ok (.aload_n 0, 1) := by decide +kernel
theorem dw_627 : decode code 627 = .ok (.iload 4, 2) := by decide +kernel
theorem dw_629 : decode code 629 = .ok (.iconst 1, 1) := by decide +kernel
theorem dw_630 : decode code 630 = .ok (.iadd, 1) := by decide +kernel
theorem dw_631 : decode code 631 = .ok (.iaload, 1) := by decide +kernel
theorem dw_632 : decode code 632 = .ok (.aload_n 0, 1) := by decide +kernel
theorem dw_633 : decode code 633 = .ok (.iload 4, 2) := by decide +kernel
theorem dw_635 : decode code 635 = .ok (.iconst 2, 1) := by decide +kernel
theorem dw_636 : decode code 636 = .ok (.iadd, 1) := by decide +kernel
theorem dw_637 : decode code 637 = .ok (.iaload, 1) := by decide +kernel
theorem dw_638 : decode code 638 = .ok (.invokevirtual 108, 3) := by decide +kernel
theorem dw_641 : decode code 641 = .ok (.istore 6, 2) := by decide +kernel
theorem dw_643 : decode code 643 = .ok (.aload_n 2, 1) := by decide +kernel
theorem dw_644 : decode code 644 = .ok (.invokevirtual 82, 3) := by decide +kernel
theorem dw_647 : decode code 647 = .ok (.iload 5, 2) := by decide +kernel
theorem dw_649 : decode code 649 = .ok (.if_icmp .eq 5, 3) := by decide +kernel
theorem dw_652 : decode code 652 = .ok (.iconst 0, 1) := by decide +kernel
theorem dw_653 : decode code 653 = .ok (.ireturn, 1) := by decide +kernel
theorem dw_654 : decode code 654 = .ok (.iload 5, 2) := by decide +kernel
theorem dw_656 : decode code 656 = .ok (.ifCond .ne 22, 3) := by decide +kernel
theorem dw_659 : decode code 659 = .ok (.aload_n 3, 1) := by decide +kernel
theorem dw_660 : decode code 660 = .ok (.iconst 0, 1) := by decide +kernel
theorem dw_661 : decode code 661 = .ok (.laload, 1) := by decide +kernel
theorem dw_662 : decode code 662 = .ok (.iload 6, 2) := by decide +kernel
theorem dw_664 : decode code 664 = .ok (.ifCond .eq 7, 3) := by decide +kernel
theorem dw_667 : decode code 667 = .ok (.lconst 1, 1) := by decide +kernel
theorem dw_668 : decode code 668 = .ok (.goto 4, 3) := by decide +kernel
theorem dw_671 : decode code 671 = .ok (.lconst 0, 1) := by decide +kernel
theorem dw_672 : decode code 672 = .ok (.lcmp, 1) := by decide +kernel
theorem dw_673 : decode code 673 = .ok (.ifCond .eq 5, 3) := by decide +kernel
theorem dw_676 : decode code 676 = .ok (.iconst 0, 1) := by decide +kernel
theorem dw_677 : decode code 677 = .ok (.ireturn, 1) := by decide +kernel
theorem dw_678 : decode code 678 = .ok (.goto 447, 3) := by decide +kernel
theorem dw_681 : decode code 681 = .ok (.aload_n 1, 1) := by decide +kernel
theorem dw_682 : decode code 682 = .ok (.aload_n 3, 1) := by decide +kernel
theorem dw_683 : decode code 683 = .ok (.invokestatic 109, 3) := by decide +kernel
theorem dw_686 : decode code 686 = .ok (.istore 5, 2) := by decide +kernel
theorem dw_688 : decode code 688 = .ok (.aload_n 2, 1) := by decide +kernel
theorem dw_689 : decode code 689 = .ok (.invokevirtual 111, 3) := by decide +kernel
theorem dw_692 : decode code 692 = .ok (.istore 6, 2) := by decide +kernel
theorem dw_694 : decode code 694 = .ok (.aload_n 2, 1) := by decide +kernel
theorem dw_695 : decode code 695 = .ok (.invokevirtual 82, 3) := by decide +kernel
theorem dw_698 : decode code 698 = .ok (.iload 5, 2) := by decide +kernel
theorem dw_700 : decode code 700 = .ok (.if_icmp .eq 5, 3) := by decide +kernel
theorem dw_703 : decode code 703 = .ok (.iconst 0, 1) := by decide +kernel
theorem dw_704 : decode code 704 = .ok (.ireturn, 1) := by decide +kernel
theorem dw_705 : decode code 705 = .ok (.iload 5, 2) := by decide +kernel
theorem dw_707 : decode code 707 = .ok (.ifCond .ne 15, 3) := by decide +kernel
theorem dw_710 : decode code 710 = .ok (.aload_n 3, 1) := by decide +kernel
theorem dw_711 : decode code 711 = .ok (.iconst 0, 1) := by decide +kernel
theorem dw_712 : decode code 712 = .ok (.laload, 1) := by decide +kernel
theorem dw_713 : decode code 713 = .ok (.iload 6, 2) := by decide +kernel
theorem dw_715 : decode code 715 = .ok (.i2l, 1) := by decide +kernel
theorem dw_716 : decode code 716 = .ok (.lcmp, 1) := by decide +kernel
theorem dw_717 : decode code 717 = .ok (.ifCond .eq 5, 3) := by decide +kernel
theorem dw_720 : decode code 720 = .ok (.iconst 0, 1) := by decide +kernel
theorem dw_721 : decode code 721 = .ok (.ireturn, 1) := by decide +kernel
theorem dw_722 : decode code 722 = .ok (.goto 403, 3) := by decide +kernel
theorem dw_725 : decode code 725 = .ok (.aload_n 1, 1) := by decide +kernel
theorem dw_726 : decode code 726 = .ok (.aload_n 0, 1) := by decide +kernel
theorem dw_727 : decode code 727 = .ok (.iload 4, 2) := by decide +kernel
theorem dw_729 : decode code 729 = .ok (.iconst 1, 1) := by decide +kernel
theorem dw_730 : decode code 730 = .ok (.iadd, 1) := by decide +kernel
theorem dw_731 : decode code 731 = .ok (.iaload, 1) := by decide +kernel
theorem dw_732 : decode code 732 = .ok (.aload_n 3, 1) := by decide +kernel
theorem dw_733 : decode code 733 = .ok (.invokestatic 112, 3) := by decide +kernel
theorem dw_736 : decode code 736 = .ok (.istore 5, 2) := by decide +kernel
theorem dw_738 : decode code 738 = .ok (.aload_n 2, 1) := by decide +kernel
theorem dw_739 : decode code 739 = .ok (.aload_n 0, 1) := by decide +kernel
theorem dw_740 : decode code 740 = .ok (.iload 4, 2) := by decide +kernel
theorem dw_742 : decode code 742 = .ok (.iconst 1, 1) := by decide +kernel
theorem dw_743 : decode code 743 = .ok (.iadd, 1) := by decide +kernel
theorem dw_744 : decode code 744 = .ok (.iaload, 1) := by decide +kernel
theorem dw_745 : decode code 745 = .ok (.invokevirtual 114, 3) := by decide +kernel
theorem dw_748 : decode code 748 = .ok (.istore 6, 2) := by decide +kernel
theorem dw_750 : decode code 750 = .ok (.aload_n 2, 1) := by decide +kernel
theorem dw_751 : decode code 751 = .ok (.invokevirtual 82, 3) := by decide +kernel
theorem dw_754 : decode code 754 = .ok (.iload 5, 2) := by decide +kernel
theorem dw_756 : decode code 756 = .ok (.if_icmp .eq 5, 3) := by decide +kernel
theorem dw_759 : decode code 759 = .ok (.iconst 0, 1) := by decide +kernel
theorem dw_760 : decode code 760 = .ok (.ireturn, 1) := by decide +kernel
theorem dw_761 : decode code 761 = .ok (.iload 5, 2) := by decide +kernel
theorem dw_763 : decode code 763 = .ok (.ifCond .ne 15, 3) := by decide +kernel
theorem dw_766 : decode code 766 = .ok (.aload_n 3, 1) := by decide +kernel
theorem dw_767 : decode code 767 = .ok (.iconst 0, 1) := by decide +kernel
theorem dw_768 : decode code 768 = .ok (.laload, 1) := by decide +kernel
theorem dw_769 : decode code 769 = .ok (.iload 6, 2) := by decide +kernel
theorem dw_771 : decode code 771 = .ok (.i2l, 1) := by decide +kernel
theorem dw_772 : decode code 772 = .ok (.lcmp, 1) := by decide +kernel
theorem dw_773 : decode code 773 = .ok (.ifCond .eq 5, 3) := by decide +kernel
theorem dw_776 : decode code 776 = .ok (.iconst 0, 1) := by decide +kernel
theorem dw_777 : decode code 777 = .ok (.ireturn, 1) := by decide +kernel
theorem dw_778 : decode code 778 = .ok (.goto 347, 3) := by decide +kernel
theorem dw_781 : decode code 781 = .ok (.aload_n 1, 1) := by decide +kernel
theorem dw_782 : decode code 782 = .ok (.invokevirtual 115, 3) := by decide +kernel
theorem dw_785 : decode code 785 = .ok (.aload_n 2, 1) := by decide +kernel
theorem dw_786 : decode code 786 = .ok (.invokevirtual 118, 3) := by decide +kernel
theorem dw_789 : decode code 789 = .ok (.if_icmp .eq 336, 3) := by decide +kernel
theorem dw_792 : decode code 792 = .ok (.iconst 0, 1) := by decide +kernel
theorem dw_793 : decode code 793 = .ok (.ireturn, 1) := by decide +kernel
theorem dw_794 : decode code 794 = .ok (.aload_n 1, 1) := by decide +kernel
theorem dw_795 : decode code 795 = .ok (.aload_n 0, 1) := by decide +kernel
theorem dw_796 : decode code 796 = .ok (.iload 4, 2) := by decide +kernel
theorem dw_798 : decode code 798 = .ok (.iconst 1, 1) := by decide +kernel
theorem dw_799 : decode code 799 = .ok (.iadd, 1) := by decide +kernel
theorem dw_800 : decode code 800 = .ok (.iaload, 1) := by decide +kernel
theorem dw_801 : decode code 801 = .ok (.aload_n 0, 1) := by decide +kernel
theorem dw_802 : decode code 802 = .ok (.iload 4, 2) := by decide +kernel
theorem dw_804 : decode code 804 = .ok (.iconst 2, 1) := by decide +kernel
theorem dw_805 : decode code 805 = .ok (.iadd, 1) := by decide +kernel
theorem dw_806 : decode code 806 = .ok (.iaload, 1) := by decide +kernel
theorem dw_807 : decode code 807 = .ok (.aload_n 3, 1) := by decide +kernel
theorem dw_808 : decode code 808 = .ok (.invokestatic 119, 3) := by decide +kernel
theorem dw_811 : decode code 811 = .ok (.istore 5, 2) := by decide +kernel
theorem dw_813 : decode code 813 = .ok (.aload_n 2, 1) := by decide +kernel
theorem dw_814 : decode code 814 = .ok (.aload_n 0, 1) := by decide +kernel
theorem dw_815 : decode code 815 = .ok (.iload 4, 2) := by decide +kernel
theorem dw_817 : decode code 817 = .ok (.iconst 1, 1) := by decide +kernel
theorem dw_818 : decode code 818 = .ok (.iadd, 1) := by decide +kernel
theorem dw_819 : decode code 819 = .ok (.iaload, 1) := by decide +kernel
theorem dw_820 : decode code 820 = .ok (.aload_n 0, 1) := by decide +kernel
theorem dw_821 : decode code 821 = .ok (.iload 4, 2) := by decide +kernel
theorem dw_823 : decode code 823 = .ok (.iconst 2, 1) := by decide +kernel
theorem dw_824 : decode code 824 = .ok (.iadd, 1) := by decide +kernel
theorem dw_825 : decode code 825 = .ok (.iaload, 1) := by decide +kernel
theorem dw_826 : decode code 826 = .ok (.invokevirtual 121, 3) := by decide +kernel
theorem dw_829 : decode code 829 = .ok (.lstore 6, 2) := by decide +kernel
theorem dw_831 : decode code 831 = .ok (.aload_n 2, 1) := by decide +kernel
theorem dw_832 : decode code 832 = .ok (.invokevirtual 82, 3) := by decide +kernel
theorem dw_835 : decode code 835 = .ok (.iload 5, 2) := by decide +kernel
theorem dw_837 : decode code 837 = .ok (.if_icmp .eq 5, 3) := by decide +kernel
theorem dw_840 : decode code 840 = .ok (.iconst 0, 1) := by decide +kernel
theorem dw_841 : decode code 841 = .ok (.ireturn, 1) := by decide +kernel
theorem dw_842 : decode code 842 = .ok (.iload 5, 2) := by decide +kernel
theorem dw_844 : decode code 844 = .ok (.ifCond .ne 14, 3) := by decide +kernel
theorem dw_847 : decode code 847 = .ok (.aload_n 3, 1) := by decide +kernel
theorem dw_848 : decode code 848 = .ok (.iconst 0, 1) := by decide +kernel
theorem dw_849 : decode code 849 = .ok (.laload, 1) := by decide +kernel
theorem dw_850 : decode code 850 = .ok (.lload 6, 2) := by decide +kernel
theorem dw_852 : decode code 852 = .ok (.lcmp, 1) := by decide +kernel
theorem dw_853 : decode code 853 = .ok (.ifCond .eq 5, 3) := by decide +kernel
theorem dw_856 : decode code 856 = .ok (.iconst 0, 1) := by decide +kernel
theorem dw_857 : decode code 857 = .ok (.ireturn, 1) := by decide +kernel
theorem dw_858 : decode code 858 = .ok (.goto 267, 3) := by decide +kernel
theorem dw_861 : decode code 861 = .ok (.aload_n 1, 1) := by decide +kernel
theorem dw_862 : decode code 862 = .ok (.aload_n 0, 1) := by decide +kernel
theorem dw_863 : decode code 863 = .ok (.iload 4, 2) := by decide +kernel
theorem dw_865 : decode code 865 = .ok (.iconst 1, 1) := by decide +kernel
theorem dw_866 : decode code 866 = .ok (.iadd, 1) := by decide +kernel
theorem dw_867 : decode code 867 = .ok (.iaload, 1) := by decide +kernel
theorem dw_868 : decode code 868 = .ok (.aload_n 0, 1) := by decide +kernel
theorem dw_869 : decode code 869 = .ok (.iload 4, 2) := by decide +kernel
theorem dw_871 : decode code 871 = .ok (.iconst 2, 1) := by decide +kernel
theorem dw_872 : decode code 872 = .ok (.iadd, 1) := by decide +kernel
theorem dw_873 : decode code 873 = .ok (.iaload, 1) := by decide +kernel
theorem dw_874 : decode code 874 = .ok (.aload_n 3, 1) := by decide +kernel
theorem dw_875 : decode code 875 = .ok (.invokestatic 122, 3) := by decide +kernel
theorem dw_878 : decode code 878 = .ok (.istore 5, 2) := by decide +kernel
theorem dw_880 : decode code 880 = .ok (.aload_n 2, 1) := by decide +kernel
theorem dw_881 : decode code 881 = .ok (.aload_n 0, 1) := by decide +kernel
theorem dw_882 : decode code 882 = .ok (.iload 4, 2) := by decide +kernel
theorem dw_884 : decode code 884 = .ok (.iconst 1, 1) := by decide +kernel
theorem dw_885 : decode code 885 = .ok (.iadd, 1) := by decide +kernel
theorem dw_886 : decode code 886 = .ok (.iaload, 1) := by decide +kernel
theorem dw_887 : decode code 887 = .ok (.aload_n 0, 1) := by decide +kernel
theorem dw_888 : decode code 888 = .ok (.iload 4, 2) := by decide +kernel
theorem dw_890 : decode code 890 = .ok (.iconst 2, 1) := by decide +kernel
theorem dw_891 : decode code 891 = .ok (.iadd, 1) := by decide +kernel
theorem dw_892 : decode code 892 = .ok (.iaload, 1) := by decide +kernel
theorem dw_893 : decode code 893 = .ok (.invokevirtual 124, 3) := by decide +kernel
theorem dw_896 : decode code 896 = .ok (.lstore 6, 2) := by decide +kernel
theorem dw_898 : decode code 898 = .ok (.aload_n 2, 1) := by decide +kernel
theorem dw_899 : decode code 899 = .ok (.invokevirtual 82, 3) := by decide +kernel
theorem dw_902 : decode code 902 = .ok (.iload 5, 2) := by decide +kernel
theorem dw_904 : decode code 904 = .ok (.if_icmp .eq 5, 3) := by decide +kernel
theorem dw_907 : decode code 907 = .ok (.iconst 0, 1) := by decide +kernel
theorem dw_908 : decode code 908 = .ok (.ireturn, 1) := by decide +kernel
theorem dw_909 : decode code 909 = .ok (.iload 5, 2) := by decide +kernel
theorem dw_911 : decode code 911 = .ok (.ifCond .ne 14, 3) := by decide +kernel
theorem dw_914 : decode code 914 = .ok (.aload_n 3, 1) := by decide +kernel
theorem dw_915 : decode code 915 = .ok (.iconst 0, 1) := by decide +kernel
theorem dw_916 : decode code 916 = .ok (.laload, 1) := by decide +kernel
theorem dw_917 : decode code 917 = .ok (.lload 6, 2) := by decide +kernel
theorem dw_919 : decode code 919 = .ok (.lcmp, 1) := by decide +kernel
theorem dw_920 : decode code 920 = .ok (.ifCond .eq 5, 3) := by decide +kernel
theorem dw_923 : decode code 923 = .ok (.iconst 0, 1) := by decide +kernel
theorem dw_924 : decode code 924 = .ok (.ireturn, 1) := by decide +kernel
theorem dw_925 : decode code 925 = .ok (.goto 200, 3) := by decide +kernel
theorem dw_928 : decode code 928 = .ok (.aload_n 1, 1) := by decide +kernel
theorem dw_929 : decode code 929 = .ok (.aload_n 0, 1) := by decide +kernel
theorem dw_930 : decode code 930 = .ok (.iload 4, 2) := by decide +kernel
theorem dw_932 : decode code 932 = .ok (.iconst 1, 1) := by decide +kernel
theorem dw_933 : decode code 933 = .ok (.iadd, 1) := by decide +kernel
theorem dw_934 : decode code 934 = .ok (.iaload, 1) := by decide +kernel
theorem dw_935 : decode code 935 = .ok (.aload_n 0, 1) := by decide +kernel
theorem dw_936 : decode code 936 = .ok (.iload 4, 2) := by decide +kernel
theorem dw_938 : decode code 938 = .ok (.iconst 2, 1) := by decide +kernel
theorem dw_939 : decode code 939 = .ok (.iadd, 1) := by decide +kernel
theorem dw_940 : decode code 940 = .ok (.iaload, 1) := by decide +kernel
theorem dw_941 : decode code 941 = .ok (.aload_n 0, 1) := by decide +kernel
theorem dw_942 : decode code 942 = .ok (.iload 4, 2) := by decide +kernel
theorem dw_944 : decode code 944 = .ok (.iconst 3, 1) := by decide +kernel
theorem dw_945 : decode code 945 = .ok (.iadd, 1) := by decide +kernel
theorem dw_946 : decode code 946 = .ok (.iaload, 1) := by decide +kernel
theorem dw_947 : decode code 947 = .ok (.i2l, 1) := by decide +kernel
theorem dw_948 : decode code 948 = .ok (.bipush 32, 2) := by decide +kernel
theorem dw_950 : decode code 950 = .ok (.lshl, 1) := by decide +kernel
theorem dw_951 : decode code 951 = .ok (.aload_n 0, 1) := by decide +kernel
theorem dw_952 : decode code 952 = .ok (.iload 4, 2) := by decide +kernel
theorem dw_954 : decode code 954 = .ok (.iconst 4, 1) := by decide +kernel
theorem dw_955 : decode code 955 = .ok (.iadd, 1) := by decide +kernel
theorem dw_956 : decode code 956 = .ok (.iaload, 1) := by decide +kernel
theorem dw_957 : decode code 957 = .ok (.i2l, 1) := by decide +kernel
theorem dw_958 : decode code 958 = .ok (.ldc2_w 76, 3) := by decide +kernel
theorem dw_961 : decode code 961 = .ok (.land, 1) := by decide +kernel
theorem dw_962 : decode code 962 = .ok (.lor, 1) := by decide +kernel
theorem dw_963 : decode code 963 = .ok (.invokestatic 125, 3) := by decide +kernel
theorem dw_966 : decode code 966 = .ok (.istore 5, 2) := by decide +kernel
theorem dw_968 : decode code 968 = .ok (.aload_n 2, 1) := by decide +kernel
theorem dw_969 : decode code 969 = .ok (.aload_n 0, 1) := by decide +kernel
theorem dw_970 : decode code 970 = .ok (.iload 4, 2) := by decide +kernel
theorem dw_972 : decode code 972 = .ok (.iconst 1, 1) := by decide +kernel
theorem dw_973 : decode code 973 = .ok (.iadd, 1) := by decide +kernel
theorem dw_974 : decode code 974 = .ok (.iaload, 1) := by decide +kernel
theorem dw_975 : decode code 975 = .ok (.aload_n 0, 1) := by decide +kernel
theorem dw_976 : decode code 976 = .ok (.iload 4, 2) := by decide +kernel
theorem dw_978 : decode code 978 = .ok (.iconst 2, 1) := by decide +kernel
theorem dw_979 : decode code 979 = .ok (.iadd, 1) := by decide +kernel
theorem dw_980 : decode code 980 = .ok (.iaload, 1) := by decide +kernel
theorem dw_981 : decode code 981 = .ok (.aload_n 0, 1) := by decide +kernel
theorem dw_982 : decode code 982 = .ok (.iload 4, 2) := by decide +kernel
theorem dw_984 : decode code 984 = .ok (.iconst 3, 1) := by decide +kernel
theorem dw_985 : decode code 985 = .ok (.iadd, 1) := by decide +kernel
theorem dw_986 : decode code 986 = .ok (.iaload, 1) := by decide +kernel
theorem dw_987 : decode code 987 = .ok (.i2l, 1) := by decide +kernel
theorem dw_988 : decode code 988 = .ok (.bipush 32, 2) := by decide +kernel
theorem dw_990 : decode code 990 = .ok (.lshl, 1) := by decide +kernel
theorem dw_991 : decode code 991 = .ok (.aload_n 0, 1) := by decide +kernel
theorem dw_992 : decode code 992 = .ok (.iload 4, 2) := by decide +kernel
theorem dw_994 : decode code 994 = .ok (.iconst 4, 1) := by decide +kernel
theorem dw_995 : decode code 995 = .ok (.iadd, 1) := by decide +kernel
theorem dw_996 : decode code 996 = .ok (.iaload, 1) := by decide +kernel
theorem dw_997 : decode code 997 = .ok (.i2l, 1) := by decide +kernel
theorem dw_998 : decode code 998 = .ok (.ldc2_w 76, 3) := by decide +kernel
theorem dw_1001 : decode code 1001 = .ok (.land, 1) := by decide +kernel
theorem dw_1002 : decode code 1002 = .ok (.lor, 1) := by decide +kernel
theorem dw_1003 : decode code 1003 = .ok (.invokevirtual 128, 3) := by decide +kernel
theorem dw_1006 : decode code 1006 = .ok (.aload_n 2, 1) := by decide +kernel
theorem dw_1007 : decode code 1007 = .ok (.invokevirtual 82, 3) := by decide +kernel
theorem dw_1010 : decode code 1010 = .ok (.iload 5, 2) := by decide +kernel
theorem dw_1012 : decode code 1012 = .ok (.if_icmp .eq 5, 3) := by decide +kernel
theorem dw_1015 : decode code 1015 = .ok (.iconst 0, 1) := by decide +kernel
theorem dw_1016 : decode code 1016 = .ok (.ireturn, 1) := by decide +kernel
theorem dw_1017 : decode code 1017 = .ok (.goto 108, 3) := by decide +kernel
theorem dw_1020 : decode code 1020 = .ok (.aload_n 1, 1) := by decide +kernel
theorem dw_1021 : decode code 1021 = .ok (.aload_n 0, 1) := by decide +kernel
theorem dw_1022 : decode code 1022 = .ok (.iload 4, 2) := by decide +kernel
theorem dw_1024 : decode code 1024 = .ok (.iconst 1, 1) := by decide +kernel
theorem dw_1025 : decode code 1025 = .ok (.iadd, 1) := by decide +kernel
theorem dw_1026 : decode code 1026 = .ok (.iaload, 1) := by decide +kernel
theorem dw_1027 : decode code 1027 = .ok (.aload_n 0, 1) := by decide +kernel
theorem dw_1028 : decode code 1028 = .ok (.iload 4, 2) := by decide +kernel
theorem dw_1030 : decode code 1030 = .ok (.iconst 2, 1) := by decide +kernel
theorem dw_1031 : decode code 1031 = .ok (.iadd, 1) := by decide +kernel
theorem dw_1032 : decode code 1032 = .ok (.iaload, 1) := by decide +kernel
theorem dw_1033 : decode code 1033 = .ok (.aload_n 0, 1) := by decide +kernel
theorem dw_1034 : decode code 1034 = .ok (.iload 4, 2) := by decide +kernel
theorem dw_1036 : decode code 1036 = .ok (.iconst 3, 1) := by decide +kernel
theorem dw_1037 : decode code 1037 = .ok (.iadd, 1) := by decide +kernel
theorem dw_1038 : decode code 1038 = .ok (.iaload, 1) := by decide +kernel
theorem dw_1039 : decode code 1039 = .ok (.i2l, 1) := by decide +kernel
theorem dw_1040 : decode code 1040 = .ok (.bipush 32, 2) := by decide +kernel
theorem dw_1042 : decode code 1042 = .ok (.lshl, 1) := by decide +kernel
theorem dw_1043 : decode code 1043 = .ok (.aload_n 0, 1) := by decide +kernel
theorem dw_1044 : decode code 1044 = .ok (.iload 4, 2) := by decide +kernel
theorem dw_1046 : decode code 1046 = .ok (.iconst 4, 1) := by decide +kernel
theorem dw_1047 : decode code 1047 = .ok (.iadd, 1) := by decide +kernel
theorem dw_1048 : decode code 1048 = .ok (.iaload, 1) := by decide +kernel
theorem dw_1049 : decode code 1049 = .ok (.i2l, 1) := by decide +kernel
theorem dw_1050 : decode code 1050 = .ok (.ldc2_w 76, 3) := by decide +kernel
theorem dw_1053 : decode code 1053 = .ok (.land, 1) := by decide +kernel
theorem dw_1054 : decode code 1054 = .ok (.lor, 1) := by decide +kernel
theorem dw_1055 : decode code 1055 = .ok (.invokestatic 129, 3) := by decide +kernel
theorem dw_1058 : decode code 1058 = .ok (.istore 5, 2) := by decide +kernel
theorem dw_1060 : decode code 1060 = .ok (.aload_n 2, 1) := by decide +kernel
theorem dw_1061 : decode code 1061 = .ok (.aload_n 0, 1) := by decide +kernel
theorem dw_1062 : decode code 1062 = .ok (.iload 4, 2) := by decide +kernel
theorem dw_1064 : decode code 1064 = .ok (.iconst 1, 1) := by decide +kernel
theorem dw_1065 : decode code 1065 = .ok (.iadd, 1) := by decide +kernel
theorem dw_1066 : decode code 1066 = .ok (.iaload, 1) := by decide +kernel
theorem dw_1067 : decode code 1067 = .ok (.aload_n 0, 1) := by decide +kernel
theorem dw_1068 : decode code 1068 = .ok (.iload 4, 2) := by decide +kernel
theorem dw_1070 : decode code 1070 = .ok (.iconst 2, 1) := by decide +kernel
theorem dw_1071 : decode code 1071 = .ok (.iadd, 1) := by decide +kernel
theorem dw_1072 : decode code 1072 = .ok (.iaload, 1) := by decide +kernel
theorem dw_1073 : decode code 1073 = .ok (.aload_n 0, 1) := by decide +kernel
theorem dw_1074 : decode code 1074 = .ok (.iload 4, 2) := by decide +kernel
theorem dw_1076 : decode code 1076 = .ok (.iconst 3, 1) := by decide +kernel
theorem dw_1077 : decode code 1077 = .ok (.iadd, 1) := by decide +kernel
theorem dw_1078 : decode code 1078 = .ok (.iaload, 1) := by decide +kernel
theorem dw_1079 : decode code 1079 = .ok (.i2l, 1) := by decide +kernel
theorem dw_1080 : decode code 1080 = .ok (.bipush 32, 2) := by decide +kernel
theorem dw_1082 : decode code 1082 = .ok (.lshl, 1) := by decide +kernel
theorem dw_1083 : decode code 1083 = .ok (.aload_n 0, 1) := by decide +kernel
theorem dw_1084 : decode code 1084 = .ok (.iload 4, 2) := by decide +kernel
theorem dw_1086 : decode code 1086 = .ok (.iconst 4, 1) := by decide +kernel
theorem dw_1087 : decode code 1087 = .ok (.iadd, 1) := by decide +kernel
theorem dw_1088 : decode code 1088 = .ok (.iaload, 1) := by decide +kernel
theorem dw_1089 : decode code 1089 = .ok (.i2l, 1) := by decide +kernel
theorem dw_1090 : decode code 1090 = .ok (.ldc2_w 76, 3) := by decide +kernel
theorem dw_1093 : decode code 1093 = .ok (.land, 1) := by decide +kernel
theorem dw_1094 : decode code 1094 = .ok (.lor, 1) := by decide +kernel
theorem dw_1095 : decode code 1095 = .ok (.invokevirtual 131, 3) := by decide +kernel
theorem dw_1098 : decode code 1098 = .ok (.aload_n 2, 1) := by decide +kernel
theorem dw_1099 : decode code 1099 = .ok (.invokevirtual 82, 3) := by decide +kernel
theorem dw_1102 : decode code 1102 = .ok (.iload 5, 2) := by decide +kernel
theorem dw_1104 : decode code 1104 = .ok (.if_icmp .eq 5, 3) := by decide +kernel
theorem dw_1107 : decode code 1107 = .ok (.iconst 0, 1) := by decide +kernel
theorem dw_1108 : decode code 1108 = .ok (.ireturn, 1) := by decide +kernel
theorem dw_1109 : decode code 1109 = .ok (.goto 16, 3) := by decide +kernel
theorem dw_1112 : decode code 1112 = .ok (.aload_n 1, 1) := by decide +kernel
theorem dw_1113 : decode code 1113 = .ok (.invokevirtual 132, 3) := by decide +kernel
theorem dw_1116 : decode code 1116 = .ok (.aload_n 2, 1) := by decide +kernel
theorem dw_1117 : decode code 1117 = .ok (.invokevirtual 135, 3) := by decide +kernel
theorem dw_1120 : decode code 1120 = .ok (.if_icmp .eq 5, 3) := by decide +kernel
theorem dw_1123 : decode code 1123 = .ok (.iconst 0, 1) := by decide +kernel
theorem dw_1124 : decode code 1124 = .ok (.ireturn, 1) := by decide +kernel
theorem dw_1125 : decode code 1125 = .ok (.iinc 4 5, 3) := by decide +kernel
theorem dw_1128 : decode code 1128 = .ok (.goto (-1095), 3) := by decide +kernel
theorem dw_1131 : decode code 1131 = .ok (.iconst 1, 1) := by decide +kernel
theorem dw_1132 : decode code 1132 = .ok (.ireturn, 1) := by decide +kernel
theorem kcl_76 {args : Array Value} {s : State} (hts : ∀ w ∈ lw_g, w.before args s = true) : (Cond.constantLong R_law 76 4294967295).before args s = true := hts _ (List.mem_filter.mpr ⟨List.mem_append_right _ (List.mem_of_getElem? (i := 716) (by decide +kernel)), rfl⟩)
theorem ll_put : Cond.methodLink R_law 78 yl_put ∈ lw_g := List.mem_filter.mpr ⟨List.mem_append_right _ (List.mem_of_getElem? (i := 164) (by decide +kernel)), rfl⟩
theorem ls_put : Cond.static yl_put ∈ lw_g := List.mem_filter.mpr ⟨List.mem_append_right _ (List.mem_of_getElem? (i := 165) (by decide +kernel)), rfl⟩
theorem ll_drop : Cond.methodLink R_law 85 yl_drop ∈ lw_g := List.mem_filter.mpr ⟨List.mem_append_right _ (List.mem_of_getElem? (i := 328) (by decide +kernel)), rfl⟩
theorem ls_drop : Cond.static yl_drop ∈ lw_g := List.mem_filter.mpr ⟨List.mem_append_right _ (List.mem_of_getElem? (i := 329) (by decide +kernel)), rfl⟩
theorem ll_version : Cond.methodLink R_law 89 yl_version ∈ lw_g := List.mem_filter.mpr ⟨List.mem_append_right _ (List.mem_of_getElem? (i := 339) (by decide +kernel)), rfl⟩
theorem ls_version : Cond.static yl_version ∈ lw_g := List.mem_filter.mpr ⟨List.mem_append_right _ (List.mem_of_getElem? (i := 340) (by decide +kernel)), rfl⟩
theorem ll_has : Cond.methodLink R_law 93 yl_has ∈ lw_g := List.mem_filter.mpr ⟨List.mem_append_right _ (List.mem_of_getElem? (i := 346) (by decide +kernel)), rfl⟩
theorem ls_has : Cond.static yl_has ∈ lw_g := List.mem_filter.mpr ⟨List.mem_append_right _ (List.mem_of_getElem? (i := 347) (by decide +kernel)), rfl⟩
theorem ll_find : Cond.methodLink R_law 97 yl_find ∈ lw_g := List.mem_filter.mpr ⟨List.mem_append_right _ (List.mem_of_getElem? (i := 378) (by decide +kernel)), rfl⟩
theorem ls_find : Cond.static yl_find ∈ lw_g := List.mem_filter.mpr ⟨List.mem_append_right _ (List.mem_of_getElem? (i := 379) (by decide +kernel)), rfl⟩
theorem ll_count : Cond.methodLink R_law 100 yl_count ∈ lw_g := List.mem_filter.mpr ⟨List.mem_append_right _ (List.mem_of_getElem? (i := 385) (by decide +kernel)), rfl⟩
theorem ls_count : Cond.static yl_count ∈ lw_g := List.mem_filter.mpr ⟨List.mem_append_right _ (List.mem_of_getElem? (i := 386) (by decide +kernel)), rfl⟩
theorem ll_key : Cond.methodLink R_law 103 yl_key ∈ lw_g := List.mem_filter.mpr ⟨List.mem_append_right _ (List.mem_of_getElem? (i := 393) (by decide +kernel)), rfl⟩
theorem ls_key : Cond.static yl_key ∈ lw_g := List.mem_filter.mpr ⟨List.mem_append_right _ (List.mem_of_getElem? (i := 394) (by decide +kernel)), rfl⟩
theorem ll_same : Cond.methodLink R_law 106 yl_same ∈ lw_g := List.mem_filter.mpr ⟨List.mem_append_right _ (List.mem_of_getElem? (i := 405) (by decide +kernel)), rfl⟩
theorem ls_same : Cond.static yl_same ∈ lw_g := List.mem_filter.mpr ⟨List.mem_append_right _ (List.mem_of_getElem? (i := 406) (by decide +kernel)), rfl⟩
theorem ll_free : Cond.methodLink R_law 109 yl_free ∈ lw_g := List.mem_filter.mpr ⟨List.mem_append_right _ (List.mem_of_getElem? (i := 416) (by decide +kernel)), rfl⟩
theorem ls_free : Cond.static yl_free ∈ lw_g := List.mem_filter.mpr ⟨List.mem_append_right _ (List.mem_of_getElem? (i := 417) (by decide +kernel)), rfl⟩
theorem ll_crash : Cond.methodLink R_law 112 yl_crash ∈ lw_g := List.mem_filter.mpr ⟨List.mem_append_right _ (List.mem_of_getElem? (i := 429) (by decide +kernel)), rfl⟩
theorem ls_crash : Cond.static yl_crash ∈ lw_g := List.mem_filter.mpr ⟨List.mem_append_right _ (List.mem_of_getElem? (i := 430) (by decide +kernel)), rfl⟩
theorem ll_wordAt : Cond.methodLink R_law 119 yl_wordAt ∈ lw_g := List.mem_filter.mpr ⟨List.mem_append_right _ (List.mem_of_getElem? (i := 446) (by decide +kernel)), rfl⟩
theorem ls_wordAt : Cond.static yl_wordAt ∈ lw_g := List.mem_filter.mpr ⟨List.mem_append_right _ (List.mem_of_getElem? (i := 447) (by decide +kernel)), rfl⟩
theorem ll_rootAt : Cond.methodLink R_law 122 yl_rootAt ∈ lw_g := List.mem_filter.mpr ⟨List.mem_append_right _ (List.mem_of_getElem? (i := 458) (by decide +kernel)), rfl⟩
theorem ls_rootAt : Cond.static yl_rootAt ∈ lw_g := List.mem_filter.mpr ⟨List.mem_append_right _ (List.mem_of_getElem? (i := 459) (by decide +kernel)), rfl⟩
theorem ll_poke : Cond.methodLink R_law 125 yl_poke ∈ lw_g := List.mem_filter.mpr ⟨List.mem_append_right _ (List.mem_of_getElem? (i := 470) (by decide +kernel)), rfl⟩
theorem ls_poke : Cond.static yl_poke ∈ lw_g := List.mem_filter.mpr ⟨List.mem_append_right _ (List.mem_of_getElem? (i := 471) (by decide +kernel)), rfl⟩
theorem ll_pokeRoot : Cond.methodLink R_law 129 yl_pokeRoot ∈ lw_g := List.mem_filter.mpr ⟨List.mem_append_right _ (List.mem_of_getElem? (i := 482) (by decide +kernel)), rfl⟩
theorem ls_pokeRoot : Cond.static yl_pokeRoot ∈ lw_g := List.mem_filter.mpr ⟨List.mem_append_right _ (List.mem_of_getElem? (i := 483) (by decide +kernel)), rfl⟩
