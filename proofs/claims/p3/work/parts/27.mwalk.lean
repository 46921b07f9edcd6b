set_option maxRecDepth 100000 in
set_option maxHeartbeats 4000000 in
theorem wm_act_252 {p : Program} {l : Launch} {e : Env} {s : State} {m : MethodId} {args : Array Value} {below : List Frame} {meth : Method} {c : Code} {D : va_G} {gm : Nat → Nat} {ca : Nat → ClassId} {A : Nat → Prop} (hX : MX p l e rmm_act s m args meth c D ca A km_act 11 (some .boolean)) (n : Nat) :∀ (k : Nat), ∀ (st : MSt) (x3 : Int32) (x5 : Int32) (x6 : Int64) (x8 : Int32) {r : Int32} {st' : MSt} (ls : Array Slot) (H : Heap) (locs : List Loc), MWd D gm ca A s.heap st H locs → lv_has ls 11 [(0, .ref (gm 0)), (3, .int x3), (5, .int x5), (6, .long x6), (8, .int x8)] → fm_act_252 n k st x3 x5 x6 x8 = some (r, st') → W p l e rmm_act s m args below meth c H locs 0 0 (MQX below (qmm_Q D gm ca A (XI r) st') args s 0 0 A) (F0 m 252 ls []) := by
  obtain ⟨hx, hb, hml, hr, hlk, hown, hts, hK, htr, hZ, hnh, hA, hfl⟩ := id hX
  intro k
  induction k with
  | zero =>
    intro st x3 x5 x6 x8 r st' ls H locs hB hl hf
    rw [fm_act_252] at hf
    cases hf
  | succ k ih =>
    intro st x3 x5 x6 x8 r st' ls H locs hB hl hf
    rw [fm_act_252] at hf
    refine lv_iload hx hb dm_act_252 (lv_at hl 4 rfl) ?_
    refine lv_iload_n hx hb dm_act_254 rfl (lv_at hl 1 rfl) ?_
    refine lv_icmp_ge (tgt := 320) hx hb dm_act_255 (by decide) (fun c1 => ?_) (fun c1 => ?_)
    · have hf := ifp c1 hf
      refine lv_aload_n hx hb dm_act_320 rfl (lv_at hl 0 rfl) ?_
      refine lv_aload_n hx hb dm_act_321 rfl (lv_at hl 0 rfl) ?_
      refine qbg_newest hx hb hown hts hK hB.1 dm_act_322 ?_
      refine lv_iconst (v := 1) hx hb dm_act_325 (by decide) ?_
      refine lv_iadd hx hb dm_act_326 ?_
      refine lv_lload hx hb dm_act_327 (lv_at hl 3 rfl) ?_
      obtain ⟨st2, h3, hf⟩ := obs hf
      refine qmmV (cq_writeRoot (l := l) (hfl := hfl) h3) (cw_m_writeRoot hts ⟨by decide, by decide⟩) hx hb hml hown hts hK hB hZ hA hl.1 rfl rfl (lv_room (Nat.le_of_ble_eq_true rfl)) dm_act_329 ⟨by decide, by decide⟩ (fun H locs hB => ?_)
      refine lv_aload_n hx hb dm_act_332 rfl (lv_at hl 0 rfl) ?_
      refine lv_dup hx hb dm_act_333 rfl ?_
      refine qbg_newest hx hb hown hts hK hB.1 dm_act_334 ?_
      refine lv_iconst (v := 1) hx hb dm_act_337 (by decide) ?_
      refine lv_iadd hx hb dm_act_338 ?_
      refine qbp_newest hx hb hown hts hK hB dm_act_339 (fun H locs hB => ?_)
      refine lv_aload_n hx hb dm_act_342 rfl (lv_at hl 0 rfl) ?_
      refine lv_iconst (v := 0) hx hb dm_act_343 (by decide) ?_
      refine qbp_altered hx hb hown hts hK hB rfl rfl dm_act_344 (fun H locs hB => ?_)
      refine lv_iconst (v := 1) hx hb dm_act_347 (by decide) ?_
      cases hf
      exact qem_z hx hb hr hlk hB rfl dm_act_348
    · have hf := ifn c1 hf
      refine lv_aload_n hx hb dm_act_258 rfl (lv_at hl 0 rfl) ?_
      refine qbg_many hx hb hown hts hK hB.1 dm_act_259 ?_
      refine lv_bipush (v := 8) hx hb dm_act_262 (by decide) ?_
      refine lv_icmp_ne (tgt := 274) hx hb dm_act_264 (by decide) (fun c4 => ?_) (fun c4 => ?_)
      · have hf := ifn c4 hf
        refine lv_iconst (v := 0) hx hb dm_act_274 (by decide) ?_
        refine lv_istore (lv' := [(9, .int 0), (0, .ref (gm 0)), (3, .int x3), (5, .int x5), (6, .long x6), (8, .int x8)]) hx hb dm_act_275 hl (by decide) rfl (fun ls hl => ?_)
        refine lv_aload_n hx hb dm_act_277 rfl (lv_at hl 1 rfl) ?_
        refine qbg_many hx hb hown hts hK hB.1 dm_act_278 ?_
        refine lv_bipush (v := 8) hx hb dm_act_281 (by decide) ?_
        refine lv_icmp_ne (tgt := 290) hx hb dm_act_283 (by decide) (fun c5 => ?_) (fun c5 => ?_)
        · have hf := ifn c5 hf
          refine lv_aload_n hx hb dm_act_290 rfl (lv_at hl 1 rfl) ?_
          refine qbg_many hx hb hown hts hK hB.1 dm_act_291 ?_
          refine lv_istore (lv' := [(10, .int (qbs_many st)), (9, .int 0), (0, .ref (gm 0)), (3, .int x3), (5, .int x5), (6, .long x6), (8, .int x8)]) hx hb dm_act_294 hl (by decide) rfl (fun ls hl => ?_)
          refine lv_aload_n hx hb dm_act_296 rfl (lv_at hl 2 rfl) ?_
          refine lv_aload_n hx hb dm_act_297 rfl (lv_at hl 2 rfl) ?_
          refine qbg_leaves hx hb hown hts hK hB.1 dm_act_298 ?_
          refine lv_iload hx hb dm_act_301 (lv_at hl 4 rfl) ?_
          refine lv_iload hx hb dm_act_303 (lv_at hl 6 rfl) ?_
          refine lv_iadd hx hb dm_act_305 ?_
          obtain ⟨r6, er6, ir6, hf⟩ := rdI_some hf
          refine qbl_leaves hx hb hK hB.1 ir6 er6 dm_act_306 ?_
          refine lv_iload hx hb dm_act_307 (lv_at hl 1 rfl) ?_
          refine lv_iload hx hb dm_act_309 (lv_at hl 0 rfl) ?_
          obtain ⟨st7, h8, hf⟩ := obs hf
          refine qmmV (cq_writeLeaf (l := l) (hfl := hfl) h8) (cw_m_writeLeaf hts ⟨by decide, by decide⟩) hx hb hml hown hts hK hB hZ hA hl.1 rfl rfl (lv_room (Nat.le_of_ble_eq_true rfl)) dm_act_311 ⟨by decide, by decide⟩ (fun H locs hB => ?_)
          refine lv_iinc (v := (x8 + 1)) (lv' := [(8, .int (x8 + 1)), (10, .int (qbs_many st)), (9, .int 0), (0, .ref (gm 0)), (3, .int x3), (5, .int x5), (6, .long x6)]) hx hb dm_act_314 hl (k := 6) rfl rfl (by decide) rfl (fun ls hl => ?_)
          refine lv_goto (tgt := 252) hx hb dm_act_317 (by decide) ?_
          exact ih _ _ _ _ _ _ _ _ hB (lv_sub hl [3, 4, 5, 6, 0] rfl) hf
        · have hf := ifp c5 hf
          refine lv_iconst (v := 4) hx hb dm_act_286 (by decide) ?_
          refine lv_goto (tgt := 294) hx hb dm_act_287 (by decide) ?_
          refine lv_istore (lv' := [(10, .int 4), (9, .int 0), (0, .ref (gm 0)), (3, .int x3), (5, .int x5), (6, .long x6), (8, .int x8)]) hx hb dm_act_294 hl (by decide) rfl (fun ls hl => ?_)
          refine lv_aload_n hx hb dm_act_296 rfl (lv_at hl 2 rfl) ?_
          refine lv_aload_n hx hb dm_act_297 rfl (lv_at hl 2 rfl) ?_
          refine qbg_leaves hx hb hown hts hK hB.1 dm_act_298 ?_
          refine lv_iload hx hb dm_act_301 (lv_at hl 4 rfl) ?_
          refine lv_iload hx hb dm_act_303 (lv_at hl 6 rfl) ?_
          refine lv_iadd hx hb dm_act_305 ?_
          obtain ⟨r9, er9, ir9, hf⟩ := rdI_some hf
          refine qbl_leaves hx hb hK hB.1 ir9 er9 dm_act_306 ?_
          refine lv_iload hx hb dm_act_307 (lv_at hl 1 rfl) ?_
          refine lv_iload hx hb dm_act_309 (lv_at hl 0 rfl) ?_
          obtain ⟨st10, h11, hf⟩ := obs hf
          refine qmmV (cq_writeLeaf (l := l) (hfl := hfl) h11) (cw_m_writeLeaf hts ⟨by decide, by decide⟩) hx hb hml hown hts hK hB hZ hA hl.1 rfl rfl (lv_room (Nat.le_of_ble_eq_true rfl)) dm_act_311 ⟨by decide, by decide⟩ (fun H locs hB => ?_)
          refine lv_iinc (v := (x8 + 1)) (lv' := [(8, .int (x8 + 1)), (10, .int 4), (9, .int 0), (0, .ref (gm 0)), (3, .int x3), (5, .int x5), (6, .long x6)]) hx hb dm_act_314 hl (k := 6) rfl rfl (by decide) rfl (fun ls hl => ?_)
          refine lv_goto (tgt := 252) hx hb dm_act_317 (by decide) ?_
          exact ih _ _ _ _ _ _ _ _ hB (lv_sub hl [3, 4, 5, 6, 0] rfl) hf
      · have hf := ifp c4 hf
        refine lv_iconst (v := 4) hx hb dm_act_267 (by decide) ?_
        refine lv_iload hx hb dm_act_268 (lv_at hl 4 rfl) ?_
        refine lv_imul hx hb dm_act_270 ?_
        refine lv_goto (tgt := 275) hx hb dm_act_271 (by decide) ?_
        refine lv_istore (lv' := [(9, .int (4 * x8)), (0, .ref (gm 0)), (3, .int x3), (5, .int x5), (6, .long x6), (8, .int x8)]) hx hb dm_act_275 hl (by decide) rfl (fun ls hl => ?_)
        refine lv_aload_n hx hb dm_act_277 rfl (lv_at hl 1 rfl) ?_
        refine qbg_many hx hb hown hts hK hB.1 dm_act_278 ?_
        refine lv_bipush (v := 8) hx hb dm_act_281 (by decide) ?_
        refine lv_icmp_ne (tgt := 290) hx hb dm_act_283 (by decide) (fun c12 => ?_) (fun c12 => ?_)
        · have hf := ifn c12 hf
          refine lv_aload_n hx hb dm_act_290 rfl (lv_at hl 1 rfl) ?_
          refine qbg_many hx hb hown hts hK hB.1 dm_act_291 ?_
          refine lv_istore (lv' := [(10, .int (qbs_many st)), (9, .int (4 * x8)), (0, .ref (gm 0)), (3, .int x3), (5, .int x5), (6, .long x6), (8, .int x8)]) hx hb dm_act_294 hl (by decide) rfl (fun ls hl => ?_)
          refine lv_aload_n hx hb dm_act_296 rfl (lv_at hl 2 rfl) ?_
          refine lv_aload_n hx hb dm_act_297 rfl (lv_at hl 2 rfl) ?_
          refine qbg_leaves hx hb hown hts hK hB.1 dm_act_298 ?_
          refine lv_iload hx hb dm_act_301 (lv_at hl 4 rfl) ?_
          refine lv_iload hx hb dm_act_303 (lv_at hl 6 rfl) ?_
          refine lv_iadd hx hb dm_act_305 ?_
          obtain ⟨r13, er13, ir13, hf⟩ := rdI_some hf
          refine qbl_leaves hx hb hK hB.1 ir13 er13 dm_act_306 ?_
          refine lv_iload hx hb dm_act_307 (lv_at hl 1 rfl) ?_
          refine lv_iload hx hb dm_act_309 (lv_at hl 0 rfl) ?_
          obtain ⟨st14, h15, hf⟩ := obs hf
          refine qmmV (cq_writeLeaf (l := l) (hfl := hfl) h15) (cw_m_writeLeaf hts ⟨by decide, by decide⟩) hx hb hml hown hts hK hB hZ hA hl.1 rfl rfl (lv_room (Nat.le_of_ble_eq_true rfl)) dm_act_311 ⟨by decide, by decide⟩ (fun H locs hB => ?_)
          refine lv_iinc (v := (x8 + 1)) (lv' := [(8, .int (x8 + 1)), (10, .int (qbs_many st)), (9, .int (4 * x8)), (0, .ref (gm 0)), (3, .int x3), (5, .int x5), (6, .long x6)]) hx hb dm_act_314 hl (k := 6) rfl rfl (by decide) rfl (fun ls hl => ?_)
          refine lv_goto (tgt := 252) hx hb dm_act_317 (by decide) ?_
          exact ih _ _ _ _ _ _ _ _ hB (lv_sub hl [3, 4, 5, 6, 0] rfl) hf
        · have hf := ifp c12 hf
          refine lv_iconst (v := 4) hx hb dm_act_286 (by decide) ?_
          refine lv_goto (tgt := 294) hx hb dm_act_287 (by decide) ?_
          refine lv_istore (lv' := [(10, .int 4), (9, .int (4 * x8)), (0, .ref (gm 0)), (3, .int x3), (5, .int x5), (6, .long x6), (8, .int x8)]) hx hb dm_act_294 hl (by decide) rfl (fun ls hl => ?_)
          refine lv_aload_n hx hb dm_act_296 rfl (lv_at hl 2 rfl) ?_
          refine lv_aload_n hx hb dm_act_297 rfl (lv_at hl 2 rfl) ?_
          refine qbg_leaves hx hb hown hts hK hB.1 dm_act_298 ?_
          refine lv_iload hx hb dm_act_301 (lv_at hl 4 rfl) ?_
          refine lv_iload hx hb dm_act_303 (lv_at hl 6 rfl) ?_
          refine lv_iadd hx hb dm_act_305 ?_
          obtain ⟨r16, er16, ir16, hf⟩ := rdI_some hf
          refine qbl_leaves hx hb hK hB.1 ir16 er16 dm_act_306 ?_
          refine lv_iload hx hb dm_act_307 (lv_at hl 1 rfl) ?_
          refine lv_iload hx hb dm_act_309 (lv_at hl 0 rfl) ?_
          obtain ⟨st17, h18, hf⟩ := obs hf
          refine qmmV (cq_writeLeaf (l := l) (hfl := hfl) h18) (cw_m_writeLeaf hts ⟨by decide, by decide⟩) hx hb hml hown hts hK hB hZ hA hl.1 rfl rfl (lv_room (Nat.le_of_ble_eq_true rfl)) dm_act_311 ⟨by decide, by decide⟩ (fun H locs hB => ?_)
          refine lv_iinc (v := (x8 + 1)) (lv' := [(8, .int (x8 + 1)), (10, .int 4), (9, .int (4 * x8)), (0, .ref (gm 0)), (3, .int x3), (5, .int x5), (6, .long x6)]) hx hb dm_act_314 hl (k := 6) rfl rfl (by decide) rfl (fun ls hl => ?_)
          refine lv_goto (tgt := 252) hx hb dm_act_317 (by decide) ?_
          exact ih _ _ _ _ _ _ _ _ hB (lv_sub hl [3, 4, 5, 6, 0] rfl) hf
set_option maxRecDepth 100000 in
set_option maxHeartbeats 4000000 in
theorem wm_act_178 {p : Program} {l : Launch} {e : Env} {s : State} {m : MethodId} {args : Array Value} {below : List Frame} {meth : Method} {c : Code} {D : va_G} {gm : Nat → Nat} {ca : Nat → ClassId} {A : Nat → Prop} (hX : MX p l e rmm_act s m args meth c D ca A km_act 11 (some .boolean)) (n : Nat) :∀ (k : Nat), ∀ (st : MSt) (x2 : Int32) (x3 : Int32) (x4 : Int32) (x5 : Int32) (x6 : Int32) {r : Int32} {st' : MSt} (ls : Array Slot) (H : Heap) (locs : List Loc), MWd D gm ca A s.heap st H locs → lv_has ls 11 [(0, .ref (gm 0)), (2, .int x2), (3, .int x3), (4, .int x4), (5, .int x5), (6, .int x6)] → fm_act_178 n k st x2 x3 x4 x5 x6 = some (r, st') → W p l e rmm_act s m args below meth c H locs 0 0 (MQX below (qmm_Q D gm ca A (XI r) st') args s 0 0 A) (F0 m 178 ls []) := by
  obtain ⟨hx, hb, hml, hr, hlk, hown, hts, hK, htr, hZ, hnh, hA, hfl⟩ := id hX
  intro k
  induction k with
  | zero =>
    intro st x2 x3 x4 x5 x6 r st' ls H locs hB hl hf
    rw [fm_act_178] at hf
    cases hf
  | succ k ih =>
    intro st x2 x3 x4 x5 x6 r st' ls H locs hB hl hf
    rw [fm_act_178] at hf
    refine lv_iload hx hb dm_act_178 (lv_at hl 5 rfl) ?_
    refine lv_iload hx hb dm_act_180 (lv_at hl 3 rfl) ?_
    refine lv_icmp_ge (tgt := 220) hx hb dm_act_182 (by decide) (fun c1 => ?_) (fun c1 => ?_)
    · have hf := ifp c1 hf
      refine lv_aload_n hx hb dm_act_220 rfl (lv_at hl 0 rfl) ?_
      refine qbg_leafCount hx hb hown hts hK hB.1 dm_act_221 ?_
      refine lv_bipush (v := 16) hx hb dm_act_224 (by decide) ?_
      refine lv_icmp_le (tgt := 231) hx hb dm_act_226 (by decide) (fun c2 => ?_) (fun c2 => ?_)
      · have hf := ifp c2 hf
        refine lv_aload_n hx hb dm_act_231 rfl (lv_at hl 0 rfl) ?_
        refine lv_aload_n hx hb dm_act_232 rfl (lv_at hl 0 rfl) ?_
        refine qbg_newest hx hb hown hts hK hB.1 dm_act_233 ?_
        obtain ⟨r3, h4, hf⟩ := obs hf
        refine qrmI (cq_entriesOf (l := l) (hfl := hfl) h4) (cw_m_entriesOf hts ⟨by decide, by decide⟩) hx hb hml hown hts hK hB.1 hB.2.2 hZ hl.1 rfl rfl (lv_room (Nat.le_of_ble_eq_true rfl)) dm_act_236 ⟨by decide, by decide⟩ ?_
        refine lv_iload_n hx hb dm_act_239 rfl (lv_at hl 1 rfl) ?_
        refine lv_iadd hx hb dm_act_240 ?_
        refine lv_i2l hx hb dm_act_241 rfl ?_
        refine lv_lstore (lv' := [(6, .long ((r3 + x2)).toInt64), (0, .ref (gm 0)), (2, .int x2), (3, .int x3), (4, .int x4), (5, .int x5)]) hx hb dm_act_242 hl (by decide) rfl (fun ls hl => ?_)
        refine lv_aload_n hx hb dm_act_244 rfl (lv_at hl 1 rfl) ?_
        refine lv_iconst (v := 0) hx hb dm_act_245 (by decide) ?_
        refine qbp_written hx hb hown hts hK hB dm_act_246 (fun H locs hB => ?_)
        refine lv_iconst (v := 0) hx hb dm_act_249 (by decide) ?_
        refine lv_istore (lv' := [(8, .int 0), (6, .long ((r3 + x2)).toInt64), (0, .ref (gm 0)), (2, .int x2), (3, .int x3), (4, .int x4), (5, .int x5)]) hx hb dm_act_250 hl (by decide) rfl (fun ls hl => ?_)
        exact wm_act_252 hX n n _ _ _ _ _ _ _ _ hB (lv_sub hl [2, 4, 6, 1, 0] rfl) hf
      · have hf := ifn c2 hf
        refine lv_iconst (v := 0) hx hb dm_act_229 (by decide) ?_
        cases hf
        exact qem_z hx hb hr hlk hB rfl dm_act_230
    · have hf := ifn c1 hf
      refine lv_aload_n hx hb dm_act_185 rfl (lv_at hl 0 rfl) ?_
      refine qbg_leaves hx hb hown hts hK hB.1 dm_act_186 ?_
      refine lv_aload_n hx hb dm_act_189 rfl (lv_at hl 0 rfl) ?_
      refine qbg_leafCount hx hb hown hts hK hB.1 dm_act_190 ?_
      refine lv_aload_n hx hb dm_act_193 rfl (lv_at hl 0 rfl) ?_
      refine lv_aload_n hx hb dm_act_194 rfl (lv_at hl 0 rfl) ?_
      refine qbg_newest hx hb hown hts hK hB.1 dm_act_195 ?_
      refine lv_iload hx hb dm_act_198 (lv_at hl 5 rfl) ?_
      obtain ⟨r5, h6, hf⟩ := obs hf
      refine qrmI (cq_leafOf (l := l) (hfl := hfl) h6) (cw_m_leafOf hts ⟨by decide, by decide⟩) hx hb hml hown hts hK hB.1 hB.2.2 hZ hl.1 rfl rfl (lv_room (Nat.le_of_ble_eq_true rfl)) dm_act_200 ⟨by decide, by decide⟩ ?_
      obtain ⟨a7, ea7, ia7, hf⟩ := wrI_some hf
      refine qbt_leaves hx hb hK hB ia7 ea7 dm_act_203 (fun H locs hB => ?_)
      refine lv_aload_n hx hb dm_act_204 rfl (lv_at hl 0 rfl) ?_
      refine lv_dup hx hb dm_act_205 rfl ?_
      refine qbg_leafCount hx hb hown hts hK hB.1 dm_act_206 ?_
      refine lv_iconst (v := 1) hx hb dm_act_209 (by decide) ?_
      refine lv_iadd hx hb dm_act_210 ?_
      refine qbp_leafCount hx hb hown hts hK hB dm_act_211 (fun H locs hB => ?_)
      refine lv_iinc (v := (x6 + 1)) (lv' := [(6, .int (x6 + 1)), (0, .ref (gm 0)), (2, .int x2), (3, .int x3), (4, .int x4), (5, .int x5)]) hx hb dm_act_214 hl (k := 5) rfl rfl (by decide) rfl (fun ls hl => ?_)
      refine lv_goto (tgt := 178) hx hb dm_act_217 (by decide) ?_
      exact ih _ _ _ _ _ _ _ _ _ hB (lv_sub hl [1, 2, 3, 4, 5, 0] rfl) hf
set_option maxRecDepth 100000 in
set_option maxHeartbeats 4000000 in
theorem wm_act_118 {p : Program} {l : Launch} {e : Env} {s : State} {m : MethodId} {args : Array Value} {below : List Frame} {meth : Method} {c : Code} {D : va_G} {gm : Nat → Nat} {ca : Nat → ClassId} {A : Nat → Prop} (hX : MX p l e rmm_act s m args meth c D ca A km_act 11 (some .boolean)) (n : Nat) :∀ (k : Nat), ∀ (st : MSt) (x1 : Int32) (x2 : Int32) (x3 : Int32) (x4 : Int32) (x5 : Int32) (x6 : Int32) {r : Int32} {st' : MSt} (ls : Array Slot) (H : Heap) (locs : List Loc), MWd D gm ca A s.heap st H locs → lv_has ls 11 [(0, .ref (gm 0)), (1, .int x1), (2, .int x2), (3, .int x3), (4, .int x4), (5, .int x5), (6, .int x6)] → fm_act_118 n k st x1 x2 x3 x4 x5 x6 = some (r, st') → W p l e rmm_act s m args below meth c H locs 0 0 (MQX below (qmm_Q D gm ca A (XI r) st') args s 0 0 A) (F0 m 118 ls []) := by
  obtain ⟨hx, hb, hml, hr, hlk, hown, hts, hK, htr, hZ, hnh, hA, hfl⟩ := id hX
  intro k
  induction k with
  | zero =>
    intro st x1 x2 x3 x4 x5 x6 r st' ls H locs hB hl hf
    rw [fm_act_118] at hf
    cases hf
  | succ k ih =>
    intro st x1 x2 x3 x4 x5 x6 r st' ls H locs hB hl hf
    rw [fm_act_118] at hf
    refine lv_iload hx hb dm_act_118 (lv_at hl 6 rfl) ?_
    refine lv_iload_n hx hb dm_act_120 rfl (lv_at hl 3 rfl) ?_
    refine lv_icmp_ge (tgt := 173) hx hb dm_act_121 (by decide) (fun c1 => ?_) (fun c1 => ?_)
    · have hf := ifp c1 hf
      refine lv_iload_n hx hb dm_act_173 rfl (lv_at hl 1 rfl) ?_
      refine lv_iconst (v := 1) hx hb dm_act_174 (by decide) ?_
      refine lv_iadd hx hb dm_act_175 ?_
      refine lv_istore (lv' := [(6, .int (x1 + 1)), (0, .ref (gm 0)), (1, .int x1), (2, .int x2), (3, .int x3), (4, .int x4), (5, .int x5)]) hx hb dm_act_176 hl (by decide) rfl (fun ls hl => ?_)
      exact wm_act_178 hX n n _ _ _ _ _ _ _ _ _ hB (lv_sub hl [1, 3, 4, 5, 6, 0] rfl) hf
    · have hf := ifn c1 hf
      refine lv_aload_n hx hb dm_act_124 rfl (lv_at hl 0 rfl) ?_
      obtain ⟨r2, h3, hf⟩ := obs hf
      refine qrmI (cq_nextFree (l := l) (hfl := hfl) h3) (cw_m_nextFree hts ⟨by decide, by decide⟩) hx hb hml hown hts hK hB.1 hB.2.2 hZ hl.1 rfl rfl (lv_room (Nat.le_of_ble_eq_true rfl)) dm_act_125 ⟨by decide, by decide⟩ ?_
      refine lv_istore (lv' := [(7, .int r2), (0, .ref (gm 0)), (1, .int x1), (2, .int x2), (3, .int x3), (4, .int x4), (5, .int x5), (6, .int x6)]) hx hb dm_act_128 hl (by decide) rfl (fun ls hl => ?_)
      refine lv_iload hx hb dm_act_130 (lv_at hl 0 rfl) ?_
      refine lv_iconst (v := (-1)) hx hb dm_act_132 (by decide) ?_
      refine lv_icmp_ne (tgt := 138) hx hb dm_act_133 (by decide) (fun c4 => ?_) (fun c4 => ?_)
      · have hf := ifn c4 hf
        refine lv_aload_n hx hb dm_act_138 rfl (lv_at hl 1 rfl) ?_
        refine qbg_taken hx hb hown hts hK hB.1 dm_act_139 ?_
        refine lv_iload hx hb dm_act_142 (lv_at hl 0 rfl) ?_
        refine lv_iconst (v := 1) hx hb dm_act_144 (by decide) ?_
        obtain ⟨a5, ea5, ia5, hf⟩ := wrI_some hf
        refine qbt_taken hx hb hK hB ia5 ea5 rfl dm_act_145 (fun H locs hB => ?_)
        refine lv_aload_n hx hb dm_act_146 rfl (lv_at hl 1 rfl) ?_
        refine qbg_leaves hx hb hown hts hK hB.1 dm_act_147 ?_
        refine lv_aload_n hx hb dm_act_150 rfl (lv_at hl 1 rfl) ?_
        refine qbg_leafCount hx hb hown hts hK hB.1 dm_act_151 ?_
        refine lv_iload hx hb dm_act_154 (lv_at hl 0 rfl) ?_
        obtain ⟨a6, ea6, ia6, hf⟩ := wrI_some hf
        refine qbt_leaves hx hb hK hB ia6 ea6 dm_act_156 (fun H locs hB => ?_)
        refine lv_aload_n hx hb dm_act_157 rfl (lv_at hl 1 rfl) ?_
        refine lv_dup hx hb dm_act_158 rfl ?_
        refine qbg_leafCount hx hb hown hts hK hB.1 dm_act_159 ?_
        refine lv_iconst (v := 1) hx hb dm_act_162 (by decide) ?_
        refine lv_iadd hx hb dm_act_163 ?_
        refine qbp_leafCount hx hb hown hts hK hB dm_act_164 (fun H locs hB => ?_)
        refine lv_iinc (v := (x6 + 1)) (lv' := [(6, .int (x6 + 1)), (7, .int r2), (0, .ref (gm 0)), (1, .int x1), (2, .int x2), (3, .int x3), (4, .int x4), (5, .int x5)]) hx hb dm_act_167 hl (k := 7) rfl rfl (by decide) rfl (fun ls hl => ?_)
        refine lv_goto (tgt := 118) hx hb dm_act_170 (by decide) ?_
        exact ih _ _ _ _ _ _ _ _ _ _ hB (lv_sub hl [2, 3, 4, 5, 6, 7, 0] rfl) hf
      · have hf := ifp c4 hf
        refine lv_iconst (v := 0) hx hb dm_act_136 (by decide) ?_
        cases hf
        exact qem_z hx hb hr hlk hB rfl dm_act_137
set_option maxRecDepth 100000 in
set_option maxHeartbeats 4000000 in
theorem wm_act_68 {p : Program} {l : Launch} {e : Env} {s : State} {m : MethodId} {args : Array Value} {below : List Frame} {meth : Method} {c : Code} {D : va_G} {gm : Nat → Nat} {ca : Nat → ClassId} {A : Nat → Prop} (hX : MX p l e rmm_act s m args meth c D ca A km_act 11 (some .boolean)) (n : Nat) :∀ (k : Nat), ∀ (st : MSt) (x1 : Int32) (x2 : Int32) (x3 : Int32) (x4 : Int32) (x5 : Int32) {r : Int32} {st' : MSt} (ls : Array Slot) (H : Heap) (locs : List Loc), MWd D gm ca A s.heap st H locs → lv_has ls 11 [(0, .ref (gm 0)), (1, .int x1), (2, .int x2), (3, .int x3), (4, .int x4), (5, .int x5)] → fm_act_68 n k st x1 x2 x3 x4 x5 = some (r, st') → W p l e rmm_act s m args below meth c H locs 0 0 (MQX below (qmm_Q D gm ca A (XI r) st') args s 0 0 A) (F0 m 68 ls []) := by
  obtain ⟨hx, hb, hml, hr, hlk, hown, hts, hK, htr, hZ, hnh, hA, hfl⟩ := id hX
  intro k
  induction k with
  | zero =>
    intro st x1 x2 x3 x4 x5 r st' ls H locs hB hl hf
    rw [fm_act_68] at hf
    cases hf
  | succ k ih =>
    intro st x1 x2 x3 x4 x5 r st' ls H locs hB hl hf
    rw [fm_act_68] at hf
    refine lv_iload hx hb dm_act_68 (lv_at hl 5 rfl) ?_
    refine lv_iload_n hx hb dm_act_70 rfl (lv_at hl 1 rfl) ?_
    refine lv_icmp_ge (tgt := 109) hx hb dm_act_71 (by decide) (fun c1 => ?_) (fun c1 => ?_)
    · have hf := ifp c1 hf
      refine lv_aload_n hx hb dm_act_109 rfl (lv_at hl 0 rfl) ?_
      refine qbg_leafCount hx hb hown hts hK hB.1 dm_act_110 ?_
      refine lv_istore (lv' := [(5, .int (qbs_leafCount st)), (0, .ref (gm 0)), (1, .int x1), (2, .int x2), (3, .int x3), (4, .int x4)]) hx hb dm_act_113 hl (by decide) rfl (fun ls hl => ?_)
      refine lv_iconst (v := 0) hx hb dm_act_115 (by decide) ?_
      refine lv_istore (lv' := [(6, .int 0), (5, .int (qbs_leafCount st)), (0, .ref (gm 0)), (1, .int x1), (2, .int x2), (3, .int x3), (4, .int x4)]) hx hb dm_act_116 hl (by decide) rfl (fun ls hl => ?_)
      exact wm_act_118 hX n n _ _ _ _ _ _ _ _ _ _ hB (lv_sub hl [2, 3, 4, 5, 6, 1, 0] rfl) hf
    · have hf := ifn c1 hf
      refine lv_aload_n hx hb dm_act_74 rfl (lv_at hl 0 rfl) ?_
      refine qbg_leaves hx hb hown hts hK hB.1 dm_act_75 ?_
      refine lv_aload_n hx hb dm_act_78 rfl (lv_at hl 0 rfl) ?_
      refine qbg_leafCount hx hb hown hts hK hB.1 dm_act_79 ?_
      refine lv_aload_n hx hb dm_act_82 rfl (lv_at hl 0 rfl) ?_
      refine lv_aload_n hx hb dm_act_83 rfl (lv_at hl 0 rfl) ?_
      refine qbg_newest hx hb hown hts hK hB.1 dm_act_84 ?_
      refine lv_iload hx hb dm_act_87 (lv_at hl 5 rfl) ?_
      obtain ⟨r2, h3, hf⟩ := obs hf
      refine qrmI (cq_leafOf (l := l) (hfl := hfl) h3) (cw_m_leafOf hts ⟨by decide, by decide⟩) hx hb hml hown hts hK hB.1 hB.2.2 hZ hl.1 rfl rfl (lv_room (Nat.le_of_ble_eq_true rfl)) dm_act_89 ⟨by decide, by decide⟩ ?_
      obtain ⟨a4, ea4, ia4, hf⟩ := wrI_some hf
      refine qbt_leaves hx hb hK hB ia4 ea4 dm_act_92 (fun H locs hB => ?_)
      refine lv_aload_n hx hb dm_act_93 rfl (lv_at hl 0 rfl) ?_
      refine lv_dup hx hb dm_act_94 rfl ?_
      refine qbg_leafCount hx hb hown hts hK hB.1 dm_act_95 ?_
      refine lv_iconst (v := 1) hx hb dm_act_98 (by decide) ?_
      refine lv_iadd hx hb dm_act_99 ?_
      refine qbp_leafCount hx hb hown hts hK hB dm_act_100 (fun H locs hB => ?_)
      refine lv_iinc (v := (x5 + 1)) (lv' := [(5, .int (x5 + 1)), (0, .ref (gm 0)), (1, .int x1), (2, .int x2), (3, .int x3), (4, .int x4)]) hx hb dm_act_103 hl (k := 5) rfl rfl (by decide) rfl (fun ls hl => ?_)
      refine lv_goto (tgt := 68) hx hb dm_act_106 (by decide) ?_
      exact ih _ _ _ _ _ _ _ _ _ hB (lv_sub hl [1, 2, 3, 4, 5, 0] rfl) hf
set_option maxRecDepth 100000 in
set_option maxHeartbeats 4000000 in
theorem wm_act_39 {p : Program} {l : Launch} {e : Env} {s : State} {m : MethodId} {args : Array Value} {below : List Frame} {meth : Method} {c : Code} {D : va_G} {gm : Nat → Nat} {ca : Nat → ClassId} {A : Nat → Prop} (hX : MX p l e rmm_act s m args meth c D ca A km_act 11 (some .boolean)) (n : Nat) :∀ (k : Nat), ∀ (st : MSt) (x1 : Int32) (x2 : Int32) (x3 : Int32) (x4 : Int32) (x5 : Int32) {r : Int32} {st' : MSt} (ls : Array Slot) (H : Heap) (locs : List Loc), MWd D gm ca A s.heap st H locs → lv_has ls 11 [(0, .ref (gm 0)), (1, .int x1), (2, .int x2), (3, .int x3), (4, .int x4), (5, .int x5)] → fm_act_39 n k st x1 x2 x3 x4 x5 = some (r, st') → W p l e rmm_act s m args below meth c H locs 0 0 (MQX below (qmm_Q D gm ca A (XI r) st') args s 0 0 A) (F0 m 39 ls []) := by
  obtain ⟨hx, hb, hml, hr, hlk, hown, hts, hK, htr, hZ, hnh, hA, hfl⟩ := id hX
  intro k
  induction k with
  | zero =>
    intro st x1 x2 x3 x4 x5 r st' ls H locs hB hl hf
    rw [fm_act_39] at hf
    cases hf
  | succ k ih =>
    intro st x1 x2 x3 x4 x5 r st' ls H locs hB hl hf
    rw [fm_act_39] at hf
    refine lv_iload hx hb dm_act_39 (lv_at hl 5 rfl) ?_
    refine lv_bipush (v := 64) hx hb dm_act_41 (by decide) ?_
    refine lv_icmp_ge (tgt := 60) hx hb dm_act_43 (by decide) (fun c1 => ?_) (fun c1 => ?_)
    · have hf := ifp c1 hf
      refine lv_aload_n hx hb dm_act_60 rfl (lv_at hl 0 rfl) ?_
      refine lv_iconst (v := 0) hx hb dm_act_61 (by decide) ?_
      refine qbp_leafCount hx hb hown hts hK hB dm_act_62 (fun H locs hB => ?_)
      refine lv_iconst (v := 0) hx hb dm_act_65 (by decide) ?_
      refine lv_istore (lv' := [(5, .int 0), (0, .ref (gm 0)), (1, .int x1), (2, .int x2), (3, .int x3), (4, .int x4)]) hx hb dm_act_66 hl (by decide) rfl (fun ls hl => ?_)
      exact wm_act_68 hX n n _ _ _ _ _ _ _ _ _ hB (lv_sub hl [1, 2, 3, 4, 5, 0] rfl) hf
    · have hf := ifn c1 hf
      refine lv_aload_n hx hb dm_act_46 rfl (lv_at hl 0 rfl) ?_
      refine qbg_taken hx hb hown hts hK hB.1 dm_act_47 ?_
      refine lv_iload hx hb dm_act_50 (lv_at hl 5 rfl) ?_
      refine lv_iconst (v := 0) hx hb dm_act_52 (by decide) ?_
      obtain ⟨a2, ea2, ia2, hf⟩ := wrI_some hf
      refine qbt_taken hx hb hK hB ia2 ea2 rfl dm_act_53 (fun H locs hB => ?_)
      refine lv_iinc (v := (x5 + 1)) (lv' := [(5, .int (x5 + 1)), (0, .ref (gm 0)), (1, .int x1), (2, .int x2), (3, .int x3), (4, .int x4)]) hx hb dm_act_54 hl (k := 5) rfl rfl (by decide) rfl (fun ls hl => ?_)
      refine lv_goto (tgt := 39) hx hb dm_act_57 (by decide) ?_
      exact ih _ _ _ _ _ _ _ _ _ hB (lv_sub hl [1, 2, 3, 4, 5, 0] rfl) hf
set_option maxRecDepth 100000 in
set_option maxHeartbeats 4000000 in
theorem wm_act_0 {p : Program} {l : Launch} {e : Env} {s : State} {m : MethodId} {args : Array Value} {below : List Frame} {meth : Method} {c : Code} {D : va_G} {gm : Nat → Nat} {ca : Nat → ClassId} {A : Nat → Prop} {st : MSt} (hX : MX p l e rmm_act s m args meth c D ca A km_act 11 (some .boolean)) (hB : MWd D gm ca A s.heap st s.heap []) (n : Nat) : ∀ (x1 : Int32) (x2 : Int32) {r : Int32} {st' : MSt} (ls : Array Slot), lv_has ls 11 [(0, .ref (gm 0)), (1, .int x1), (2, .int x2)] → fm_act n st x1 x2 = some (r, st') → W p l e rmm_act s m args below meth c s.heap [] 0 0 (MQX below (qmm_Q D gm ca A (XI r) st') args s 0 0 A) (F0 m 0 ls []) := by
  obtain ⟨hx, hb, hml, hr, hlk, hown, hts, hK, htr, hZ, hnh, hA, hfl⟩ := id hX
  intro x1 x2 r st' ls hl hf
  rw [fm_act] at hf
  refine lv_aload_n hx hb dm_act_0 rfl (lv_at hl 0 rfl) ?_
  refine qbg_many hx hb hown hts hK hB.1 dm_act_1 ?_
  refine lv_if_ne (tgt := 11) hx hb dm_act_4 (by decide) (fun c1 => ?_) (fun c1 => ?_)
  · have hf := ifn c1 hf
    refine lv_aload_n hx hb dm_act_11 rfl (lv_at hl 0 rfl) ?_
    refine qbg_many hx hb hown hts hK hB.1 dm_act_12 ?_
    refine lv_bipush (v := 8) hx hb dm_act_15 (by decide) ?_
    refine lv_icmp_ne (tgt := 24) hx hb dm_act_17 (by decide) (fun c2 => ?_) (fun c2 => ?_)
    · have hf := ifn c2 hf
      refine lv_iconst (v := 1) hx hb dm_act_24 (by decide) ?_
      refine lv_istore_n (lv' := [(3, .int 1), (0, .ref (gm 0)), (1, .int x1), (2, .int x2)]) hx hb dm_act_25 rfl hl (by decide) rfl (fun ls hl => ?_)
      refine lv_aload_n hx hb dm_act_26 rfl (lv_at hl 1 rfl) ?_
      refine lv_aload_n hx hb dm_act_27 rfl (lv_at hl 1 rfl) ?_
      refine qbg_newest hx hb hown hts hK hB.1 dm_act_28 ?_
      obtain ⟨r3, h4, hf⟩ := obs hf
      refine qrmI (cq_leavesOf (l := l) (hfl := hfl) h4) (cw_m_leavesOf hts ⟨by decide, by decide⟩) hx hb hml hown hts hK hB.1 hB.2.2 hZ hl.1 rfl rfl (lv_room (Nat.le_of_ble_eq_true rfl)) dm_act_31 ⟨by decide, by decide⟩ ?_
      refine lv_istore (lv' := [(4, .int r3), (3, .int 1), (0, .ref (gm 0)), (1, .int x1), (2, .int x2)]) hx hb dm_act_34 hl (by decide) rfl (fun ls hl => ?_)
      refine lv_iconst (v := 0) hx hb dm_act_36 (by decide) ?_
      refine lv_istore (lv' := [(5, .int 0), (4, .int r3), (3, .int 1), (0, .ref (gm 0)), (1, .int x1), (2, .int x2)]) hx hb dm_act_37 hl (by decide) rfl (fun ls hl => ?_)
      exact wm_act_39 hX n n _ _ _ _ _ _ _ _ _ hB (lv_sub hl [3, 4, 5, 2, 1, 0] rfl) hf
    · have hf := ifp c2 hf
      refine lv_iconst (v := 2) hx hb dm_act_20 (by decide) ?_
      refine lv_goto (tgt := 25) hx hb dm_act_21 (by decide) ?_
      refine lv_istore_n (lv' := [(3, .int 2), (0, .ref (gm 0)), (1, .int x1), (2, .int x2)]) hx hb dm_act_25 rfl hl (by decide) rfl (fun ls hl => ?_)
      refine lv_aload_n hx hb dm_act_26 rfl (lv_at hl 1 rfl) ?_
      refine lv_aload_n hx hb dm_act_27 rfl (lv_at hl 1 rfl) ?_
      refine qbg_newest hx hb hown hts hK hB.1 dm_act_28 ?_
      obtain ⟨r5, h6, hf⟩ := obs hf
      refine qrmI (cq_leavesOf (l := l) (hfl := hfl) h6) (cw_m_leavesOf hts ⟨by decide, by decide⟩) hx hb hml hown hts hK hB.1 hB.2.2 hZ hl.1 rfl rfl (lv_room (Nat.le_of_ble_eq_true rfl)) dm_act_31 ⟨by decide, by decide⟩ ?_
      refine lv_istore (lv' := [(4, .int r5), (3, .int 2), (0, .ref (gm 0)), (1, .int x1), (2, .int x2)]) hx hb dm_act_34 hl (by decide) rfl (fun ls hl => ?_)
      refine lv_iconst (v := 0) hx hb dm_act_36 (by decide) ?_
      refine lv_istore (lv' := [(5, .int 0), (4, .int r5), (3, .int 2), (0, .ref (gm 0)), (1, .int x1), (2, .int x2)]) hx hb dm_act_37 hl (by decide) rfl (fun ls hl => ?_)
      exact wm_act_39 hX n n _ _ _ _ _ _ _ _ _ hB (lv_sub hl [3, 4, 5, 2, 1, 0] rfl) hf
  · have hf := ifp c1 hf
    refine lv_iconst (v := 0) hx hb dm_act_7 (by decide) ?_
    refine lv_goto (tgt := 25) hx hb dm_act_8 (by decide) ?_
    refine lv_istore_n (lv' := [(3, .int 0), (0, .ref (gm 0)), (1, .int x1), (2, .int x2)]) hx hb dm_act_25 rfl hl (by decide) rfl (fun ls hl => ?_)
    refine lv_aload_n hx hb dm_act_26 rfl (lv_at hl 1 rfl) ?_
    refine lv_aload_n hx hb dm_act_27 rfl (lv_at hl 1 rfl) ?_
    refine qbg_newest hx hb hown hts hK hB.1 dm_act_28 ?_
    obtain ⟨r7, h8, hf⟩ := obs hf
    refine qrmI (cq_leavesOf (l := l) (hfl := hfl) h8) (cw_m_leavesOf hts ⟨by decide, by decide⟩) hx hb hml hown hts hK hB.1 hB.2.2 hZ hl.1 rfl rfl (lv_room (Nat.le_of_ble_eq_true rfl)) dm_act_31 ⟨by decide, by decide⟩ ?_
    refine lv_istore (lv' := [(4, .int r7), (3, .int 0), (0, .ref (gm 0)), (1, .int x1), (2, .int x2)]) hx hb dm_act_34 hl (by decide) rfl (fun ls hl => ?_)
    refine lv_iconst (v := 0) hx hb dm_act_36 (by decide) ?_
    refine lv_istore (lv' := [(5, .int 0), (4, .int r7), (3, .int 0), (0, .ref (gm 0)), (1, .int x1), (2, .int x2)]) hx hb dm_act_37 hl (by decide) rfl (fun ls hl => ?_)
    exact wm_act_39 hX n n _ _ _ _ _ _ _ _ _ hB (lv_sub hl [3, 4, 5, 2, 1, 0] rfl) hf
set_option maxRecDepth 100000 in
set_option maxHeartbeats 4000000 in
theorem cq_act {l : Launch} (hfl : l.flags = flags0) {D : va_G} {gm : Nat → Nat} {ca : Nat → ClassId} {st : MSt} {n : Nat} {x1 : Int32} {x2 : Int32} {r : Int32} {st' : MSt} (hf : fm_act n st x1 x2 = some (r, st')) : MMm l ym_act rmm_act D gm ca [.int x1, .int x2] st (XI r) st' :=
  MMm.of hfl (by decide +kernel) rfl mcm_act (fun p e s m below meth c A _ hX hB => wm_act_0 hX hB n _ _ _ (lv_entry _ (Nat.le_of_ble_eq_true rfl)) hf)
set_option maxRecDepth 100000 in
set_option maxHeartbeats 4000000 in
theorem wm_may_0 {p : Program} {l : Launch} {e : Env} {s : State} {m : MethodId} {args : Array Value} {below : List Frame} {meth : Method} {c : Code} {D : va_G} {gm : Nat → Nat} {ca : Nat → ClassId} {A : Nat → Prop} {st : MSt} (hX : MX p l e rmm_may s m args meth c D ca A km_may 2 (some .int)) (hP : va_P D vwCl (wM gm ca st) s.heap) (n : Nat) : ∀ (x1 : Int32) {r : Int32} (ls : Array Slot), lv_has ls 2 [(0, .ref (gm 0)), (1, .int x1)] → fm_may n st x1 = some r → W p l e rmm_may s m args below meth c s.heap [] 0 0 (MQX below (xx_Q (XI r)) args s 0 0 (fun _ => False)) (F0 m 0 ls []) := by
  obtain ⟨hx, hb, hml, hr, hlk, hown, hts, hK, htr, hZ, hnh, hA, hfl⟩ := id hX
  intro x1 r ls hl hf
  rw [fm_may] at hf
  refine lv_aload_n hx hb dm_may_0 rfl (lv_at hl 0 rfl) ?_
  refine qbg_closed hx hb hown hts hK hP dm_may_1 ?_
  refine lv_if_ne (tgt := 18) hx hb dm_may_4 (by decide) (fun c1 => ?_) (fun c1 => ?_)
  · have hf := ifn c1 hf
    refine lv_iconst (v := 1) hx hb dm_may_18 (by decide) ?_
    refine lv_goto (tgt := 37) hx hb dm_may_19 (by decide) ?_
    cases hf
    exact er_i hx hb hr hlk dm_may_37
  · have hf := ifp c1 hf
    refine lv_aload_n hx hb dm_may_7 rfl (lv_at hl 0 rfl) ?_
    refine lv_aload_n hx hb dm_may_8 rfl (lv_at hl 0 rfl) ?_
    refine qbg_newest hx hb hown hts hK hP dm_may_9 ?_
    obtain ⟨r2, h3, hf⟩ := obs hf
    refine qrmI (cq_isKept (l := l) (hfl := hfl) h3) (cw_m_isKept hts ⟨by decide, by decide⟩) hx hb hml hown hts hK hP va_S.rf hZ hl.1 rfl rfl (lv_room (Nat.le_of_ble_eq_true rfl)) dm_may_12 ⟨by decide, by decide⟩ ?_
    refine lv_if_ne (tgt := 22) hx hb dm_may_15 (by decide) (fun c4 => ?_) (fun c4 => ?_)
    · have hf := ifn c4 hf
      refine lv_iload_n hx hb dm_may_22 rfl (lv_at hl 1 rfl) ?_
      refine lv_if_lt (tgt := 32) hx hb dm_may_23 (by decide) (fun c5 => ?_) (fun c5 => ?_)
      · have hf := ifp c5 hf
        refine lv_iconst (v := 2) hx hb dm_may_32 (by decide) ?_
        refine lv_goto (tgt := 37) hx hb dm_may_33 (by decide) ?_
        cases hf
        exact er_i hx hb hr hlk dm_may_37
      · have hf := ifn c5 hf
        refine lv_iload_n hx hb dm_may_26 rfl (lv_at hl 1 rfl) ?_
        refine lv_ldc (v := 1000000) hx hb hown (kcm_129 hts) dm_may_27 ?_
        refine lv_icmp_le (tgt := 36) hx hb dm_may_29 (by decide) (fun c6 => ?_) (fun c6 => ?_)
        · have hf := ifp c6 hf
          refine lv_iconst (v := 0) hx hb dm_may_36 (by decide) ?_
          cases hf
          exact er_i hx hb hr hlk dm_may_37
        · have hf := ifn c6 hf
          refine lv_iconst (v := 2) hx hb dm_may_32 (by decide) ?_
          refine lv_goto (tgt := 37) hx hb dm_may_33 (by decide) ?_
          cases hf
          exact er_i hx hb hr hlk dm_may_37
    · have hf := ifp c4 hf
      refine lv_iconst (v := 1) hx hb dm_may_18 (by decide) ?_
      refine lv_goto (tgt := 37) hx hb dm_may_19 (by decide) ?_
      cases hf
      exact er_i hx hb hr hlk dm_may_37
set_option maxRecDepth 100000 in
set_option maxHeartbeats 4000000 in
theorem cq_may {l : Launch} (hfl : l.flags = flags0) {D : va_G} {gm : Nat → Nat} {ca : Nat → ClassId} {st : MSt} {n : Nat} {x1 : Int32} {r : Int32} (hf : fm_may n st x1 = some r) : RMm l ym_may rmm_may D gm ca [.int x1] st (XI r) :=
  RMm.of hfl (by decide +kernel) rfl mcm_may (fun p e s m below meth c hX hP => wm_may_0 hX hP n _ _ (lv_entry _ (Nat.le_of_ble_eq_true rfl)) hf)
set_option maxRecDepth 100000 in
set_option maxHeartbeats 4000000 in
theorem wm_put_57 {p : Program} {l : Launch} {e : Env} {s : State} {m : MethodId} {args : Array Value} {below : List Frame} {meth : Method} {c : Code} {D : va_G} {gm : Nat → Nat} {ca : Nat → ClassId} {A : Nat → Prop} (hX : MX p l e rmm_put s m args meth c D ca A km_put 6 (some .int)) (n : Nat) : ∀ (st : MSt) (x5 : Int32) (y2 : Int32) {r : Int32} {st' : MSt} (ls : Array Slot) (H : Heap) (locs : List Loc), MWd D gm ca A s.heap st H locs → lv_has ls 6 [(0, .ref (gm 0)), (5, .int x5)] → fm_put_57 n st x5 y2 = some (r, st') → W p l e rmm_put s m args below meth c H locs 0 0 (MQX below (qmm_Q D gm ca A (XI r) st') args s 0 0 A) (F0 m 57 ls [.int y2, .ref (gm 0), .ref (gm 0)]) := by
  obtain ⟨hx, hb, hml, hr, hlk, hown, hts, hK, htr, hZ, hnh, hA, hfl⟩ := id hX
  intro st x5 y2 r st' ls H locs hB hl hf
  rw [fm_put_57] at hf
  refine lv_aload_n hx hb dm_put_57 rfl (lv_at hl 0 rfl) ?_
  refine qbg_many hx hb hown hts hK hB.1 dm_put_58 ?_
  refine lv_iload hx hb dm_put_61 (lv_at hl 1 rfl) ?_
  refine lv_isub hx hb dm_put_63 ?_
  obtain ⟨⟨r1, st2⟩, h3, hf⟩ := obs hf
  refine qmmI (cq_act (l := l) (hfl := hfl) h3) (cw_m_act hts ⟨by decide, by decide⟩) hx hb hml hown hts hK hB hZ hA hl.1 rfl rfl (lv_room (Nat.le_of_ble_eq_true rfl)) dm_put_64 ⟨by decide, by decide⟩ (fun H locs hB => ?_)
  refine lv_if_eq (tgt := 74) hx hb dm_put_67 (by decide) (fun c4 => ?_) (fun c4 => ?_)
  · have hf := ifp c4 hf
    refine lv_iconst (v := 1) hx hb dm_put_74 (by decide) ?_
    refine qbp_thrown hx hb hown hts hK hB dm_put_75 (fun H locs hB => ?_)
    refine lv_aload_n hx hb dm_put_78 rfl (lv_at hl 0 rfl) ?_
    refine qbg_thrown hx hb hown hts hK hB.1 dm_put_79 ?_
    refine lv_if_le (tgt := 89) hx hb dm_put_82 (by decide) (fun c5 => ?_) (fun c5 => ?_)
    · exact absurd c5 (show ¬ ((1 : Int32) ≤ 0) by decide)
    · skip
      refine lv_iconst (v := 0) hx hb dm_put_85 (by decide) ?_
      refine lv_goto (tgt := 93) hx hb dm_put_86 (by decide) ?_
      cases hf
      exact qem_i hx hb hr hlk hB dm_put_93
  · have hf := ifn c4 hf
    refine lv_iconst (v := 0) hx hb dm_put_70 (by decide) ?_
    refine lv_goto (tgt := 75) hx hb dm_put_71 (by decide) ?_
    refine qbp_thrown hx hb hown hts hK hB dm_put_75 (fun H locs hB => ?_)
    refine lv_aload_n hx hb dm_put_78 rfl (lv_at hl 0 rfl) ?_
    refine qbg_thrown hx hb hown hts hK hB.1 dm_put_79 ?_
    refine lv_if_le (tgt := 89) hx hb dm_put_82 (by decide) (fun c6 => ?_) (fun c6 => ?_)
    · skip
      refine lv_aload_n hx hb dm_put_89 rfl (lv_at hl 0 rfl) ?_
      refine qbg_newest hx hb hown hts hK hB.1 dm_put_90 ?_
      cases hf
      exact qem_i hx hb hr hlk hB dm_put_93
    · exact absurd (show (0 : Int32) ≤ 0 by decide) c6
set_option maxRecDepth 100000 in
set_option maxHeartbeats 4000000 in
theorem wm_put_0 {p : Program} {l : Launch} {e : Env} {s : State} {m : MethodId} {args : Array Value} {below : List Frame} {meth : Method} {c : Code} {D : va_G} {gm : Nat → Nat} {ca : Nat → ClassId} {A : Nat → Prop} {st : MSt} (hX : MX p l e rmm_put s m args meth c D ca A km_put 6 (some .int)) (hB : MWd D gm ca A s.heap st s.heap []) (n : Nat) : ∀ (x1 : Int32) (x2 : Int64) {r : Int32} {st' : MSt} (ls : Array Slot), lv_has ls 6 [(0, .ref (gm 0)), (1, .int x1), (2, .long x2)] → fm_put n st x1 x2 = some (r, st') → W p l e rmm_put s m args below meth c s.heap [] 0 0 (MQX below (qmm_Q D gm ca A (XI r) st') args s 0 0 A) (F0 m 0 ls []) := by
  obtain ⟨hx, hb, hml, hr, hlk, hown, hts, hK, htr, hZ, hnh, hA, hfl⟩ := id hX
  intro x1 x2 r st' ls hl hf
  rw [fm_put] at hf
  refine lv_aload_n hx hb dm_put_0 rfl (lv_at hl 0 rfl) ?_
  refine lv_aload_n hx hb dm_put_1 rfl (lv_at hl 0 rfl) ?_
  refine lv_iload_n hx hb dm_put_2 rfl (lv_at hl 1 rfl) ?_
  obtain ⟨r1, h2, hf⟩ := obs hf
  refine qrmI (cq_may (l := l) (hfl := hfl) h2) (cw_m_may hts ⟨by decide, by decide⟩) hx hb hml hown hts hK hB.1 hB.2.2 hZ hl.1 rfl rfl (lv_room (Nat.le_of_ble_eq_true rfl)) dm_put_3 ⟨by decide, by decide⟩ ?_
  refine qbp_thrown hx hb hown hts hK hB dm_put_6 (fun H locs hB => ?_)
  refine lv_aload_n hx hb dm_put_9 rfl (lv_at hl 0 rfl) ?_
  refine qbg_thrown hx hb hown hts hK hB.1 dm_put_10 ?_
  refine lv_if_le (tgt := 18) hx hb dm_put_13 (by decide) (fun c3 => ?_) (fun c3 => ?_)
  · have hf := ifp c3 hf
    refine lv_aload_n hx hb dm_put_18 rfl (lv_at hl 0 rfl) ?_
    refine lv_iload_n hx hb dm_put_19 rfl (lv_at hl 1 rfl) ?_
    obtain ⟨r4, h5, hf⟩ := obs hf
    refine qrmI (cq_leafFor (l := l) (hfl := hfl) h5) (cw_m_leafFor hts ⟨by decide, by decide⟩) hx hb hml hown hts hK hB.1 hB.2.2 hZ hl.1 rfl rfl (lv_room (Nat.le_of_ble_eq_true rfl)) dm_put_20 ⟨by decide, by decide⟩ ?_
    refine lv_istore (lv' := [(4, .int r4), (0, .ref (gm 0)), (1, .int x1), (2, .long x2)]) hx hb dm_put_23 hl (by decide) rfl (fun ls hl => ?_)
    refine lv_aload_n hx hb dm_put_25 rfl (lv_at hl 1 rfl) ?_
    refine lv_iload hx hb dm_put_26 (lv_at hl 0 rfl) ?_
    obtain ⟨st6, h7, hf⟩ := obs hf
    refine qmmV (cq_load (l := l) (hfl := hfl) h7) (cw_m_load hts ⟨by decide, by decide⟩) hx hb hml hown hts hK hB hZ hA hl.1 rfl rfl (lv_room (Nat.le_of_ble_eq_true rfl)) dm_put_28 ⟨by decide, by decide⟩ (fun H locs hB => ?_)
    refine lv_aload_n hx hb dm_put_31 rfl (lv_at hl 1 rfl) ?_
    refine qbg_many hx hb hown hts hK hB.1 dm_put_32 ?_
    refine lv_istore (lv' := [(5, .int (qbs_many st6)), (4, .int r4), (0, .ref (gm 0)), (1, .int x1), (2, .long x2)]) hx hb dm_put_35 hl (by decide) rfl (fun ls hl => ?_)
    refine lv_aload_n hx hb dm_put_37 rfl (lv_at hl 2 rfl) ?_
    refine lv_iload_n hx hb dm_put_38 rfl (lv_at hl 3 rfl) ?_
    refine lv_lload_n hx hb dm_put_39 rfl (lv_at hl 4 rfl) ?_
    obtain ⟨st8, h9, hf⟩ := obs hf
    refine qmmV (cq_enter (l := l) (hfl := hfl) h9) (cw_m_enter hts ⟨by decide, by decide⟩) hx hb hml hown hts hK hB hZ hA hl.1 rfl rfl (lv_room (Nat.le_of_ble_eq_true rfl)) dm_put_40 ⟨by decide, by decide⟩ (fun H locs hB => ?_)
    refine lv_aload_n hx hb dm_put_43 rfl (lv_at hl 2 rfl) ?_
    refine lv_aload_n hx hb dm_put_44 rfl (lv_at hl 2 rfl) ?_
    refine lv_iload hx hb dm_put_45 (lv_at hl 1 rfl) ?_
    refine lv_iconst (v := (-1)) hx hb dm_put_47 (by decide) ?_
    refine lv_icmp_ne (tgt := 55) hx hb dm_put_48 (by decide) (fun c10 => ?_) (fun c10 => ?_)
    · have hf := ifn c10 hf
      refine lv_iload hx hb dm_put_55 (lv_at hl 1 rfl) ?_
      exact wm_put_57 hX n _ _ _ _ _ _ hB (lv_sub hl [2, 0] rfl) hf
    · have hf := ifp c10 hf
      refine lv_iconst (v := 0) hx hb dm_put_51 (by decide) ?_
      refine lv_goto (tgt := 57) hx hb dm_put_52 (by decide) ?_
      exact wm_put_57 hX n _ _ _ _ _ _ hB (lv_sub hl [2, 0] rfl) hf
  · have hf := ifn c3 hf
    refine lv_iconst (v := 0) hx hb dm_put_16 (by decide) ?_
    cases hf
    exact qem_i hx hb hr hlk hB dm_put_17
set_option maxRecDepth 100000 in
set_option maxHeartbeats 4000000 in
theorem cq_put {l : Launch} (hfl : l.flags = flags0) {D : va_G} {gm : Nat → Nat} {ca : Nat → ClassId} {st : MSt} {n : Nat} {x1 : Int32} {x2 : Int64} {r : Int32} {st' : MSt} (hf : fm_put n st x1 x2 = some (r, st')) : MMm l ym_put rmm_put D gm ca [.int x1, .long x2] st (XI r) st' :=
  MMm.of hfl (by decide +kernel) rfl mcm_put (fun p e s m below meth c A _ hX hB => wm_put_0 hX hB n _ _ _ (lv_entry _ (Nat.le_of_ble_eq_true rfl)) hf)
set_option maxRecDepth 100000 in
set_option maxHeartbeats 4000000 in
theorem wm_drop_0 {p : Program} {l : Launch} {e : Env} {s : State} {m : MethodId} {args : Array Value} {below : List Frame} {meth : Method} {c : Code} {D : va_G} {gm : Nat → Nat} {ca : Nat → ClassId} {A : Nat → Prop} {st : MSt} (hX : MX p l e rmm_drop s m args meth c D ca A km_drop 3 (some .int)) (hB : MWd D gm ca A s.heap st s.heap []) (n : Nat) : ∀ (x1 : Int32) {r : Int32} {st' : MSt} (ls : Array Slot), lv_has ls 3 [(0, .ref (gm 0)), (1, .int x1)] → fm_drop n st x1 = some (r, st') → W p l e rmm_drop s m args below meth c s.heap [] 0 0 (MQX below (qmm_Q D gm ca A (XI r) st') args s 0 0 A) (F0 m 0 ls []) := by
  obtain ⟨hx, hb, hml, hr, hlk, hown, hts, hK, htr, hZ, hnh, hA, hfl⟩ := id hX
  intro x1 r st' ls hl hf
  rw [fm_drop] at hf
  refine lv_aload_n hx hb dm_drop_0 rfl (lv_at hl 0 rfl) ?_
  refine lv_aload_n hx hb dm_drop_1 rfl (lv_at hl 0 rfl) ?_
  refine lv_iload_n hx hb dm_drop_2 rfl (lv_at hl 1 rfl) ?_
  obtain ⟨r1, h2, hf⟩ := obs hf
  refine qrmI (cq_may (l := l) (hfl := hfl) h2) (cw_m_may hts ⟨by decide, by decide⟩) hx hb hml hown hts hK hB.1 hB.2.2 hZ hl.1 rfl rfl (lv_room (Nat.le_of_ble_eq_true rfl)) dm_drop_3 ⟨by decide, by decide⟩ ?_
  refine qbp_thrown hx hb hown hts hK hB dm_drop_6 (fun H locs hB => ?_)
  refine lv_aload_n hx hb dm_drop_9 rfl (lv_at hl 0 rfl) ?_
  refine qbg_thrown hx hb hown hts hK hB.1 dm_drop_10 ?_
  refine lv_if_gt (tgt := 29) hx hb dm_drop_13 (by decide) (fun c3 => ?_) (fun c3 => ?_)
  · have hf := ifp c3 hf
    refine lv_iconst (v := 0) hx hb dm_drop_29 (by decide) ?_
    cases hf
    exact qem_i hx hb hr hlk hB dm_drop_30
  · have hf := ifn c3 hf
    refine lv_aload_n hx hb dm_drop_16 rfl (lv_at hl 0 rfl) ?_
    refine lv_aload_n hx hb dm_drop_17 rfl (lv_at hl 0 rfl) ?_
    refine qbg_newest hx hb hown hts hK hB.1 dm_drop_18 ?_
    refine lv_iload_n hx hb dm_drop_21 rfl (lv_at hl 1 rfl) ?_
    obtain ⟨r4, h5, hf⟩ := obs hf
    refine qrmI (cq_place (l := l) (hfl := hfl) h5) (cw_m_place hts ⟨by decide, by decide⟩) hx hb hml hown hts hK hB.1 hB.2.2 hZ hl.1 rfl rfl (lv_room (Nat.le_of_ble_eq_true rfl)) dm_drop_22 ⟨by decide, by decide⟩ ?_
    refine lv_iconst (v := (-1)) hx hb dm_drop_25 (by decide) ?_
    refine lv_icmp_ne (tgt := 31) hx hb dm_drop_26 (by decide) (fun c6 => ?_) (fun c6 => ?_)
    · have hf := ifn c6 hf
      refine lv_aload_n hx hb dm_drop_31 rfl (lv_at hl 0 rfl) ?_
      refine lv_iload_n hx hb dm_drop_32 rfl (lv_at hl 1 rfl) ?_
      obtain ⟨r7, h8, hf⟩ := obs hf
      refine qrmI (cq_leafFor (l := l) (hfl := hfl) h8) (cw_m_leafFor hts ⟨by decide, by decide⟩) hx hb hml hown hts hK hB.1 hB.2.2 hZ hl.1 rfl rfl (lv_room (Nat.le_of_ble_eq_true rfl)) dm_drop_33 ⟨by decide, by decide⟩ ?_
      refine lv_istore_n (lv' := [(2, .int r7), (0, .ref (gm 0)), (1, .int x1)]) hx hb dm_drop_36 rfl hl (by decide) rfl (fun ls hl => ?_)
      refine lv_aload_n hx hb dm_drop_37 rfl (lv_at hl 1 rfl) ?_
      refine lv_iload_n hx hb dm_drop_38 rfl (lv_at hl 0 rfl) ?_
      obtain ⟨st9, h10, hf⟩ := obs hf
      refine qmmV (cq_load (l := l) (hfl := hfl) h10) (cw_m_load hts ⟨by decide, by decide⟩) hx hb hml hown hts hK hB hZ hA hl.1 rfl rfl (lv_room (Nat.le_of_ble_eq_true rfl)) dm_drop_39 ⟨by decide, by decide⟩ (fun H locs hB => ?_)
      refine lv_aload_n hx hb dm_drop_42 rfl (lv_at hl 1 rfl) ?_
      refine lv_iload_n hx hb dm_drop_43 rfl (lv_at hl 2 rfl) ?_
      obtain ⟨st11, h12, hf⟩ := obs hf
      refine qmmV (cq_remove (l := l) (hfl := hfl) h12) (cw_m_remove hts ⟨by decide, by decide⟩) hx hb hml hown hts hK hB hZ hA hl.1 rfl rfl (lv_room (Nat.le_of_ble_eq_true rfl)) dm_drop_44 ⟨by decide, by decide⟩ (fun H locs hB => ?_)
      refine lv_aload_n hx hb dm_drop_47 rfl (lv_at hl 1 rfl) ?_
      refine lv_aload_n hx hb dm_drop_48 rfl (lv_at hl 1 rfl) ?_
      refine lv_iload_n hx hb dm_drop_49 rfl (lv_at hl 0 rfl) ?_
      refine lv_iconst (v := (-1)) hx hb dm_drop_50 (by decide) ?_
      obtain ⟨⟨r13, st14⟩, h15, hf⟩ := obs hf
      refine qmmI (cq_act (l := l) (hfl := hfl) h15) (cw_m_act hts ⟨by decide, by decide⟩) hx hb hml hown hts hK hB hZ hA hl.1 rfl rfl (lv_room (Nat.le_of_ble_eq_true rfl)) dm_drop_51 ⟨by decide, by decide⟩ (fun H locs hB => ?_)
      refine lv_if_eq (tgt := 61) hx hb dm_drop_54 (by decide) (fun c16 => ?_) (fun c16 => ?_)
      · have hf := ifp c16 hf
        refine lv_iconst (v := 1) hx hb dm_drop_61 (by decide) ?_
        refine qbp_thrown hx hb hown hts hK hB dm_drop_62 (fun H locs hB => ?_)
        refine lv_aload_n hx hb dm_drop_65 rfl (lv_at hl 1 rfl) ?_
        refine qbg_thrown hx hb hown hts hK hB.1 dm_drop_66 ?_
        refine lv_if_le (tgt := 76) hx hb dm_drop_69 (by decide) (fun c17 => ?_) (fun c17 => ?_)
        · exact absurd c17 (show ¬ ((1 : Int32) ≤ 0) by decide)
        · skip
          refine lv_iconst (v := 0) hx hb dm_drop_72 (by decide) ?_
          refine lv_goto (tgt := 80) hx hb dm_drop_73 (by decide) ?_
          cases hf
          exact qem_i hx hb hr hlk hB dm_drop_80
      · have hf := ifn c16 hf
        refine lv_iconst (v := 0) hx hb dm_drop_57 (by decide) ?_
        refine lv_goto (tgt := 62) hx hb dm_drop_58 (by decide) ?_
        refine qbp_thrown hx hb hown hts hK hB dm_drop_62 (fun H locs hB => ?_)
        refine lv_aload_n hx hb dm_drop_65 rfl (lv_at hl 1 rfl) ?_
        refine qbg_thrown hx hb hown hts hK hB.1 dm_drop_66 ?_
        refine lv_if_le (tgt := 76) hx hb dm_drop_69 (by decide) (fun c18 => ?_) (fun c18 => ?_)
        · skip
          refine lv_aload_n hx hb dm_drop_76 rfl (lv_at hl 1 rfl) ?_
          refine qbg_newest hx hb hown hts hK hB.1 dm_drop_77 ?_
          cases hf
          exact qem_i hx hb hr hlk hB dm_drop_80
        · exact absurd (show (0 : Int32) ≤ 0 by decide) c18
    · have hf := ifp c6 hf
      refine lv_iconst (v := 0) hx hb dm_drop_29 (by decide) ?_
      cases hf
      exact qem_i hx hb hr hlk hB dm_drop_30
set_option maxRecDepth 100000 in
set_option maxHeartbeats 4000000 in
theorem cq_drop {l : Launch} (hfl : l.flags = flags0) {D : va_G} {gm : Nat → Nat} {ca : Nat → ClassId} {st : MSt} {n : Nat} {x1 : Int32} {r : Int32} {st' : MSt} (hf : fm_drop n st x1 = some (r, st')) : MMm l ym_drop rmm_drop D gm ca [.int x1] st (XI r) st' :=
  MMm.of hfl (by decide +kernel) rfl mcm_drop (fun p e s m below meth c A _ hX hB => wm_drop_0 hX hB n _ _ (lv_entry _ (Nat.le_of_ble_eq_true rfl)) hf)
