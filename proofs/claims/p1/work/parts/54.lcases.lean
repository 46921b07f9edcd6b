theorem wl_case0 {p : Program} {l : Launch} {e : Env} {s : State} {m : MethodId} {args : Array Value} {below : List Frame} {meth : Method} {c : Code} {H : Heap} {locs : List Loc} {cells slots : Nat} {Q : State → Prop} {ls : Array Slot} {D : va_G} {A : Nat → Prop} {b L : Nat} {xs : Nat → Int32} {gm gq : Nat → Nat} {ca cq : Nat → ClassId} {o : Nat} {cO : ClassId} {st st' : BSt} {ms ms' : MSt} {f f' : Nat → Int64} {i k : Int32} {y1 y2 y3 : Int32} {z : Int32} (hC : LC p s m args c D A b L xs ca cq cO) (v1 : vp_in (i + 1) L) (e1 : xs (i + 1).toNatClampNeg = y1) (v2 : vp_in (i + 2) L) (e2 : xs (i + 2).toNatClampNeg = y2) (v3 : vp_in (i + 3) L) (e3 : xs (i + 3).toNatClampNeg = y3) (hW : LM l yl_put rml_put D (tysO ca cO) [.ref (gm 0), .int y1, .long (lvl y2 y3), .ref o] (wO gm ca st o cO f) (XI k) (wO gm ca st' o cO f')) (hM : LM l ym_put rmm_put D (tysM cq) [.ref (gq 0), .int y1, .long (lvl y2 y3)] (wM gq cq ms) (XI z) (wM gq cq ms')) (hT : LM l ym_thrown rmm_thrown D (tysM cq) [.ref (gq 0)] (wM gq cq ms') (XI k) (wM gq cq ms')) (hE : k = 0 → f' 0 = z.toInt64) (hce : cells + 4 ≤ 600002) (hsl : slots + 24 ≤ 7302198) (hL : LWd D A (wL gm ca gq cq o cO st ms f) s.heap H locs) (hl : lv_has ls 8 (lvL b gm gq o i))
    (kk : ∀ (H : Heap) (locs : List Loc) (ls : Array Slot), LWd D A (wL gm ca gq cq o cO st' ms' f') s.heap H locs → lv_has ls 8 (lvL b gm gq o i) → W p l e room_1 s m args below meth c H locs (cells + 4) (slots + 24) Q (F0 m 1125 ls [])) : W p l e room_1 s m args below meth c H locs cells slots Q (F0 m 128 ls []) := by
  obtain ⟨hx, hb, hml, hown, hts, hkO, hkM, hZ, hA, hX, hbl, hbA⟩ := id hC
  refine lv_aload_n hx hb dw_128 rfl (lv_at hl 1 rfl) ?_
  refine lv_aload_n hx hb dw_129 rfl (lv_at hl 0 rfl) ?_
  refine lv_iload hx hb dw_130 (lv_at hl 4 rfl) ?_
  refine lv_iconst (v := 1) hx hb dw_132 rfl ?_
  refine lv_iadd hx hb dw_133 ?_
  refine va_sld hx hb hX hbl hbA hL.2.2 v1 dw_134 ?_
  rw [e1]
  refine lv_aload_n hx hb dw_135 rfl (lv_at hl 0 rfl) ?_
  refine lv_iload hx hb dw_136 (lv_at hl 4 rfl) ?_
  refine lv_iconst (v := 2) hx hb dw_138 rfl ?_
  refine lv_iadd hx hb dw_139 ?_
  refine va_sld hx hb hX hbl hbA hL.2.2 v2 dw_140 ?_
  rw [e2]
  refine lv_i2l hx hb dw_141 rfl ?_
  refine lv_bipush (v := 32) hx hb dw_142 (by decide) ?_
  refine lv_lshl hx hb dw_144 rfl ?_
  refine lv_aload_n hx hb dw_145 rfl (lv_at hl 0 rfl) ?_
  refine lv_iload hx hb dw_146 (lv_at hl 4 rfl) ?_
  refine lv_iconst (v := 3) hx hb dw_148 rfl ?_
  refine lv_iadd hx hb dw_149 ?_
  refine va_sld hx hb hX hbl hbA hL.2.2 v3 dw_150 ?_
  rw [e3]
  refine lv_i2l hx hb dw_151 rfl ?_
  refine lv_ldc2 hx hb hown (kcl_76 hts) dw_152 ?_
  refine lv_land hx hb dw_155 ?_
  refine lv_lor hx hb dw_156 ?_
  refine lv_aload_n hx hb dw_157 rfl (lv_at hl 3 rfl) ?_
  refine lm_v (wr := wM gq cq ms) (lm_runSW (n := 4) hW ⟨by decide, by decide⟩ mcl_put inl_law (by decide +kernel) ll_put ls_put hx hb hml hown hts hkO hZ hL (List.Perm.refl _) hl.1 rfl rfl (lv_room (Nat.le_of_ble_eq_true rfl)) dw_158 ⟨by show cells + 4 ≤ 600002; omega, by show slots + 24 ≤ 7302198; omega⟩) hA hL (List.Perm.refl _) (List.Perm.refl _) ?_
  intro H locs hL
  change LWd D A (wL gm ca gq cq o cO st' ms f') s.heap H locs at hL
  refine lv_istore (i := 5) (nL := 8) hx hb dw_161 hl (by decide) rfl ?_
  intro ls hl
  refine lv_aload_n hx hb dw_163 rfl (lv_at hl 3 rfl) ?_
  refine lv_aload_n hx hb dw_164 rfl (lv_at hl 1 rfl) ?_
  refine lv_iload hx hb dw_165 (lv_at hl 5 rfl) ?_
  refine lv_iconst (v := 1) hx hb dw_167 rfl ?_
  refine lv_iadd hx hb dw_168 ?_
  refine va_sld hx hb hX hbl hbA hL.2.2 v1 dw_169 ?_
  rw [e1]
  refine lv_aload_n hx hb dw_170 rfl (lv_at hl 1 rfl) ?_
  refine lv_iload hx hb dw_171 (lv_at hl 5 rfl) ?_
  refine lv_iconst (v := 2) hx hb dw_173 rfl ?_
  refine lv_iadd hx hb dw_174 ?_
  refine va_sld hx hb hX hbl hbA hL.2.2 v2 dw_175 ?_
  rw [e2]
  refine lv_i2l hx hb dw_176 rfl ?_
  refine lv_bipush (v := 32) hx hb dw_177 (by decide) ?_
  refine lv_lshl hx hb dw_179 rfl ?_
  refine lv_aload_n hx hb dw_180 rfl (lv_at hl 1 rfl) ?_
  refine lv_iload hx hb dw_181 (lv_at hl 5 rfl) ?_
  refine lv_iconst (v := 3) hx hb dw_183 rfl ?_
  refine lv_iadd hx hb dw_184 ?_
  refine va_sld hx hb hX hbl hbA hL.2.2 v3 dw_185 ?_
  rw [e3]
  refine lv_i2l hx hb dw_186 rfl ?_
  refine lv_ldc2 hx hb hown (kcl_76 hts) dw_187 ?_
  refine lv_land hx hb dw_190 ?_
  refine lv_lor hx hb dw_191 ?_
  refine lm_v (wr := wO gm ca st' o cO f') (lm_runV (q0 := 0) (ci := 1) hM (cw_lm_put hts ⟨by decide, by decide⟩) hx hb hml hown hts hkM hZ hL List.perm_append_comm rfl rfl hl.1 rfl rfl (lv_room (Nat.le_of_ble_eq_true rfl)) dw_192 ⟨by show cells + 4 + 0 ≤ 600002; omega, by show slots + 24 + 0 ≤ 7302198; omega⟩) hA hL List.perm_append_comm List.perm_append_comm ?_
  intro H locs hL
  change LWd D A (wL gm ca gq cq o cO st' ms' f') s.heap H locs at hL
  refine lv_istore (i := 6) (nL := 8) hx hb dw_195 hl (by decide) rfl ?_
  intro ls hl
  refine lv_aload_n hx hb dw_197 rfl (lv_at hl 4 rfl) ?_
  refine lm_v (wr := wO gm ca st' o cO f') (lm_runV (q0 := 0) (ci := 1) hT (cw_lm_thrown hts ⟨by decide, by decide⟩) hx hb hml hown hts hkM hZ hL List.perm_append_comm rfl rfl hl.1 rfl rfl (lv_room (Nat.le_of_ble_eq_true rfl)) dw_198 ⟨by show cells + 4 + 0 + 0 ≤ 600002; omega, by show slots + 24 + 0 + 0 ≤ 7302198; omega⟩) hA hL List.perm_append_comm List.perm_append_comm ?_
  intro H locs hL
  change LWd D A (wL gm ca gq cq o cO st' ms' f') s.heap H locs at hL
  refine lv_iload hx hb dw_201 (lv_at hl 1 rfl) ?_
  refine lv_icmp_eq (tgt := 208) hx hb dw_203 (by decide) (fun _ => ?_) (fun c0 => absurd rfl c0)
  refine lv_iload hx hb dw_208 (lv_at hl 1 rfl) ?_
  refine lv_if_ne (tgt := 225) hx hb dw_210 (by decide) (fun c1 => ?_) (fun c1 => ?_)
  ·
    refine lv_goto (tgt := 1125) hx hb dw_225 (by decide) ?_
    refine W.widen (k := cells + 4) (n := slots + 24) (by show cells + 4 + 0 + 0 ≤ cells + 4; omega) (by show slots + 24 + 0 + 0 ≤ slots + 24; omega) ?_
    exact kk _ _ _ hL (lv_sub hl [2, 3, 4, 5, 6] rfl)
  ·
    refine lv_aload_n hx hb dw_213 rfl (lv_at hl 5 rfl) ?_
    refine lv_iconst (v := 0) hx hb dw_214 rfl ?_
    refine va_lald hx hb hkO.1 hL.1 0 0 rfl rfl (by unfold vp_in; decide) dw_215 ?_
    refine lv_iload hx hb dw_216 (lv_at hl 0 rfl) ?_
    refine lv_i2l hx hb dw_218 rfl ?_
    refine W.lcmp hx hb dw_219 ?_
    refine lv_if_eq (tgt := 225) hx hb dw_220 (by decide) (fun _ => ?_) (fun c0 => absurd (lgc_eq.mpr (hE c1)) c0)
    refine lv_goto (tgt := 1125) hx hb dw_225 (by decide) ?_
    refine W.widen (k := cells + 4) (n := slots + 24) (by show cells + 4 + 0 + 0 ≤ cells + 4; omega) (by show slots + 24 + 0 + 0 ≤ slots + 24; omega) ?_
    exact kk _ _ _ hL (lv_sub hl [2, 3, 4, 5, 6] rfl)
theorem wl_case1 {p : Program} {l : Launch} {e : Env} {s : State} {m : MethodId} {args : Array Value} {below : List Frame} {meth : Method} {c : Code} {H : Heap} {locs : List Loc} {cells slots : Nat} {Q : State → Prop} {ls : Array Slot} {D : va_G} {A : Nat → Prop} {b L : Nat} {xs : Nat → Int32} {gm gq : Nat → Nat} {ca cq : Nat → ClassId} {o : Nat} {cO : ClassId} {st st' : BSt} {ms ms' : MSt} {f f' : Nat → Int64} {i k : Int32} {y1 : Int32} {z : Int32} (hC : LC p s m args c D A b L xs ca cq cO) (v1 : vp_in (i + 1) L) (e1 : xs (i + 1).toNatClampNeg = y1) (hW : LM l yl_drop rml_drop D (tysO ca cO) [.ref (gm 0), .int y1, .ref o] (wO gm ca st o cO f) (XI k) (wO gm ca st' o cO f')) (hM : LM l ym_drop rmm_drop D (tysM cq) [.ref (gq 0), .int y1] (wM gq cq ms) (XI z) (wM gq cq ms')) (hT : LM l ym_thrown rmm_thrown D (tysM cq) [.ref (gq 0)] (wM gq cq ms') (XI k) (wM gq cq ms')) (hE : k = 0 → f' 0 = z.toInt64) (hce : cells + 4 ≤ 600002) (hsl : slots + 24 ≤ 7302198) (hL : LWd D A (wL gm ca gq cq o cO st ms f) s.heap H locs) (hl : lv_has ls 8 (lvL b gm gq o i))
    (kk : ∀ (H : Heap) (locs : List Loc) (ls : Array Slot), LWd D A (wL gm ca gq cq o cO st' ms' f') s.heap H locs → lv_has ls 8 (lvL b gm gq o i) → W p l e room_1 s m args below meth c H locs (cells + 4) (slots + 24) Q (F0 m 1125 ls [])) : W p l e room_1 s m args below meth c H locs cells slots Q (F0 m 228 ls []) := by
  obtain ⟨hx, hb, hml, hown, hts, hkO, hkM, hZ, hA, hX, hbl, hbA⟩ := id hC
  refine lv_aload_n hx hb dw_228 rfl (lv_at hl 1 rfl) ?_
  refine lv_aload_n hx hb dw_229 rfl (lv_at hl 0 rfl) ?_
  refine lv_iload hx hb dw_230 (lv_at hl 4 rfl) ?_
  refine lv_iconst (v := 1) hx hb dw_232 rfl ?_
  refine lv_iadd hx hb dw_233 ?_
  refine va_sld hx hb hX hbl hbA hL.2.2 v1 dw_234 ?_
  rw [e1]
  refine lv_aload_n hx hb dw_235 rfl (lv_at hl 3 rfl) ?_
  refine lm_v (wr := wM gq cq ms) (lm_runSW (n := 3) hW ⟨by decide, by decide⟩ mcl_drop inl_law (by decide +kernel) ll_drop ls_drop hx hb hml hown hts hkO hZ hL (List.Perm.refl _) hl.1 rfl rfl (lv_room (Nat.le_of_ble_eq_true rfl)) dw_236 ⟨by show cells + 4 ≤ 600002; omega, by show slots + 24 ≤ 7302198; omega⟩) hA hL (List.Perm.refl _) (List.Perm.refl _) ?_
  intro H locs hL
  change LWd D A (wL gm ca gq cq o cO st' ms f') s.heap H locs at hL
  refine lv_istore (i := 5) (nL := 8) hx hb dw_239 hl (by decide) rfl ?_
  intro ls hl
  refine lv_aload_n hx hb dw_241 rfl (lv_at hl 3 rfl) ?_
  refine lv_aload_n hx hb dw_242 rfl (lv_at hl 1 rfl) ?_
  refine lv_iload hx hb dw_243 (lv_at hl 5 rfl) ?_
  refine lv_iconst (v := 1) hx hb dw_245 rfl ?_
  refine lv_iadd hx hb dw_246 ?_
  refine va_sld hx hb hX hbl hbA hL.2.2 v1 dw_247 ?_
  rw [e1]
  refine lm_v (wr := wO gm ca st' o cO f') (lm_runV (q0 := 0) (ci := 1) hM (cw_lm_drop hts ⟨by decide, by decide⟩) hx hb hml hown hts hkM hZ hL List.perm_append_comm rfl rfl hl.1 rfl rfl (lv_room (Nat.le_of_ble_eq_true rfl)) dw_248 ⟨by show cells + 4 + 0 ≤ 600002; omega, by show slots + 24 + 0 ≤ 7302198; omega⟩) hA hL List.perm_append_comm List.perm_append_comm ?_
  intro H locs hL
  change LWd D A (wL gm ca gq cq o cO st' ms' f') s.heap H locs at hL
  refine lv_istore (i := 6) (nL := 8) hx hb dw_251 hl (by decide) rfl ?_
  intro ls hl
  refine lv_aload_n hx hb dw_253 rfl (lv_at hl 4 rfl) ?_
  refine lm_v (wr := wO gm ca st' o cO f') (lm_runV (q0 := 0) (ci := 1) hT (cw_lm_thrown hts ⟨by decide, by decide⟩) hx hb hml hown hts hkM hZ hL List.perm_append_comm rfl rfl hl.1 rfl rfl (lv_room (Nat.le_of_ble_eq_true rfl)) dw_254 ⟨by show cells + 4 + 0 + 0 ≤ 600002; omega, by show slots + 24 + 0 + 0 ≤ 7302198; omega⟩) hA hL List.perm_append_comm List.perm_append_comm ?_
  intro H locs hL
  change LWd D A (wL gm ca gq cq o cO st' ms' f') s.heap H locs at hL
  refine lv_iload hx hb dw_257 (lv_at hl 1 rfl) ?_
  refine lv_icmp_eq (tgt := 264) hx hb dw_259 (by decide) (fun _ => ?_) (fun c0 => absurd rfl c0)
  refine lv_iload hx hb dw_264 (lv_at hl 1 rfl) ?_
  refine lv_if_ne (tgt := 281) hx hb dw_266 (by decide) (fun c1 => ?_) (fun c1 => ?_)
  ·
    refine lv_goto (tgt := 1125) hx hb dw_281 (by decide) ?_
    refine W.widen (k := cells + 4) (n := slots + 24) (by show cells + 4 + 0 + 0 ≤ cells + 4; omega) (by show slots + 24 + 0 + 0 ≤ slots + 24; omega) ?_
    exact kk _ _ _ hL (lv_sub hl [2, 3, 4, 5, 6] rfl)
  ·
    refine lv_aload_n hx hb dw_269 rfl (lv_at hl 5 rfl) ?_
    refine lv_iconst (v := 0) hx hb dw_270 rfl ?_
    refine va_lald hx hb hkO.1 hL.1 0 0 rfl rfl (by unfold vp_in; decide) dw_271 ?_
    refine lv_iload hx hb dw_272 (lv_at hl 0 rfl) ?_
    refine lv_i2l hx hb dw_274 rfl ?_
    refine W.lcmp hx hb dw_275 ?_
    refine lv_if_eq (tgt := 281) hx hb dw_276 (by decide) (fun _ => ?_) (fun c0 => absurd (lgc_eq.mpr (hE c1)) c0)
    refine lv_goto (tgt := 1125) hx hb dw_281 (by decide) ?_
    refine W.widen (k := cells + 4) (n := slots + 24) (by show cells + 4 + 0 + 0 ≤ cells + 4; omega) (by show slots + 24 + 0 + 0 ≤ slots + 24; omega) ?_
    exact kk _ _ _ hL (lv_sub hl [2, 3, 4, 5, 6] rfl)
theorem wl_case2 {p : Program} {l : Launch} {e : Env} {s : State} {m : MethodId} {args : Array Value} {below : List Frame} {meth : Method} {c : Code} {H : Heap} {locs : List Loc} {cells slots : Nat} {Q : State → Prop} {ls : Array Slot} {D : va_G} {A : Nat → Prop} {b L : Nat} {xs : Nat → Int32} {gm gq : Nat → Nat} {ca cq : Nat → ClassId} {o : Nat} {cO : ClassId} {st st' : BSt} {ms ms' : MSt} {f f' : Nat → Int64} {i k : Int32} {z : Int32} (hC : LC p s m args c D A b L xs ca cq cO)  (hW : LM l yl_version rml_version D (tysO ca cO) [.ref (gm 0), .ref o] (wO gm ca st o cO f) (XI k) (wO gm ca st' o cO f')) (hM : LM l ym_version rmm_version D (tysM cq) [.ref (gq 0)] (wM gq cq ms) (XI z) (wM gq cq ms')) (hT : LM l ym_thrown rmm_thrown D (tysM cq) [.ref (gq 0)] (wM gq cq ms') (XI k) (wM gq cq ms')) (hE : k = 0 → f' 0 = z.toInt64) (hce : cells + 4 ≤ 600002) (hsl : slots + 24 ≤ 7302198) (hL : LWd D A (wL gm ca gq cq o cO st ms f) s.heap H locs) (hl : lv_has ls 8 (lvL b gm gq o i))
    (kk : ∀ (H : Heap) (locs : List Loc) (ls : Array Slot), LWd D A (wL gm ca gq cq o cO st' ms' f') s.heap H locs → lv_has ls 8 (lvL b gm gq o i) → W p l e room_1 s m args below meth c H locs (cells + 4) (slots + 24) Q (F0 m 1125 ls [])) : W p l e room_1 s m args below meth c H locs cells slots Q (F0 m 284 ls []) := by
  obtain ⟨hx, hb, hml, hown, hts, hkO, hkM, hZ, hA, hX, hbl, hbA⟩ := id hC
  refine lv_aload_n hx hb dw_284 rfl (lv_at hl 1 rfl) ?_
  refine lv_aload_n hx hb dw_285 rfl (lv_at hl 3 rfl) ?_
  refine lm_v (wr := wM gq cq ms) (lm_runSW (n := 2) hW ⟨by decide, by decide⟩ mcl_version inl_law (by decide +kernel) ll_version ls_version hx hb hml hown hts hkO hZ hL (List.Perm.refl _) hl.1 rfl rfl (lv_room (Nat.le_of_ble_eq_true rfl)) dw_286 ⟨by show cells + 1 ≤ 600002; omega, by show slots + 6 ≤ 7302198; omega⟩) hA hL (List.Perm.refl _) (List.Perm.refl _) ?_
  intro H locs hL
  change LWd D A (wL gm ca gq cq o cO st' ms f') s.heap H locs at hL
  refine lv_istore (i := 5) (nL := 8) hx hb dw_289 hl (by decide) rfl ?_
  intro ls hl
  refine lv_aload_n hx hb dw_291 rfl (lv_at hl 3 rfl) ?_
  refine lm_v (wr := wO gm ca st' o cO f') (lm_runV (q0 := 0) (ci := 1) hM (cw_lm_version hts ⟨by decide, by decide⟩) hx hb hml hown hts hkM hZ hL List.perm_append_comm rfl rfl hl.1 rfl rfl (lv_room (Nat.le_of_ble_eq_true rfl)) dw_292 ⟨by show cells + 1 + 0 ≤ 600002; omega, by show slots + 6 + 0 ≤ 7302198; omega⟩) hA hL List.perm_append_comm List.perm_append_comm ?_
  intro H locs hL
  change LWd D A (wL gm ca gq cq o cO st' ms' f') s.heap H locs at hL
  refine lv_istore (i := 6) (nL := 8) hx hb dw_295 hl (by decide) rfl ?_
  intro ls hl
  refine lv_aload_n hx hb dw_297 rfl (lv_at hl 4 rfl) ?_
  refine lm_v (wr := wO gm ca st' o cO f') (lm_runV (q0 := 0) (ci := 1) hT (cw_lm_thrown hts ⟨by decide, by decide⟩) hx hb hml hown hts hkM hZ hL List.perm_append_comm rfl rfl hl.1 rfl rfl (lv_room (Nat.le_of_ble_eq_true rfl)) dw_298 ⟨by show cells + 1 + 0 + 0 ≤ 600002; omega, by show slots + 6 + 0 + 0 ≤ 7302198; omega⟩) hA hL List.perm_append_comm List.perm_append_comm ?_
  intro H locs hL
  change LWd D A (wL gm ca gq cq o cO st' ms' f') s.heap H locs at hL
  refine lv_iload hx hb dw_301 (lv_at hl 1 rfl) ?_
  refine lv_icmp_eq (tgt := 308) hx hb dw_303 (by decide) (fun _ => ?_) (fun c0 => absurd rfl c0)
  refine lv_iload hx hb dw_308 (lv_at hl 1 rfl) ?_
  refine lv_if_ne (tgt := 325) hx hb dw_310 (by decide) (fun c1 => ?_) (fun c1 => ?_)
  ·
    refine lv_goto (tgt := 1125) hx hb dw_325 (by decide) ?_
    refine W.widen (k := cells + 4) (n := slots + 24) (by show cells + 1 + 0 + 0 ≤ cells + 4; omega) (by show slots + 6 + 0 + 0 ≤ slots + 24; omega) ?_
    exact kk _ _ _ hL (lv_sub hl [2, 3, 4, 5, 6] rfl)
  ·
    refine lv_aload_n hx hb dw_313 rfl (lv_at hl 5 rfl) ?_
    refine lv_iconst (v := 0) hx hb dw_314 rfl ?_
    refine va_lald hx hb hkO.1 hL.1 0 0 rfl rfl (by unfold vp_in; decide) dw_315 ?_
    refine lv_iload hx hb dw_316 (lv_at hl 0 rfl) ?_
    refine lv_i2l hx hb dw_318 rfl ?_
    refine W.lcmp hx hb dw_319 ?_
    refine lv_if_eq (tgt := 325) hx hb dw_320 (by decide) (fun _ => ?_) (fun c0 => absurd (lgc_eq.mpr (hE c1)) c0)
    refine lv_goto (tgt := 1125) hx hb dw_325 (by decide) ?_
    refine W.widen (k := cells + 4) (n := slots + 24) (by show cells + 1 + 0 + 0 ≤ cells + 4; omega) (by show slots + 6 + 0 + 0 ≤ slots + 24; omega) ?_
    exact kk _ _ _ hL (lv_sub hl [2, 3, 4, 5, 6] rfl)
theorem wl_case3 {p : Program} {l : Launch} {e : Env} {s : State} {m : MethodId} {args : Array Value} {below : List Frame} {meth : Method} {c : Code} {H : Heap} {locs : List Loc} {cells slots : Nat} {Q : State → Prop} {ls : Array Slot} {D : va_G} {A : Nat → Prop} {b L : Nat} {xs : Nat → Int32} {gm gq : Nat → Nat} {ca cq : Nat → ClassId} {o : Nat} {cO : ClassId} {st st' : BSt} {ms ms' : MSt} {f f' : Nat → Int64} {i k : Int32} {y1 y2 : Int32} {z : Int32} (hC : LC p s m args c D A b L xs ca cq cO) (v1 : vp_in (i + 1) L) (e1 : xs (i + 1).toNatClampNeg = y1) (v2 : vp_in (i + 2) L) (e2 : xs (i + 2).toNatClampNeg = y2) (hW : LM l yl_has rml_has D (tysO ca cO) [.ref (gm 0), .int y1, .int y2, .ref o] (wO gm ca st o cO f) (XI k) (wO gm ca st' o cO f')) (hM : LM l ym_has rmm_has D (tysM cq) [.ref (gq 0), .int y1, .int y2] (wM gq cq ms) (XI z) (wM gq cq ms')) (hT : LM l ym_thrown rmm_thrown D (tysM cq) [.ref (gq 0)] (wM gq cq ms') (XI k) (wM gq cq ms')) (hE : k = 0 → f' 0 = if z = 0 then 0 else 1) (hce : cells + 4 ≤ 600002) (hsl : slots + 24 ≤ 7302198) (hL : LWd D A (wL gm ca gq cq o cO st ms f) s.heap H locs) (hl : lv_has ls 8 (lvL b gm gq o i))
    (kk : ∀ (H : Heap) (locs : List Loc) (ls : Array Slot), LWd D A (wL gm ca gq cq o cO st' ms' f') s.heap H locs → lv_has ls 8 (lvL b gm gq o i) → W p l e room_1 s m args below meth c H locs (cells + 4) (slots + 24) Q (F0 m 1125 ls [])) : W p l e room_1 s m args below meth c H locs cells slots Q (F0 m 328 ls []) := by
  obtain ⟨hx, hb, hml, hown, hts, hkO, hkM, hZ, hA, hX, hbl, hbA⟩ := id hC
  refine lv_aload_n hx hb dw_328 rfl (lv_at hl 1 rfl) ?_
  refine lv_aload_n hx hb dw_329 rfl (lv_at hl 0 rfl) ?_
  refine lv_iload hx hb dw_330 (lv_at hl 4 rfl) ?_
  refine lv_iconst (v := 1) hx hb dw_332 rfl ?_
  refine lv_iadd hx hb dw_333 ?_
  refine va_sld hx hb hX hbl hbA hL.2.2 v1 dw_334 ?_
  rw [e1]
  refine lv_aload_n hx hb dw_335 rfl (lv_at hl 0 rfl) ?_
  refine lv_iload hx hb dw_336 (lv_at hl 4 rfl) ?_
  refine lv_iconst (v := 2) hx hb dw_338 rfl ?_
  refine lv_iadd hx hb dw_339 ?_
  refine va_sld hx hb hX hbl hbA hL.2.2 v2 dw_340 ?_
  rw [e2]
  refine lv_aload_n hx hb dw_341 rfl (lv_at hl 3 rfl) ?_
  refine lm_v (wr := wM gq cq ms) (lm_runSW (n := 4) hW ⟨by decide, by decide⟩ mcl_has inl_law (by decide +kernel) ll_has ls_has hx hb hml hown hts hkO hZ hL (List.Perm.refl _) hl.1 rfl rfl (lv_room (Nat.le_of_ble_eq_true rfl)) dw_342 ⟨by show cells + 2 ≤ 600002; omega, by show slots + 12 ≤ 7302198; omega⟩) hA hL (List.Perm.refl _) (List.Perm.refl _) ?_
  intro H locs hL
  change LWd D A (wL gm ca gq cq o cO st' ms f') s.heap H locs at hL
  refine lv_istore (i := 5) (nL := 8) hx hb dw_345 hl (by decide) rfl ?_
  intro ls hl
  refine lv_aload_n hx hb dw_347 rfl (lv_at hl 3 rfl) ?_
  refine lv_aload_n hx hb dw_348 rfl (lv_at hl 1 rfl) ?_
  refine lv_iload hx hb dw_349 (lv_at hl 5 rfl) ?_
  refine lv_iconst (v := 1) hx hb dw_351 rfl ?_
  refine lv_iadd hx hb dw_352 ?_
  refine va_sld hx hb hX hbl hbA hL.2.2 v1 dw_353 ?_
  rw [e1]
  refine lv_aload_n hx hb dw_354 rfl (lv_at hl 1 rfl) ?_
  refine lv_iload hx hb dw_355 (lv_at hl 5 rfl) ?_
  refine lv_iconst (v := 2) hx hb dw_357 rfl ?_
  refine lv_iadd hx hb dw_358 ?_
  refine va_sld hx hb hX hbl hbA hL.2.2 v2 dw_359 ?_
  rw [e2]
  refine lm_v (wr := wO gm ca st' o cO f') (lm_runV (q0 := 0) (ci := 1) hM (cw_lm_has hts ⟨by decide, by decide⟩) hx hb hml hown hts hkM hZ hL List.perm_append_comm rfl rfl hl.1 rfl rfl (lv_room (Nat.le_of_ble_eq_true rfl)) dw_360 ⟨by show cells + 2 + 0 ≤ 600002; omega, by show slots + 12 + 0 ≤ 7302198; omega⟩) hA hL List.perm_append_comm List.perm_append_comm ?_
  intro H locs hL
  change LWd D A (wL gm ca gq cq o cO st' ms' f') s.heap H locs at hL
  refine lv_istore (i := 6) (nL := 8) hx hb dw_363 hl (by decide) rfl ?_
  intro ls hl
  refine lv_aload_n hx hb dw_365 rfl (lv_at hl 4 rfl) ?_
  refine lm_v (wr := wO gm ca st' o cO f') (lm_runV (q0 := 0) (ci := 1) hT (cw_lm_thrown hts ⟨by decide, by decide⟩) hx hb hml hown hts hkM hZ hL List.perm_append_comm rfl rfl hl.1 rfl rfl (lv_room (Nat.le_of_ble_eq_true rfl)) dw_366 ⟨by show cells + 2 + 0 + 0 ≤ 600002; omega, by show slots + 12 + 0 + 0 ≤ 7302198; omega⟩) hA hL List.perm_append_comm List.perm_append_comm ?_
  intro H locs hL
  change LWd D A (wL gm ca gq cq o cO st' ms' f') s.heap H locs at hL
  refine lv_iload hx hb dw_369 (lv_at hl 1 rfl) ?_
  refine lv_icmp_eq (tgt := 376) hx hb dw_371 (by decide) (fun _ => ?_) (fun c0 => absurd rfl c0)
  refine lv_iload hx hb dw_376 (lv_at hl 1 rfl) ?_
  refine lv_if_ne (tgt := 400) hx hb dw_378 (by decide) (fun c1 => ?_) (fun c1 => ?_)
  ·
    refine lv_goto (tgt := 1125) hx hb dw_400 (by decide) ?_
    refine W.widen (k := cells + 4) (n := slots + 24) (by show cells + 2 + 0 + 0 ≤ cells + 4; omega) (by show slots + 12 + 0 + 0 ≤ slots + 24; omega) ?_
    exact kk _ _ _ hL (lv_sub hl [2, 3, 4, 5, 6] rfl)
  ·
    refine lv_aload_n hx hb dw_381 rfl (lv_at hl 5 rfl) ?_
    refine lv_iconst (v := 0) hx hb dw_382 rfl ?_
    refine va_lald hx hb hkO.1 hL.1 0 0 rfl rfl (by unfold vp_in; decide) dw_383 ?_
    refine lv_iload hx hb dw_384 (lv_at hl 0 rfl) ?_
    refine lv_if_eq (tgt := 393) hx hb dw_386 (by decide) (fun c2 => ?_) (fun c2 => ?_)
    ·
      refine lv_lconst (v := 0) hx hb dw_393 rfl ?_
      refine W.lcmp hx hb dw_394 ?_
      refine lv_if_eq (tgt := 400) hx hb dw_395 (by decide) (fun _ => ?_) (fun c0 => absurd (lgc_eq.mpr ((hE c1).trans (if_pos c2))) c0)
      refine lv_goto (tgt := 1125) hx hb dw_400 (by decide) ?_
      refine W.widen (k := cells + 4) (n := slots + 24) (by show cells + 2 + 0 + 0 ≤ cells + 4; omega) (by show slots + 12 + 0 + 0 ≤ slots + 24; omega) ?_
      exact kk _ _ _ hL (lv_sub hl [2, 3, 4, 5, 6] rfl)
    ·
      refine lv_lconst (v := 1) hx hb dw_389 rfl ?_
      refine lv_goto (tgt := 394) hx hb dw_390 (by decide) ?_
      refine W.lcmp hx hb dw_394 ?_
      refine lv_if_eq (tgt := 400) hx hb dw_395 (by decide) (fun _ => ?_) (fun c0 => absurd (lgc_eq.mpr ((hE c1).trans (if_neg c2))) c0)
      refine lv_goto (tgt := 1125) hx hb dw_400 (by decide) ?_
      refine W.widen (k := cells + 4) (n := slots + 24) (by show cells + 2 + 0 + 0 ≤ cells + 4; omega) (by show slots + 12 + 0 + 0 ≤ slots + 24; omega) ?_
      exact kk _ _ _ hL (lv_sub hl [2, 3, 4, 5, 6] rfl)
theorem wl_case4 {p : Program} {l : Launch} {e : Env} {s : State} {m : MethodId} {args : Array Value} {below : List Frame} {meth : Method} {c : Code} {H : Heap} {locs : List Loc} {cells slots : Nat} {Q : State → Prop} {ls : Array Slot} {D : va_G} {A : Nat → Prop} {b L : Nat} {xs : Nat → Int32} {gm gq : Nat → Nat} {ca cq : Nat → ClassId} {o : Nat} {cO : ClassId} {st st' : BSt} {ms ms' : MSt} {f f' : Nat → Int64} {i k : Int32} {y1 y2 : Int32} {z : Int64} (hC : LC p s m args c D A b L xs ca cq cO) (v1 : vp_in (i + 1) L) (e1 : xs (i + 1).toNatClampNeg = y1) (v2 : vp_in (i + 2) L) (e2 : xs (i + 2).toNatClampNeg = y2) (hW : LM l yl_find rml_find D (tysO ca cO) [.ref (gm 0), .int y1, .int y2, .ref o] (wO gm ca st o cO f) (XI k) (wO gm ca st' o cO f')) (hM : LM l ym_find rmm_find D (tysM cq) [.ref (gq 0), .int y1, .int y2] (wM gq cq ms) (XL z) (wM gq cq ms')) (hT : LM l ym_thrown rmm_thrown D (tysM cq) [.ref (gq 0)] (wM gq cq ms') (XI k) (wM gq cq ms')) (hE : k = 0 → f' 0 = z) (hce : cells + 4 ≤ 600002) (hsl : slots + 24 ≤ 7302198) (hL : LWd D A (wL gm ca gq cq o cO st ms f) s.heap H locs) (hl : lv_has ls 8 (lvL b gm gq o i))
    (kk : ∀ (H : Heap) (locs : List Loc) (ls : Array Slot), LWd D A (wL gm ca gq cq o cO st' ms' f') s.heap H locs → lv_has ls 8 (lvL b gm gq o i) → W p l e room_1 s m args below meth c H locs (cells + 4) (slots + 24) Q (F0 m 1125 ls [])) : W p l e room_1 s m args below meth c H locs cells slots Q (F0 m 403 ls []) := by
  obtain ⟨hx, hb, hml, hown, hts, hkO, hkM, hZ, hA, hX, hbl, hbA⟩ := id hC
  refine lv_aload_n hx hb dw_403 rfl (lv_at hl 1 rfl) ?_
  refine lv_aload_n hx hb dw_404 rfl (lv_at hl 0 rfl) ?_
  refine lv_iload hx hb dw_405 (lv_at hl 4 rfl) ?_
  refine lv_iconst (v := 1) hx hb dw_407 rfl ?_
  refine lv_iadd hx hb dw_408 ?_
  refine va_sld hx hb hX hbl hbA hL.2.2 v1 dw_409 ?_
  rw [e1]
  refine lv_aload_n hx hb dw_410 rfl (lv_at hl 0 rfl) ?_
  refine lv_iload hx hb dw_411 (lv_at hl 4 rfl) ?_
  refine lv_iconst (v := 2) hx hb dw_413 rfl ?_
  refine lv_iadd hx hb dw_414 ?_
  refine va_sld hx hb hX hbl hbA hL.2.2 v2 dw_415 ?_
  rw [e2]
  refine lv_aload_n hx hb dw_416 rfl (lv_at hl 3 rfl) ?_
  refine lm_v (wr := wM gq cq ms) (lm_runSW (n := 4) hW ⟨by decide, by decide⟩ mcl_find inl_law (by decide +kernel) ll_find ls_find hx hb hml hown hts hkO hZ hL (List.Perm.refl _) hl.1 rfl rfl (lv_room (Nat.le_of_ble_eq_true rfl)) dw_417 ⟨by show cells + 2 ≤ 600002; omega, by show slots + 12 ≤ 7302198; omega⟩) hA hL (List.Perm.refl _) (List.Perm.refl _) ?_
  intro H locs hL
  change LWd D A (wL gm ca gq cq o cO st' ms f') s.heap H locs at hL
  refine lv_istore (i := 5) (nL := 8) hx hb dw_420 hl (by decide) rfl ?_
  intro ls hl
  refine lv_aload_n hx hb dw_422 rfl (lv_at hl 3 rfl) ?_
  refine lv_aload_n hx hb dw_423 rfl (lv_at hl 1 rfl) ?_
  refine lv_iload hx hb dw_424 (lv_at hl 5 rfl) ?_
  refine lv_iconst (v := 1) hx hb dw_426 rfl ?_
  refine lv_iadd hx hb dw_427 ?_
  refine va_sld hx hb hX hbl hbA hL.2.2 v1 dw_428 ?_
  rw [e1]
  refine lv_aload_n hx hb dw_429 rfl (lv_at hl 1 rfl) ?_
  refine lv_iload hx hb dw_430 (lv_at hl 5 rfl) ?_
  refine lv_iconst (v := 2) hx hb dw_432 rfl ?_
  refine lv_iadd hx hb dw_433 ?_
  refine va_sld hx hb hX hbl hbA hL.2.2 v2 dw_434 ?_
  rw [e2]
  refine lm_v (wr := wO gm ca st' o cO f') (lm_runV (q0 := 0) (ci := 1) hM (cw_lm_find hts ⟨by decide, by decide⟩) hx hb hml hown hts hkM hZ hL List.perm_append_comm rfl rfl hl.1 rfl rfl (lv_room (Nat.le_of_ble_eq_true rfl)) dw_435 ⟨by show cells + 2 + 0 ≤ 600002; omega, by show slots + 12 + 0 ≤ 7302198; omega⟩) hA hL List.perm_append_comm List.perm_append_comm ?_
  intro H locs hL
  change LWd D A (wL gm ca gq cq o cO st' ms' f') s.heap H locs at hL
  refine lv_lstore (i := 6) (nL := 8) hx hb dw_438 hl (by decide) rfl ?_
  intro ls hl
  refine lv_aload_n hx hb dw_440 rfl (lv_at hl 4 rfl) ?_
  refine lm_v (wr := wO gm ca st' o cO f') (lm_runV (q0 := 0) (ci := 1) hT (cw_lm_thrown hts ⟨by decide, by decide⟩) hx hb hml hown hts hkM hZ hL List.perm_append_comm rfl rfl hl.1 rfl rfl (lv_room (Nat.le_of_ble_eq_true rfl)) dw_441 ⟨by show cells + 2 + 0 + 0 ≤ 600002; omega, by show slots + 12 + 0 + 0 ≤ 7302198; omega⟩) hA hL List.perm_append_comm List.perm_append_comm ?_
  intro H locs hL
  change LWd D A (wL gm ca gq cq o cO st' ms' f') s.heap H locs at hL
  refine lv_iload hx hb dw_444 (lv_at hl 1 rfl) ?_
  refine lv_icmp_eq (tgt := 451) hx hb dw_446 (by decide) (fun _ => ?_) (fun c0 => absurd rfl c0)
  refine lv_iload hx hb dw_451 (lv_at hl 1 rfl) ?_
  refine lv_if_ne (tgt := 467) hx hb dw_453 (by decide) (fun c1 => ?_) (fun c1 => ?_)
  ·
    refine lv_goto (tgt := 1125) hx hb dw_467 (by decide) ?_
    refine W.widen (k := cells + 4) (n := slots + 24) (by show cells + 2 + 0 + 0 ≤ cells + 4; omega) (by show slots + 12 + 0 + 0 ≤ slots + 24; omega) ?_
    exact kk _ _ _ hL (lv_sub hl [2, 3, 4, 5, 6] rfl)
  ·
    refine lv_aload_n hx hb dw_456 rfl (lv_at hl 5 rfl) ?_
    refine lv_iconst (v := 0) hx hb dw_457 rfl ?_
    refine va_lald hx hb hkO.1 hL.1 0 0 rfl rfl (by unfold vp_in; decide) dw_458 ?_
    refine lv_lload hx hb dw_459 (lv_at hl 0 rfl) ?_
    refine W.lcmp hx hb dw_461 ?_
    refine lv_if_eq (tgt := 467) hx hb dw_462 (by decide) (fun _ => ?_) (fun c0 => absurd (lgc_eq.mpr (hE c1)) c0)
    refine lv_goto (tgt := 1125) hx hb dw_467 (by decide) ?_
    refine W.widen (k := cells + 4) (n := slots + 24) (by show cells + 2 + 0 + 0 ≤ cells + 4; omega) (by show slots + 12 + 0 + 0 ≤ slots + 24; omega) ?_
    exact kk _ _ _ hL (lv_sub hl [2, 3, 4, 5, 6] rfl)
theorem wl_case5 {p : Program} {l : Launch} {e : Env} {s : State} {m : MethodId} {args : Array Value} {below : List Frame} {meth : Method} {c : Code} {H : Heap} {locs : List Loc} {cells slots : Nat} {Q : State → Prop} {ls : Array Slot} {D : va_G} {A : Nat → Prop} {b L : Nat} {xs : Nat → Int32} {gm gq : Nat → Nat} {ca cq : Nat → ClassId} {o : Nat} {cO : ClassId} {st st' : BSt} {ms ms' : MSt} {f f' : Nat → Int64} {i k : Int32} {y1 y2 : Int32} {z : Int32} (hC : LC p s m args c D A b L xs ca cq cO) (v1 : vp_in (i + 1) L) (e1 : xs (i + 1).toNatClampNeg = y1) (v2 : vp_in (i + 2) L) (e2 : xs (i + 2).toNatClampNeg = y2) (hW : LM l yl_count rml_count D (tysO ca cO) [.ref (gm 0), .int y1, .int y2, .ref o] (wO gm ca st o cO f) (XI k) (wO gm ca st' o cO f')) (hM : LM l ym_count rmm_count D (tysM cq) [.ref (gq 0), .int y1, .int y2] (wM gq cq ms) (XI z) (wM gq cq ms')) (hT : LM l ym_thrown rmm_thrown D (tysM cq) [.ref (gq 0)] (wM gq cq ms') (XI k) (wM gq cq ms')) (hE : k = 0 → f' 0 = z.toInt64) (hce : cells + 4 ≤ 600002) (hsl : slots + 24 ≤ 7302198) (hL : LWd D A (wL gm ca gq cq o cO st ms f) s.heap H locs) (hl : lv_has ls 8 (lvL b gm gq o i))
    (kk : ∀ (H : Heap) (locs : List Loc) (ls : Array Slot), LWd D A (wL gm ca gq cq o cO st' ms' f') s.heap H locs → lv_has ls 8 (lvL b gm gq o i) → W p l e room_1 s m args below meth c H locs (cells + 4) (slots + 24) Q (F0 m 1125 ls [])) : W p l e room_1 s m args below meth c H locs cells slots Q (F0 m 470 ls []) := by
  obtain ⟨hx, hb, hml, hown, hts, hkO, hkM, hZ, hA, hX, hbl, hbA⟩ := id hC
  refine lv_aload_n hx hb dw_470 rfl (lv_at hl 1 rfl) ?_
  refine lv_aload_n hx hb dw_471 rfl (lv_at hl 0 rfl) ?_
  refine lv_iload hx hb dw_472 (lv_at hl 4 rfl) ?_
  refine lv_iconst (v := 1) hx hb dw_474 rfl ?_
  refine lv_iadd hx hb dw_475 ?_
  refine va_sld hx hb hX hbl hbA hL.2.2 v1 dw_476 ?_
  rw [e1]
  refine lv_aload_n hx hb dw_477 rfl (lv_at hl 0 rfl) ?_
  refine lv_iload hx hb dw_478 (lv_at hl 4 rfl) ?_
  refine lv_iconst (v := 2) hx hb dw_480 rfl ?_
  refine lv_iadd hx hb dw_481 ?_
  refine va_sld hx hb hX hbl hbA hL.2.2 v2 dw_482 ?_
  rw [e2]
  refine lv_aload_n hx hb dw_483 rfl (lv_at hl 3 rfl) ?_
  refine lm_v (wr := wM gq cq ms) (lm_runSW (n := 4) hW ⟨by decide, by decide⟩ mcl_count inl_law (by decide +kernel) ll_count ls_count hx hb hml hown hts hkO hZ hL (List.Perm.refl _) hl.1 rfl rfl (lv_room (Nat.le_of_ble_eq_true rfl)) dw_484 ⟨by show cells + 3 ≤ 600002; omega, by show slots + 18 ≤ 7302198; omega⟩) hA hL (List.Perm.refl _) (List.Perm.refl _) ?_
  intro H locs hL
  change LWd D A (wL gm ca gq cq o cO st' ms f') s.heap H locs at hL
  refine lv_istore (i := 5) (nL := 8) hx hb dw_487 hl (by decide) rfl ?_
  intro ls hl
  refine lv_aload_n hx hb dw_489 rfl (lv_at hl 3 rfl) ?_
  refine lv_aload_n hx hb dw_490 rfl (lv_at hl 1 rfl) ?_
  refine lv_iload hx hb dw_491 (lv_at hl 5 rfl) ?_
  refine lv_iconst (v := 1) hx hb dw_493 rfl ?_
  refine lv_iadd hx hb dw_494 ?_
  refine va_sld hx hb hX hbl hbA hL.2.2 v1 dw_495 ?_
  rw [e1]
  refine lv_aload_n hx hb dw_496 rfl (lv_at hl 1 rfl) ?_
  refine lv_iload hx hb dw_497 (lv_at hl 5 rfl) ?_
  refine lv_iconst (v := 2) hx hb dw_499 rfl ?_
  refine lv_iadd hx hb dw_500 ?_
  refine va_sld hx hb hX hbl hbA hL.2.2 v2 dw_501 ?_
  rw [e2]
  refine lm_v (wr := wO gm ca st' o cO f') (lm_runV (q0 := 0) (ci := 1) hM (cw_lm_count hts ⟨by decide, by decide⟩) hx hb hml hown hts hkM hZ hL List.perm_append_comm rfl rfl hl.1 rfl rfl (lv_room (Nat.le_of_ble_eq_true rfl)) dw_502 ⟨by show cells + 3 + 0 ≤ 600002; omega, by show slots + 18 + 0 ≤ 7302198; omega⟩) hA hL List.perm_append_comm List.perm_append_comm ?_
  intro H locs hL
  change LWd D A (wL gm ca gq cq o cO st' ms' f') s.heap H locs at hL
  refine lv_istore (i := 6) (nL := 8) hx hb dw_505 hl (by decide) rfl ?_
  intro ls hl
  refine lv_aload_n hx hb dw_507 rfl (lv_at hl 4 rfl) ?_
  refine lm_v (wr := wO gm ca st' o cO f') (lm_runV (q0 := 0) (ci := 1) hT (cw_lm_thrown hts ⟨by decide, by decide⟩) hx hb hml hown hts hkM hZ hL List.perm_append_comm rfl rfl hl.1 rfl rfl (lv_room (Nat.le_of_ble_eq_true rfl)) dw_508 ⟨by show cells + 3 + 0 + 0 ≤ 600002; omega, by show slots + 18 + 0 + 0 ≤ 7302198; omega⟩) hA hL List.perm_append_comm List.perm_append_comm ?_
  intro H locs hL
  change LWd D A (wL gm ca gq cq o cO st' ms' f') s.heap H locs at hL
  refine lv_iload hx hb dw_511 (lv_at hl 1 rfl) ?_
  refine lv_icmp_eq (tgt := 518) hx hb dw_513 (by decide) (fun _ => ?_) (fun c0 => absurd rfl c0)
  refine lv_iload hx hb dw_518 (lv_at hl 1 rfl) ?_
  refine lv_if_ne (tgt := 535) hx hb dw_520 (by decide) (fun c1 => ?_) (fun c1 => ?_)
  ·
    refine lv_goto (tgt := 1125) hx hb dw_535 (by decide) ?_
    refine W.widen (k := cells + 4) (n := slots + 24) (by show cells + 3 + 0 + 0 ≤ cells + 4; omega) (by show slots + 18 + 0 + 0 ≤ slots + 24; omega) ?_
    exact kk _ _ _ hL (lv_sub hl [2, 3, 4, 5, 6] rfl)
  ·
    refine lv_aload_n hx hb dw_523 rfl (lv_at hl 5 rfl) ?_
    refine lv_iconst (v := 0) hx hb dw_524 rfl ?_
    refine va_lald hx hb hkO.1 hL.1 0 0 rfl rfl (by unfold vp_in; decide) dw_525 ?_
    refine lv_iload hx hb dw_526 (lv_at hl 0 rfl) ?_
    refine lv_i2l hx hb dw_528 rfl ?_
    refine W.lcmp hx hb dw_529 ?_
    refine lv_if_eq (tgt := 535) hx hb dw_530 (by decide) (fun _ => ?_) (fun c0 => absurd (lgc_eq.mpr (hE c1)) c0)
    refine lv_goto (tgt := 1125) hx hb dw_535 (by decide) ?_
    refine W.widen (k := cells + 4) (n := slots + 24) (by show cells + 3 + 0 + 0 ≤ cells + 4; omega) (by show slots + 18 + 0 + 0 ≤ slots + 24; omega) ?_
    exact kk _ _ _ hL (lv_sub hl [2, 3, 4, 5, 6] rfl)
theorem wl_case6 {p : Program} {l : Launch} {e : Env} {s : State} {m : MethodId} {args : Array Value} {below : List Frame} {meth : Method} {c : Code} {H : Heap} {locs : List Loc} {cells slots : Nat} {Q : State → Prop} {ls : Array Slot} {D : va_G} {A : Nat → Prop} {b L : Nat} {xs : Nat → Int32} {gm gq : Nat → Nat} {ca cq : Nat → ClassId} {o : Nat} {cO : ClassId} {st st' : BSt} {ms ms' : MSt} {f f' : Nat → Int64} {i k : Int32} {y1 y2 : Int32} {z : Int32} (hC : LC p s m args c D A b L xs ca cq cO) (v1 : vp_in (i + 1) L) (e1 : xs (i + 1).toNatClampNeg = y1) (v2 : vp_in (i + 2) L) (e2 : xs (i + 2).toNatClampNeg = y2) (hW : LM l yl_key rml_key D (tysO ca cO) [.ref (gm 0), .int y1, .int y2, .ref o] (wO gm ca st o cO f) (XI k) (wO gm ca st' o cO f')) (hM : LM l ym_key rmm_key D (tysM cq) [.ref (gq 0), .int y1, .int y2] (wM gq cq ms) (XI z) (wM gq cq ms')) (hT : LM l ym_thrown rmm_thrown D (tysM cq) [.ref (gq 0)] (wM gq cq ms') (XI k) (wM gq cq ms')) (hE : k = 0 → f' 0 = z.toInt64) (hce : cells + 4 ≤ 600002) (hsl : slots + 24 ≤ 7302198) (hL : LWd D A (wL gm ca gq cq o cO st ms f) s.heap H locs) (hl : lv_has ls 8 (lvL b gm gq o i))
    (kk : ∀ (H : Heap) (locs : List Loc) (ls : Array Slot), LWd D A (wL gm ca gq cq o cO st' ms' f') s.heap H locs → lv_has ls 8 (lvL b gm gq o i) → W p l e room_1 s m args below meth c H locs (cells + 4) (slots + 24) Q (F0 m 1125 ls [])) : W p l e room_1 s m args below meth c H locs cells slots Q (F0 m 538 ls []) := by
  obtain ⟨hx, hb, hml, hown, hts, hkO, hkM, hZ, hA, hX, hbl, hbA⟩ := id hC
  refine lv_aload_n hx hb dw_538 rfl (lv_at hl 1 rfl) ?_
  refine lv_aload_n hx hb dw_539 rfl (lv_at hl 0 rfl) ?_
  refine lv_iload hx hb dw_540 (lv_at hl 4 rfl) ?_
  refine lv_iconst (v := 1) hx hb dw_542 rfl ?_
  refine lv_iadd hx hb dw_543 ?_
  refine va_sld hx hb hX hbl hbA hL.2.2 v1 dw_544 ?_
  rw [e1]
  refine lv_aload_n hx hb dw_545 rfl (lv_at hl 0 rfl) ?_
  refine lv_iload hx hb dw_546 (lv_at hl 4 rfl) ?_
  refine lv_iconst (v := 2) hx hb dw_548 rfl ?_
  refine lv_iadd hx hb dw_549 ?_
  refine va_sld hx hb hX hbl hbA hL.2.2 v2 dw_550 ?_
  rw [e2]
  refine lv_aload_n hx hb dw_551 rfl (lv_at hl 3 rfl) ?_
  refine lm_v (wr := wM gq cq ms) (lm_runSW (n := 4) hW ⟨by decide, by decide⟩ mcl_key inl_law (by decide +kernel) ll_key ls_key hx hb hml hown hts hkO hZ hL (List.Perm.refl _) hl.1 rfl rfl (lv_room (Nat.le_of_ble_eq_true rfl)) dw_552 ⟨by show cells + 3 ≤ 600002; omega, by show slots + 18 ≤ 7302198; omega⟩) hA hL (List.Perm.refl _) (List.Perm.refl _) ?_
  intro H locs hL
  change LWd D A (wL gm ca gq cq o cO st' ms f') s.heap H locs at hL
  refine lv_istore (i := 5) (nL := 8) hx hb dw_555 hl (by decide) rfl ?_
  intro ls hl
  refine lv_aload_n hx hb dw_557 rfl (lv_at hl 3 rfl) ?_
  refine lv_aload_n hx hb dw_558 rfl (lv_at hl 1 rfl) ?_
  refine lv_iload hx hb dw_559 (lv_at hl 5 rfl) ?_
  refine lv_iconst (v := 1) hx hb dw_561 rfl ?_
  refine lv_iadd hx hb dw_562 ?_
  refine va_sld hx hb hX hbl hbA hL.2.2 v1 dw_563 ?_
  rw [e1]
  refine lv_aload_n hx hb dw_564 rfl (lv_at hl 1 rfl) ?_
  refine lv_iload hx hb dw_565 (lv_at hl 5 rfl) ?_
  refine lv_iconst (v := 2) hx hb dw_567 rfl ?_
  refine lv_iadd hx hb dw_568 ?_
  refine va_sld hx hb hX hbl hbA hL.2.2 v2 dw_569 ?_
  rw [e2]
  refine lm_v (wr := wO gm ca st' o cO f') (lm_runV (q0 := 0) (ci := 1) hM (cw_lm_key hts ⟨by decide, by decide⟩) hx hb hml hown hts hkM hZ hL List.perm_append_comm rfl rfl hl.1 rfl rfl (lv_room (Nat.le_of_ble_eq_true rfl)) dw_570 ⟨by show cells + 3 + 0 ≤ 600002; omega, by show slots + 18 + 0 ≤ 7302198; omega⟩) hA hL List.perm_append_comm List.perm_append_comm ?_
  intro H locs hL
  change LWd D A (wL gm ca gq cq o cO st' ms' f') s.heap H locs at hL
  refine lv_istore (i := 6) (nL := 8) hx hb dw_573 hl (by decide) rfl ?_
  intro ls hl
  refine lv_aload_n hx hb dw_575 rfl (lv_at hl 4 rfl) ?_
  refine lm_v (wr := wO gm ca st' o cO f') (lm_runV (q0 := 0) (ci := 1) hT (cw_lm_thrown hts ⟨by decide, by decide⟩) hx hb hml hown hts hkM hZ hL List.perm_append_comm rfl rfl hl.1 rfl rfl (lv_room (Nat.le_of_ble_eq_true rfl)) dw_576 ⟨by show cells + 3 + 0 + 0 ≤ 600002; omega, by show slots + 18 + 0 + 0 ≤ 7302198; omega⟩) hA hL List.perm_append_comm List.perm_append_comm ?_
  intro H locs hL
  change LWd D A (wL gm ca gq cq o cO st' ms' f') s.heap H locs at hL
  refine lv_iload hx hb dw_579 (lv_at hl 1 rfl) ?_
  refine lv_icmp_eq (tgt := 586) hx hb dw_581 (by decide) (fun _ => ?_) (fun c0 => absurd rfl c0)
  refine lv_iload hx hb dw_586 (lv_at hl 1 rfl) ?_
  refine lv_if_ne (tgt := 603) hx hb dw_588 (by decide) (fun c1 => ?_) (fun c1 => ?_)
  ·
    refine lv_goto (tgt := 1125) hx hb dw_603 (by decide) ?_
    refine W.widen (k := cells + 4) (n := slots + 24) (by show cells + 3 + 0 + 0 ≤ cells + 4; omega) (by show slots + 18 + 0 + 0 ≤ slots + 24; omega) ?_
    exact kk _ _ _ hL (lv_sub hl [2, 3, 4, 5, 6] rfl)
  ·
    refine lv_aload_n hx hb dw_591 rfl (lv_at hl 5 rfl) ?_
    refine lv_iconst (v := 0) hx hb dw_592 rfl ?_
    refine va_lald hx hb hkO.1 hL.1 0 0 rfl rfl (by unfold vp_in; decide) dw_593 ?_
    refine lv_iload hx hb dw_594 (lv_at hl 0 rfl) ?_
    refine lv_i2l hx hb dw_596 rfl ?_
    refine W.lcmp hx hb dw_597 ?_
    refine lv_if_eq (tgt := 603) hx hb dw_598 (by decide) (fun _ => ?_) (fun c0 => absurd (lgc_eq.mpr (hE c1)) c0)
    refine lv_goto (tgt := 1125) hx hb dw_603 (by decide) ?_
    refine W.widen (k := cells + 4) (n := slots + 24) (by show cells + 3 + 0 + 0 ≤ cells + 4; omega) (by show slots + 18 + 0 + 0 ≤ slots + 24; omega) ?_
    exact kk _ _ _ hL (lv_sub hl [2, 3, 4, 5, 6] rfl)
theorem wl_case7 {p : Program} {l : Launch} {e : Env} {s : State} {m : MethodId} {args : Array Value} {below : List Frame} {meth : Method} {c : Code} {H : Heap} {locs : List Loc} {cells slots : Nat} {Q : State → Prop} {ls : Array Slot} {D : va_G} {A : Nat → Prop} {b L : Nat} {xs : Nat → Int32} {gm gq : Nat → Nat} {ca cq : Nat → ClassId} {o : Nat} {cO : ClassId} {st st' : BSt} {ms ms' : MSt} {f f' : Nat → Int64} {i k : Int32} {y1 y2 : Int32} {z : Int32} (hC : LC p s m args c D A b L xs ca cq cO) (v1 : vp_in (i + 1) L) (e1 : xs (i + 1).toNatClampNeg = y1) (v2 : vp_in (i + 2) L) (e2 : xs (i + 2).toNatClampNeg = y2) (hW : LM l yl_same rml_same D (tysO ca cO) [.ref (gm 0), .int y1, .int y2, .ref o] (wO gm ca st o cO f) (XI k) (wO gm ca st' o cO f')) (hM : LM l ym_same rmm_same D (tysM cq) [.ref (gq 0), .int y1, .int y2] (wM gq cq ms) (XI z) (wM gq cq ms')) (hT : LM l ym_thrown rmm_thrown D (tysM cq) [.ref (gq 0)] (wM gq cq ms') (XI k) (wM gq cq ms')) (hE : k = 0 → f' 0 = if z = 0 then 0 else 1) (hce : cells + 4 ≤ 600002) (hsl : slots + 24 ≤ 7302198) (hL : LWd D A (wL gm ca gq cq o cO st ms f) s.heap H locs) (hl : lv_has ls 8 (lvL b gm gq o i))
    (kk : ∀ (H : Heap) (locs : List Loc) (ls : Array Slot), LWd D A (wL gm ca gq cq o cO st' ms' f') s.heap H locs → lv_has ls 8 (lvL b gm gq o i) → W p l e room_1 s m args below meth c H locs (cells + 4) (slots + 24) Q (F0 m 1125 ls [])) : W p l e room_1 s m args below meth c H locs cells slots Q (F0 m 606 ls []) := by
  obtain ⟨hx, hb, hml, hown, hts, hkO, hkM, hZ, hA, hX, hbl, hbA⟩ := id hC
  refine lv_aload_n hx hb dw_606 rfl (lv_at hl 1 rfl) ?_
  refine lv_aload_n hx hb dw_607 rfl (lv_at hl 0 rfl) ?_
  refine lv_iload hx hb dw_608 (lv_at hl 4 rfl) ?_
  refine lv_iconst (v := 1) hx hb dw_610 rfl ?_
  refine lv_iadd hx hb dw_611 ?_
  refine va_sld hx hb hX hbl hbA hL.2.2 v1 dw_612 ?_
  rw [e1]
  refine lv_aload_n hx hb dw_613 rfl (lv_at hl 0 rfl) ?_
  refine lv_iload hx hb dw_614 (lv_at hl 4 rfl) ?_
  refine lv_iconst (v := 2) hx hb dw_616 rfl ?_
  refine lv_iadd hx hb dw_617 ?_
  refine va_sld hx hb hX hbl hbA hL.2.2 v2 dw_618 ?_
  rw [e2]
  refine lv_aload_n hx hb dw_619 rfl (lv_at hl 3 rfl) ?_
  refine lm_v (wr := wM gq cq ms) (lm_runSW (n := 4) hW ⟨by decide, by decide⟩ mcl_same inl_law (by decide +kernel) ll_same ls_same hx hb hml hown hts hkO hZ hL (List.Perm.refl _) hl.1 rfl rfl (lv_room (Nat.le_of_ble_eq_true rfl)) dw_620 ⟨by show cells + 3 ≤ 600002; omega, by show slots + 18 ≤ 7302198; omega⟩) hA hL (List.Perm.refl _) (List.Perm.refl _) ?_
  intro H locs hL
  change LWd D A (wL gm ca gq cq o cO st' ms f') s.heap H locs at hL
  refine lv_istore (i := 5) (nL := 8) hx hb dw_623 hl (by decide) rfl ?_
  intro ls hl
  refine lv_aload_n hx hb dw_625 rfl (lv_at hl 3 rfl) ?_
  refine lv_aload_n hx hb dw_626 rfl (lv_at hl 1 rfl) ?_
  refine lv_iload hx hb dw_627 (lv_at hl 5 rfl) ?_
  refine lv_iconst (v := 1) hx hb dw_629 rfl ?_
  refine lv_iadd hx hb dw_630 ?_
  refine va_sld hx hb hX hbl hbA hL.2.2 v1 dw_631 ?_
  rw [e1]
  refine lv_aload_n hx hb dw_632 rfl (lv_at hl 1 rfl) ?_
  refine lv_iload hx hb dw_633 (lv_at hl 5 rfl) ?_
  refine lv_iconst (v := 2) hx hb dw_635 rfl ?_
  refine lv_iadd hx hb dw_636 ?_
  refine va_sld hx hb hX hbl hbA hL.2.2 v2 dw_637 ?_
  rw [e2]
  refine lm_v (wr := wO gm ca st' o cO f') (lm_runV (q0 := 0) (ci := 1) hM (cw_lm_same hts ⟨by decide, by decide⟩) hx hb hml hown hts hkM hZ hL List.perm_append_comm rfl rfl hl.1 rfl rfl (lv_room (Nat.le_of_ble_eq_true rfl)) dw_638 ⟨by show cells + 3 + 0 ≤ 600002; omega, by show slots + 18 + 0 ≤ 7302198; omega⟩) hA hL List.perm_append_comm List.perm_append_comm ?_
  intro H locs hL
  change LWd D A (wL gm ca gq cq o cO st' ms' f') s.heap H locs at hL
  refine lv_istore (i := 6) (nL := 8) hx hb dw_641 hl (by decide) rfl ?_
  intro ls hl
  refine lv_aload_n hx hb dw_643 rfl (lv_at hl 4 rfl) ?_
  refine lm_v (wr := wO gm ca st' o cO f') (lm_runV (q0 := 0) (ci := 1) hT (cw_lm_thrown hts ⟨by decide, by decide⟩) hx hb hml hown hts hkM hZ hL List.perm_append_comm rfl rfl hl.1 rfl rfl (lv_room (Nat.le_of_ble_eq_true rfl)) dw_644 ⟨by show cells + 3 + 0 + 0 ≤ 600002; omega, by show slots + 18 + 0 + 0 ≤ 7302198; omega⟩) hA hL List.perm_append_comm List.perm_append_comm ?_
  intro H locs hL
  change LWd D A (wL gm ca gq cq o cO st' ms' f') s.heap H locs at hL
  refine lv_iload hx hb dw_647 (lv_at hl 1 rfl) ?_
  refine lv_icmp_eq (tgt := 654) hx hb dw_649 (by decide) (fun _ => ?_) (fun c0 => absurd rfl c0)
  refine lv_iload hx hb dw_654 (lv_at hl 1 rfl) ?_
  refine lv_if_ne (tgt := 678) hx hb dw_656 (by decide) (fun c1 => ?_) (fun c1 => ?_)
  ·
    refine lv_goto (tgt := 1125) hx hb dw_678 (by decide) ?_
    refine W.widen (k := cells + 4) (n := slots + 24) (by show cells + 3 + 0 + 0 ≤ cells + 4; omega) (by show slots + 18 + 0 + 0 ≤ slots + 24; omega) ?_
    exact kk _ _ _ hL (lv_sub hl [2, 3, 4, 5, 6] rfl)
  ·
    refine lv_aload_n hx hb dw_659 rfl (lv_at hl 5 rfl) ?_
    refine lv_iconst (v := 0) hx hb dw_660 rfl ?_
    refine va_lald hx hb hkO.1 hL.1 0 0 rfl rfl (by unfold vp_in; decide) dw_661 ?_
    refine lv_iload hx hb dw_662 (lv_at hl 0 rfl) ?_
    refine lv_if_eq (tgt := 671) hx hb dw_664 (by decide) (fun c2 => ?_) (fun c2 => ?_)
    ·
      refine lv_lconst (v := 0) hx hb dw_671 rfl ?_
      refine W.lcmp hx hb dw_672 ?_
      refine lv_if_eq (tgt := 678) hx hb dw_673 (by decide) (fun _ => ?_) (fun c0 => absurd (lgc_eq.mpr ((hE c1).trans (if_pos c2))) c0)
      refine lv_goto (tgt := 1125) hx hb dw_678 (by decide) ?_
      refine W.widen (k := cells + 4) (n := slots + 24) (by show cells + 3 + 0 + 0 ≤ cells + 4; omega) (by show slots + 18 + 0 + 0 ≤ slots + 24; omega) ?_
      exact kk _ _ _ hL (lv_sub hl [2, 3, 4, 5, 6] rfl)
    ·
      refine lv_lconst (v := 1) hx hb dw_667 rfl ?_
      refine lv_goto (tgt := 672) hx hb dw_668 (by decide) ?_
      refine W.lcmp hx hb dw_672 ?_
      refine lv_if_eq (tgt := 678) hx hb dw_673 (by decide) (fun _ => ?_) (fun c0 => absurd (lgc_eq.mpr ((hE c1).trans (if_neg c2))) c0)
      refine lv_goto (tgt := 1125) hx hb dw_678 (by decide) ?_
      refine W.widen (k := cells + 4) (n := slots + 24) (by show cells + 3 + 0 + 0 ≤ cells + 4; omega) (by show slots + 18 + 0 + 0 ≤ slots + 24; omega) ?_
      exact kk _ _ _ hL (lv_sub hl [2, 3, 4, 5, 6] rfl)
theorem wl_case8 {p : Program} {l : Launch} {e : Env} {s : State} {m : MethodId} {args : Array Value} {below : List Frame} {meth : Method} {c : Code} {H : Heap} {locs : List Loc} {cells slots : Nat} {Q : State → Prop} {ls : Array Slot} {D : va_G} {A : Nat → Prop} {b L : Nat} {xs : Nat → Int32} {gm gq : Nat → Nat} {ca cq : Nat → ClassId} {o : Nat} {cO : ClassId} {st st' : BSt} {ms ms' : MSt} {f f' : Nat → Int64} {i k : Int32} {z : Int32} (hC : LC p s m args c D A b L xs ca cq cO)  (hW : LM l yl_free rml_free D (tysO ca cO) [.ref (gm 0), .ref o] (wO gm ca st o cO f) (XI k) (wO gm ca st' o cO f')) (hM : LM l ym_free rmm_free D (tysM cq) [.ref (gq 0)] (wM gq cq ms) (XI z) (wM gq cq ms')) (hT : LM l ym_thrown rmm_thrown D (tysM cq) [.ref (gq 0)] (wM gq cq ms') (XI k) (wM gq cq ms')) (hE : k = 0 → f' 0 = z.toInt64) (hce : cells + 4 ≤ 600002) (hsl : slots + 24 ≤ 7302198) (hL : LWd D A (wL gm ca gq cq o cO st ms f) s.heap H locs) (hl : lv_has ls 8 (lvL b gm gq o i))
    (kk : ∀ (H : Heap) (locs : List Loc) (ls : Array Slot), LWd D A (wL gm ca gq cq o cO st' ms' f') s.heap H locs → lv_has ls 8 (lvL b gm gq o i) → W p l e room_1 s m args below meth c H locs (cells + 4) (slots + 24) Q (F0 m 1125 ls [])) : W p l e room_1 s m args below meth c H locs cells slots Q (F0 m 681 ls []) := by
  obtain ⟨hx, hb, hml, hown, hts, hkO, hkM, hZ, hA, hX, hbl, hbA⟩ := id hC
  refine lv_aload_n hx hb dw_681 rfl (lv_at hl 1 rfl) ?_
  refine lv_aload_n hx hb dw_682 rfl (lv_at hl 3 rfl) ?_
  refine lm_v (wr := wM gq cq ms) (lm_runSW (n := 2) hW ⟨by decide, by decide⟩ mcl_free inl_law (by decide +kernel) ll_free ls_free hx hb hml hown hts hkO hZ hL (List.Perm.refl _) hl.1 rfl rfl (lv_room (Nat.le_of_ble_eq_true rfl)) dw_683 ⟨by show cells + 1 ≤ 600002; omega, by show slots + 6 ≤ 7302198; omega⟩) hA hL (List.Perm.refl _) (List.Perm.refl _) ?_
  intro H locs hL
  change LWd D A (wL gm ca gq cq o cO st' ms f') s.heap H locs at hL
  refine lv_istore (i := 5) (nL := 8) hx hb dw_686 hl (by decide) rfl ?_
  intro ls hl
  refine lv_aload_n hx hb dw_688 rfl (lv_at hl 3 rfl) ?_
  refine lm_v (wr := wO gm ca st' o cO f') (lm_runV (q0 := 0) (ci := 1) hM (cw_lm_free hts ⟨by decide, by decide⟩) hx hb hml hown hts hkM hZ hL List.perm_append_comm rfl rfl hl.1 rfl rfl (lv_room (Nat.le_of_ble_eq_true rfl)) dw_689 ⟨by show cells + 1 + 0 ≤ 600002; omega, by show slots + 6 + 0 ≤ 7302198; omega⟩) hA hL List.perm_append_comm List.perm_append_comm ?_
  intro H locs hL
  change LWd D A (wL gm ca gq cq o cO st' ms' f') s.heap H locs at hL
  refine lv_istore (i := 6) (nL := 8) hx hb dw_692 hl (by decide) rfl ?_
  intro ls hl
  refine lv_aload_n hx hb dw_694 rfl (lv_at hl 4 rfl) ?_
  refine lm_v (wr := wO gm ca st' o cO f') (lm_runV (q0 := 0) (ci := 1) hT (cw_lm_thrown hts ⟨by decide, by decide⟩) hx hb hml hown hts hkM hZ hL List.perm_append_comm rfl rfl hl.1 rfl rfl (lv_room (Nat.le_of_ble_eq_true rfl)) dw_695 ⟨by show cells + 1 + 0 + 0 ≤ 600002; omega, by show slots + 6 + 0 + 0 ≤ 7302198; omega⟩) hA hL List.perm_append_comm List.perm_append_comm ?_
  intro H locs hL
  change LWd D A (wL gm ca gq cq o cO st' ms' f') s.heap H locs at hL
  refine lv_iload hx hb dw_698 (lv_at hl 1 rfl) ?_
  refine lv_icmp_eq (tgt := 705) hx hb dw_700 (by decide) (fun _ => ?_) (fun c0 => absurd rfl c0)
  refine lv_iload hx hb dw_705 (lv_at hl 1 rfl) ?_
  refine lv_if_ne (tgt := 722) hx hb dw_707 (by decide) (fun c1 => ?_) (fun c1 => ?_)
  ·
    refine lv_goto (tgt := 1125) hx hb dw_722 (by decide) ?_
    refine W.widen (k := cells + 4) (n := slots + 24) (by show cells + 1 + 0 + 0 ≤ cells + 4; omega) (by show slots + 6 + 0 + 0 ≤ slots + 24; omega) ?_
    exact kk _ _ _ hL (lv_sub hl [2, 3, 4, 5, 6] rfl)
  ·
    refine lv_aload_n hx hb dw_710 rfl (lv_at hl 5 rfl) ?_
    refine lv_iconst (v := 0) hx hb dw_711 rfl ?_
    refine va_lald hx hb hkO.1 hL.1 0 0 rfl rfl (by unfold vp_in; decide) dw_712 ?_
    refine lv_iload hx hb dw_713 (lv_at hl 0 rfl) ?_
    refine lv_i2l hx hb dw_715 rfl ?_
    refine W.lcmp hx hb dw_716 ?_
    refine lv_if_eq (tgt := 722) hx hb dw_717 (by decide) (fun _ => ?_) (fun c0 => absurd (lgc_eq.mpr (hE c1)) c0)
    refine lv_goto (tgt := 1125) hx hb dw_722 (by decide) ?_
    refine W.widen (k := cells + 4) (n := slots + 24) (by show cells + 1 + 0 + 0 ≤ cells + 4; omega) (by show slots + 6 + 0 + 0 ≤ slots + 24; omega) ?_
    exact kk _ _ _ hL (lv_sub hl [2, 3, 4, 5, 6] rfl)
theorem wl_case9 {p : Program} {l : Launch} {e : Env} {s : State} {m : MethodId} {args : Array Value} {below : List Frame} {meth : Method} {c : Code} {H : Heap} {locs : List Loc} {cells slots : Nat} {Q : State → Prop} {ls : Array Slot} {D : va_G} {A : Nat → Prop} {b L : Nat} {xs : Nat → Int32} {gm gq : Nat → Nat} {ca cq : Nat → ClassId} {o : Nat} {cO : ClassId} {st st' : BSt} {ms ms' : MSt} {f f' : Nat → Int64} {i k : Int32} {y1 : Int32} {z : Int32} (hC : LC p s m args c D A b L xs ca cq cO) (v1 : vp_in (i + 1) L) (e1 : xs (i + 1).toNatClampNeg = y1) (hW : LM l yl_crash rml_crash D (tysO ca cO) [.ref (gm 0), .int y1, .ref o] (wO gm ca st o cO f) (XI k) (wO gm ca st' o cO f')) (hM : LM l ym_crash rmm_crash D (tysM cq) [.ref (gq 0), .int y1] (wM gq cq ms) (XI z) (wM gq cq ms')) (hT : LM l ym_thrown rmm_thrown D (tysM cq) [.ref (gq 0)] (wM gq cq ms') (XI k) (wM gq cq ms')) (hE : k = 0 → f' 0 = z.toInt64) (hce : cells + 4 ≤ 600002) (hsl : slots + 24 ≤ 7302198) (hL : LWd D A (wL gm ca gq cq o cO st ms f) s.heap H locs) (hl : lv_has ls 8 (lvL b gm gq o i))
    (kk : ∀ (H : Heap) (locs : List Loc) (ls : Array Slot), LWd D A (wL gm ca gq cq o cO st' ms' f') s.heap H locs → lv_has ls 8 (lvL b gm gq o i) → W p l e room_1 s m args below meth c H locs (cells + 4) (slots + 24) Q (F0 m 1125 ls [])) : W p l e room_1 s m args below meth c H locs cells slots Q (F0 m 725 ls []) := by
  obtain ⟨hx, hb, hml, hown, hts, hkO, hkM, hZ, hA, hX, hbl, hbA⟩ := id hC
  refine lv_aload_n hx hb dw_725 rfl (lv_at hl 1 rfl) ?_
  refine lv_aload_n hx hb dw_726 rfl (lv_at hl 0 rfl) ?_
  refine lv_iload hx hb dw_727 (lv_at hl 4 rfl) ?_
  refine lv_iconst (v := 1) hx hb dw_729 rfl ?_
  refine lv_iadd hx hb dw_730 ?_
  refine va_sld hx hb hX hbl hbA hL.2.2 v1 dw_731 ?_
  rw [e1]
  refine lv_aload_n hx hb dw_732 rfl (lv_at hl 3 rfl) ?_
  refine lm_v (wr := wM gq cq ms) (lm_runSW (n := 3) hW ⟨by decide, by decide⟩ mcl_crash inl_law (by decide +kernel) ll_crash ls_crash hx hb hml hown hts hkO hZ hL (List.Perm.refl _) hl.1 rfl rfl (lv_room (Nat.le_of_ble_eq_true rfl)) dw_733 ⟨by show cells + 2 ≤ 600002; omega, by show slots + 12 ≤ 7302198; omega⟩) hA hL (List.Perm.refl _) (List.Perm.refl _) ?_
  intro H locs hL
  change LWd D A (wL gm ca gq cq o cO st' ms f') s.heap H locs at hL
  refine lv_istore (i := 5) (nL := 8) hx hb dw_736 hl (by decide) rfl ?_
  intro ls hl
  refine lv_aload_n hx hb dw_738 rfl (lv_at hl 3 rfl) ?_
  refine lv_aload_n hx hb dw_739 rfl (lv_at hl 1 rfl) ?_
  refine lv_iload hx hb dw_740 (lv_at hl 5 rfl) ?_
  refine lv_iconst (v := 1) hx hb dw_742 rfl ?_
  refine lv_iadd hx hb dw_743 ?_
  refine va_sld hx hb hX hbl hbA hL.2.2 v1 dw_744 ?_
  rw [e1]
  refine lm_v (wr := wO gm ca st' o cO f') (lm_runV (q0 := 0) (ci := 1) hM (cw_lm_crash hts ⟨by decide, by decide⟩) hx hb hml hown hts hkM hZ hL List.perm_append_comm rfl rfl hl.1 rfl rfl (lv_room (Nat.le_of_ble_eq_true rfl)) dw_745 ⟨by show cells + 2 + 0 ≤ 600002; omega, by show slots + 12 + 0 ≤ 7302198; omega⟩) hA hL List.perm_append_comm List.perm_append_comm ?_
  intro H locs hL
  change LWd D A (wL gm ca gq cq o cO st' ms' f') s.heap H locs at hL
  refine lv_istore (i := 6) (nL := 8) hx hb dw_748 hl (by decide) rfl ?_
  intro ls hl
  refine lv_aload_n hx hb dw_750 rfl (lv_at hl 4 rfl) ?_
  refine lm_v (wr := wO gm ca st' o cO f') (lm_runV (q0 := 0) (ci := 1) hT (cw_lm_thrown hts ⟨by decide, by decide⟩) hx hb hml hown hts hkM hZ hL List.perm_append_comm rfl rfl hl.1 rfl rfl (lv_room (Nat.le_of_ble_eq_true rfl)) dw_751 ⟨by show cells + 2 + 0 + 0 ≤ 600002; omega, by show slots + 12 + 0 + 0 ≤ 7302198; omega⟩) hA hL List.perm_append_comm List.perm_append_comm ?_
  intro H locs hL
  change LWd D A (wL gm ca gq cq o cO st' ms' f') s.heap H locs at hL
  refine lv_iload hx hb dw_754 (lv_at hl 1 rfl) ?_
  refine lv_icmp_eq (tgt := 761) hx hb dw_756 (by decide) (fun _ => ?_) (fun c0 => absurd rfl c0)
  refine lv_iload hx hb dw_761 (lv_at hl 1 rfl) ?_
  refine lv_if_ne (tgt := 778) hx hb dw_763 (by decide) (fun c1 => ?_) (fun c1 => ?_)
  ·
    refine lv_goto (tgt := 1125) hx hb dw_778 (by decide) ?_
    refine W.widen (k := cells + 4) (n := slots + 24) (by show cells + 2 + 0 + 0 ≤ cells + 4; omega) (by show slots + 12 + 0 + 0 ≤ slots + 24; omega) ?_
    exact kk _ _ _ hL (lv_sub hl [2, 3, 4, 5, 6] rfl)
  ·
    refine lv_aload_n hx hb dw_766 rfl (lv_at hl 5 rfl) ?_
    refine lv_iconst (v := 0) hx hb dw_767 rfl ?_
    refine va_lald hx hb hkO.1 hL.1 0 0 rfl rfl (by unfold vp_in; decide) dw_768 ?_
    refine lv_iload hx hb dw_769 (lv_at hl 0 rfl) ?_
    refine lv_i2l hx hb dw_771 rfl ?_
    refine W.lcmp hx hb dw_772 ?_
    refine lv_if_eq (tgt := 778) hx hb dw_773 (by decide) (fun _ => ?_) (fun c0 => absurd (lgc_eq.mpr (hE c1)) c0)
    refine lv_goto (tgt := 1125) hx hb dw_778 (by decide) ?_
    refine W.widen (k := cells + 4) (n := slots + 24) (by show cells + 2 + 0 + 0 ≤ cells + 4; omega) (by show slots + 12 + 0 + 0 ≤ slots + 24; omega) ?_
    exact kk _ _ _ hL (lv_sub hl [2, 3, 4, 5, 6] rfl)
theorem wl_case10 {p : Program} {l : Launch} {e : Env} {s : State} {m : MethodId} {args : Array Value} {below : List Frame} {meth : Method} {c : Code} {H : Heap} {locs : List Loc} {cells slots : Nat} {Q : State → Prop} {ls : Array Slot} {D : va_G} {A : Nat → Prop} {b L : Nat} {xs : Nat → Int32} {gm gq : Nat → Nat} {ca cq : Nat → ClassId} {o : Nat} {cO : ClassId} {st st' : BSt} {ms ms' : MSt} {f : Nat → Int64} {i : Int32} {z : Int32} (hC : LC p s m args c D A b L xs ca cq cO)  (hW : LM l yb_reopen rmb_reopen D (tysB ca) [.ref (gm 0)] (wB gm ca st) (XI z) (wB gm ca st')) (hM : LM l ym_reopen rmm_reopen D (tysM cq) [.ref (gq 0)] (wM gq cq ms) (XI z) (wM gq cq ms')) (hce : cells + 4 ≤ 600002) (hsl : slots + 24 ≤ 7302198) (hL : LWd D A (wL gm ca gq cq o cO st ms f) s.heap H locs) (hl : lv_has ls 8 (lvL b gm gq o i))
    (kk : ∀ (H : Heap) (locs : List Loc) (ls : Array Slot), LWd D A (wL gm ca gq cq o cO st' ms' f) s.heap H locs → lv_has ls 8 (lvL b gm gq o i) → W p l e room_1 s m args below meth c H locs (cells + 4) (slots + 24) Q (F0 m 1125 ls [])) : W p l e room_1 s m args below meth c H locs cells slots Q (F0 m 781 ls []) := by
  obtain ⟨hx, hb, hml, hown, hts, hkO, hkM, hZ, hA, hX, hbl, hbA⟩ := id hC
  refine lv_aload_n hx hb dw_781 rfl (lv_at hl 1 rfl) ?_
  refine lm_v (wr := wM gq cq ms ++ [eO o cO f]) (lm_runV (q0 := 0) (ci := 0) hW (cw_l_reopen hts ⟨by decide, by decide⟩) hx hb hml hown hts hkO.tail hZ hL wL_b rfl rfl hl.1 rfl rfl (lv_room (Nat.le_of_ble_eq_true rfl)) dw_782 ⟨by show cells + 0 ≤ 600002; omega, by show slots + 0 ≤ 7302198; omega⟩) hA hL wL_b wL_b.symm ?_
  intro H locs hL
  refine lv_aload_n hx hb dw_785 rfl (lv_at hl 2 rfl) ?_
  refine lm_v (wr := wO gm ca st' o cO f) (lm_runV (q0 := 0) (ci := 1) hM (cw_lm_reopen hts ⟨by decide, by decide⟩) hx hb hml hown hts hkM hZ hL List.perm_append_comm rfl rfl hl.1 rfl rfl (lv_room (Nat.le_of_ble_eq_true rfl)) dw_786 ⟨by show cells + 0 + 0 ≤ 600002; omega, by show slots + 0 + 0 ≤ 7302198; omega⟩) hA hL List.perm_append_comm List.perm_append_comm ?_
  intro H locs hL
  change LWd D A (wL gm ca gq cq o cO st' ms' f) s.heap H locs at hL
  refine lv_icmp_eq (tgt := 1125) hx hb dw_789 (by decide) (fun _ => ?_) (fun c0 => absurd rfl c0)
  refine W.widen (k := cells + 4) (n := slots + 24) (by show cells + 0 + 0 ≤ cells + 4; omega) (by show slots + 0 + 0 ≤ slots + 24; omega) ?_
  exact kk _ _ _ hL (lv_sub hl [0, 1, 2, 3, 4] rfl)
theorem wl_case11 {p : Program} {l : Launch} {e : Env} {s : State} {m : MethodId} {args : Array Value} {below : List Frame} {meth : Method} {c : Code} {H : Heap} {locs : List Loc} {cells slots : Nat} {Q : State → Prop} {ls : Array Slot} {D : va_G} {A : Nat → Prop} {b L : Nat} {xs : Nat → Int32} {gm gq : Nat → Nat} {ca cq : Nat → ClassId} {o : Nat} {cO : ClassId} {st st' : BSt} {ms ms' : MSt} {f f' : Nat → Int64} {i k : Int32} {y1 y2 : Int32} {z : Int64} (hC : LC p s m args c D A b L xs ca cq cO) (v1 : vp_in (i + 1) L) (e1 : xs (i + 1).toNatClampNeg = y1) (v2 : vp_in (i + 2) L) (e2 : xs (i + 2).toNatClampNeg = y2) (hW : LM l yl_wordAt rml_wordAt D (tysO ca cO) [.ref (gm 0), .int y1, .int y2, .ref o] (wO gm ca st o cO f) (XI k) (wO gm ca st' o cO f')) (hM : LM l ym_wordAt rmm_wordAt D (tysM cq) [.ref (gq 0), .int y1, .int y2] (wM gq cq ms) (XL z) (wM gq cq ms')) (hT : LM l ym_thrown rmm_thrown D (tysM cq) [.ref (gq 0)] (wM gq cq ms') (XI k) (wM gq cq ms')) (hE : k = 0 → f' 0 = z) (hce : cells + 4 ≤ 600002) (hsl : slots + 24 ≤ 7302198) (hL : LWd D A (wL gm ca gq cq o cO st ms f) s.heap H locs) (hl : lv_has ls 8 (lvL b gm gq o i))
    (kk : ∀ (H : Heap) (locs : List Loc) (ls : Array Slot), LWd D A (wL gm ca gq cq o cO st' ms' f') s.heap H locs → lv_has ls 8 (lvL b gm gq o i) → W p l e room_1 s m args below meth c H locs (cells + 4) (slots + 24) Q (F0 m 1125 ls [])) : W p l e room_1 s m args below meth c H locs cells slots Q (F0 m 794 ls []) := by
  obtain ⟨hx, hb, hml, hown, hts, hkO, hkM, hZ, hA, hX, hbl, hbA⟩ := id hC
  refine lv_aload_n hx hb dw_794 rfl (lv_at hl 1 rfl) ?_
  refine lv_aload_n hx hb dw_795 rfl (lv_at hl 0 rfl) ?_
  refine lv_iload hx hb dw_796 (lv_at hl 4 rfl) ?_
  refine lv_iconst (v := 1) hx hb dw_798 rfl ?_
  refine lv_iadd hx hb dw_799 ?_
  refine va_sld hx hb hX hbl hbA hL.2.2 v1 dw_800 ?_
  rw [e1]
  refine lv_aload_n hx hb dw_801 rfl (lv_at hl 0 rfl) ?_
  refine lv_iload hx hb dw_802 (lv_at hl 4 rfl) ?_
  refine lv_iconst (v := 2) hx hb dw_804 rfl ?_
  refine lv_iadd hx hb dw_805 ?_
  refine va_sld hx hb hX hbl hbA hL.2.2 v2 dw_806 ?_
  rw [e2]
  refine lv_aload_n hx hb dw_807 rfl (lv_at hl 3 rfl) ?_
  refine lm_v (wr := wM gq cq ms) (lm_runSW (n := 4) hW ⟨by decide, by decide⟩ mcl_wordAt inl_law (by decide +kernel) ll_wordAt ls_wordAt hx hb hml hown hts hkO hZ hL (List.Perm.refl _) hl.1 rfl rfl (lv_room (Nat.le_of_ble_eq_true rfl)) dw_808 ⟨by show cells + 1 ≤ 600002; omega, by show slots + 6 ≤ 7302198; omega⟩) hA hL (List.Perm.refl _) (List.Perm.refl _) ?_
  intro H locs hL
  change LWd D A (wL gm ca gq cq o cO st' ms f') s.heap H locs at hL
  refine lv_istore (i := 5) (nL := 8) hx hb dw_811 hl (by decide) rfl ?_
  intro ls hl
  refine lv_aload_n hx hb dw_813 rfl (lv_at hl 3 rfl) ?_
  refine lv_aload_n hx hb dw_814 rfl (lv_at hl 1 rfl) ?_
  refine lv_iload hx hb dw_815 (lv_at hl 5 rfl) ?_
  refine lv_iconst (v := 1) hx hb dw_817 rfl ?_
  refine lv_iadd hx hb dw_818 ?_
  refine va_sld hx hb hX hbl hbA hL.2.2 v1 dw_819 ?_
  rw [e1]
  refine lv_aload_n hx hb dw_820 rfl (lv_at hl 1 rfl) ?_
  refine lv_iload hx hb dw_821 (lv_at hl 5 rfl) ?_
  refine lv_iconst (v := 2) hx hb dw_823 rfl ?_
  refine lv_iadd hx hb dw_824 ?_
  refine va_sld hx hb hX hbl hbA hL.2.2 v2 dw_825 ?_
  rw [e2]
  refine lm_v (wr := wO gm ca st' o cO f') (lm_runV (q0 := 0) (ci := 1) hM (cw_lm_wordAt hts ⟨by decide, by decide⟩) hx hb hml hown hts hkM hZ hL List.perm_append_comm rfl rfl hl.1 rfl rfl (lv_room (Nat.le_of_ble_eq_true rfl)) dw_826 ⟨by show cells + 1 + 0 ≤ 600002; omega, by show slots + 6 + 0 ≤ 7302198; omega⟩) hA hL List.perm_append_comm List.perm_append_comm ?_
  intro H locs hL
  change LWd D A (wL gm ca gq cq o cO st' ms' f') s.heap H locs at hL
  refine lv_lstore (i := 6) (nL := 8) hx hb dw_829 hl (by decide) rfl ?_
  intro ls hl
  refine lv_aload_n hx hb dw_831 rfl (lv_at hl 4 rfl) ?_
  refine lm_v (wr := wO gm ca st' o cO f') (lm_runV (q0 := 0) (ci := 1) hT (cw_lm_thrown hts ⟨by decide, by decide⟩) hx hb hml hown hts hkM hZ hL List.perm_append_comm rfl rfl hl.1 rfl rfl (lv_room (Nat.le_of_ble_eq_true rfl)) dw_832 ⟨by show cells + 1 + 0 + 0 ≤ 600002; omega, by show slots + 6 + 0 + 0 ≤ 7302198; omega⟩) hA hL List.perm_append_comm List.perm_append_comm ?_
  intro H locs hL
  change LWd D A (wL gm ca gq cq o cO st' ms' f') s.heap H locs at hL
  refine lv_iload hx hb dw_835 (lv_at hl 1 rfl) ?_
  refine lv_icmp_eq (tgt := 842) hx hb dw_837 (by decide) (fun _ => ?_) (fun c0 => absurd rfl c0)
  refine lv_iload hx hb dw_842 (lv_at hl 1 rfl) ?_
  refine lv_if_ne (tgt := 858) hx hb dw_844 (by decide) (fun c1 => ?_) (fun c1 => ?_)
  ·
    refine lv_goto (tgt := 1125) hx hb dw_858 (by decide) ?_
    refine W.widen (k := cells + 4) (n := slots + 24) (by show cells + 1 + 0 + 0 ≤ cells + 4; omega) (by show slots + 6 + 0 + 0 ≤ slots + 24; omega) ?_
    exact kk _ _ _ hL (lv_sub hl [2, 3, 4, 5, 6] rfl)
  ·
    refine lv_aload_n hx hb dw_847 rfl (lv_at hl 5 rfl) ?_
    refine lv_iconst (v := 0) hx hb dw_848 rfl ?_
    refine va_lald hx hb hkO.1 hL.1 0 0 rfl rfl (by unfold vp_in; decide) dw_849 ?_
    refine lv_lload hx hb dw_850 (lv_at hl 0 rfl) ?_
    refine W.lcmp hx hb dw_852 ?_
    refine lv_if_eq (tgt := 858) hx hb dw_853 (by decide) (fun _ => ?_) (fun c0 => absurd (lgc_eq.mpr (hE c1)) c0)
    refine lv_goto (tgt := 1125) hx hb dw_858 (by decide) ?_
    refine W.widen (k := cells + 4) (n := slots + 24) (by show cells + 1 + 0 + 0 ≤ cells + 4; omega) (by show slots + 6 + 0 + 0 ≤ slots + 24; omega) ?_
    exact kk _ _ _ hL (lv_sub hl [2, 3, 4, 5, 6] rfl)
theorem wl_case12 {p : Program} {l : Launch} {e : Env} {s : State} {m : MethodId} {args : Array Value} {below : List Frame} {meth : Method} {c : Code} {H : Heap} {locs : List Loc} {cells slots : Nat} {Q : State → Prop} {ls : Array Slot} {D : va_G} {A : Nat → Prop} {b L : Nat} {xs : Nat → Int32} {gm gq : Nat → Nat} {ca cq : Nat → ClassId} {o : Nat} {cO : ClassId} {st st' : BSt} {ms ms' : MSt} {f f' : Nat → Int64} {i k : Int32} {y1 y2 : Int32} {z : Int64} (hC : LC p s m args c D A b L xs ca cq cO) (v1 : vp_in (i + 1) L) (e1 : xs (i + 1).toNatClampNeg = y1) (v2 : vp_in (i + 2) L) (e2 : xs (i + 2).toNatClampNeg = y2) (hW : LM l yl_rootAt rml_rootAt D (tysO ca cO) [.ref (gm 0), .int y1, .int y2, .ref o] (wO gm ca st o cO f) (XI k) (wO gm ca st' o cO f')) (hM : LM l ym_rootAt rmm_rootAt D (tysM cq) [.ref (gq 0), .int y1, .int y2] (wM gq cq ms) (XL z) (wM gq cq ms')) (hT : LM l ym_thrown rmm_thrown D (tysM cq) [.ref (gq 0)] (wM gq cq ms') (XI k) (wM gq cq ms')) (hE : k = 0 → f' 0 = z) (hce : cells + 4 ≤ 600002) (hsl : slots + 24 ≤ 7302198) (hL : LWd D A (wL gm ca gq cq o cO st ms f) s.heap H locs) (hl : lv_has ls 8 (lvL b gm gq o i))
    (kk : ∀ (H : Heap) (locs : List Loc) (ls : Array Slot), LWd D A (wL gm ca gq cq o cO st' ms' f') s.heap H locs → lv_has ls 8 (lvL b gm gq o i) → W p l e room_1 s m args below meth c H locs (cells + 4) (slots + 24) Q (F0 m 1125 ls [])) : W p l e room_1 s m args below meth c H locs cells slots Q (F0 m 861 ls []) := by
  obtain ⟨hx, hb, hml, hown, hts, hkO, hkM, hZ, hA, hX, hbl, hbA⟩ := id hC
  refine lv_aload_n hx hb dw_861 rfl (lv_at hl 1 rfl) ?_
  refine lv_aload_n hx hb dw_862 rfl (lv_at hl 0 rfl) ?_
  refine lv_iload hx hb dw_863 (lv_at hl 4 rfl) ?_
  refine lv_iconst (v := 1) hx hb dw_865 rfl ?_
  refine lv_iadd hx hb dw_866 ?_
  refine va_sld hx hb hX hbl hbA hL.2.2 v1 dw_867 ?_
  rw [e1]
  refine lv_aload_n hx hb dw_868 rfl (lv_at hl 0 rfl) ?_
  refine lv_iload hx hb dw_869 (lv_at hl 4 rfl) ?_
  refine lv_iconst (v := 2) hx hb dw_871 rfl ?_
  refine lv_iadd hx hb dw_872 ?_
  refine va_sld hx hb hX hbl hbA hL.2.2 v2 dw_873 ?_
  rw [e2]
  refine lv_aload_n hx hb dw_874 rfl (lv_at hl 3 rfl) ?_
  refine lm_v (wr := wM gq cq ms) (lm_runSW (n := 4) hW ⟨by decide, by decide⟩ mcl_rootAt inl_law (by decide +kernel) ll_rootAt ls_rootAt hx hb hml hown hts hkO hZ hL (List.Perm.refl _) hl.1 rfl rfl (lv_room (Nat.le_of_ble_eq_true rfl)) dw_875 ⟨by show cells + 1 ≤ 600002; omega, by show slots + 6 ≤ 7302198; omega⟩) hA hL (List.Perm.refl _) (List.Perm.refl _) ?_
  intro H locs hL
  change LWd D A (wL gm ca gq cq o cO st' ms f') s.heap H locs at hL
  refine lv_istore (i := 5) (nL := 8) hx hb dw_878 hl (by decide) rfl ?_
  intro ls hl
  refine lv_aload_n hx hb dw_880 rfl (lv_at hl 3 rfl) ?_
  refine lv_aload_n hx hb dw_881 rfl (lv_at hl 1 rfl) ?_
  refine lv_iload hx hb dw_882 (lv_at hl 5 rfl) ?_
  refine lv_iconst (v := 1) hx hb dw_884 rfl ?_
  refine lv_iadd hx hb dw_885 ?_
  refine va_sld hx hb hX hbl hbA hL.2.2 v1 dw_886 ?_
  rw [e1]
  refine lv_aload_n hx hb dw_887 rfl (lv_at hl 1 rfl) ?_
  refine lv_iload hx hb dw_888 (lv_at hl 5 rfl) ?_
  refine lv_iconst (v := 2) hx hb dw_890 rfl ?_
  refine lv_iadd hx hb dw_891 ?_
  refine va_sld hx hb hX hbl hbA hL.2.2 v2 dw_892 ?_
  rw [e2]
  refine lm_v (wr := wO gm ca st' o cO f') (lm_runV (q0 := 0) (ci := 1) hM (cw_lm_rootAt hts ⟨by decide, by decide⟩) hx hb hml hown hts hkM hZ hL List.perm_append_comm rfl rfl hl.1 rfl rfl (lv_room (Nat.le_of_ble_eq_true rfl)) dw_893 ⟨by show cells + 1 + 0 ≤ 600002; omega, by show slots + 6 + 0 ≤ 7302198; omega⟩) hA hL List.perm_append_comm List.perm_append_comm ?_
  intro H locs hL
  change LWd D A (wL gm ca gq cq o cO st' ms' f') s.heap H locs at hL
  refine lv_lstore (i := 6) (nL := 8) hx hb dw_896 hl (by decide) rfl ?_
  intro ls hl
  refine lv_aload_n hx hb dw_898 rfl (lv_at hl 4 rfl) ?_
  refine lm_v (wr := wO gm ca st' o cO f') (lm_runV (q0 := 0) (ci := 1) hT (cw_lm_thrown hts ⟨by decide, by decide⟩) hx hb hml hown hts hkM hZ hL List.perm_append_comm rfl rfl hl.1 rfl rfl (lv_room (Nat.le_of_ble_eq_true rfl)) dw_899 ⟨by show cells + 1 + 0 + 0 ≤ 600002; omega, by show slots + 6 + 0 + 0 ≤ 7302198; omega⟩) hA hL List.perm_append_comm List.perm_append_comm ?_
  intro H locs hL
  change LWd D A (wL gm ca gq cq o cO st' ms' f') s.heap H locs at hL
  refine lv_iload hx hb dw_902 (lv_at hl 1 rfl) ?_
  refine lv_icmp_eq (tgt := 909) hx hb dw_904 (by decide) (fun _ => ?_) (fun c0 => absurd rfl c0)
  refine lv_iload hx hb dw_909 (lv_at hl 1 rfl) ?_
  refine lv_if_ne (tgt := 925) hx hb dw_911 (by decide) (fun c1 => ?_) (fun c1 => ?_)
  ·
    refine lv_goto (tgt := 1125) hx hb dw_925 (by decide) ?_
    refine W.widen (k := cells + 4) (n := slots + 24) (by show cells + 1 + 0 + 0 ≤ cells + 4; omega) (by show slots + 6 + 0 + 0 ≤ slots + 24; omega) ?_
    exact kk _ _ _ hL (lv_sub hl [2, 3, 4, 5, 6] rfl)
  ·
    refine lv_aload_n hx hb dw_914 rfl (lv_at hl 5 rfl) ?_
    refine lv_iconst (v := 0) hx hb dw_915 rfl ?_
    refine va_lald hx hb hkO.1 hL.1 0 0 rfl rfl (by unfold vp_in; decide) dw_916 ?_
    refine lv_lload hx hb dw_917 (lv_at hl 0 rfl) ?_
    refine W.lcmp hx hb dw_919 ?_
    refine lv_if_eq (tgt := 925) hx hb dw_920 (by decide) (fun _ => ?_) (fun c0 => absurd (lgc_eq.mpr (hE c1)) c0)
    refine lv_goto (tgt := 1125) hx hb dw_925 (by decide) ?_
    refine W.widen (k := cells + 4) (n := slots + 24) (by show cells + 1 + 0 + 0 ≤ cells + 4; omega) (by show slots + 6 + 0 + 0 ≤ slots + 24; omega) ?_
    exact kk _ _ _ hL (lv_sub hl [2, 3, 4, 5, 6] rfl)
theorem wl_case13 {p : Program} {l : Launch} {e : Env} {s : State} {m : MethodId} {args : Array Value} {below : List Frame} {meth : Method} {c : Code} {H : Heap} {locs : List Loc} {cells slots : Nat} {Q : State → Prop} {ls : Array Slot} {D : va_G} {A : Nat → Prop} {b L : Nat} {xs : Nat → Int32} {gm gq : Nat → Nat} {ca cq : Nat → ClassId} {o : Nat} {cO : ClassId} {st st' : BSt} {ms ms' : MSt} {f : Nat → Int64} {i k : Int32} {y1 y2 y3 y4 : Int32} (hC : LC p s m args c D A b L xs ca cq cO) (v1 : vp_in (i + 1) L) (e1 : xs (i + 1).toNatClampNeg = y1) (v2 : vp_in (i + 2) L) (e2 : xs (i + 2).toNatClampNeg = y2) (v3 : vp_in (i + 3) L) (e3 : xs (i + 3).toNatClampNeg = y3) (v4 : vp_in (i + 4) L) (e4 : xs (i + 4).toNatClampNeg = y4) (hW : LM l yl_poke rml_poke D (tysO ca cO) [.ref (gm 0), .int y1, .int y2, .long (lvl y3 y4)] (wO gm ca st o cO f) (XI k) (wO gm ca st' o cO f)) (hM : LM l ym_poke rmm_poke D (tysM cq) [.ref (gq 0), .int y1, .int y2, .long (lvl y3 y4)] (wM gq cq ms) (XV) (wM gq cq ms')) (hT : LM l ym_thrown rmm_thrown D (tysM cq) [.ref (gq 0)] (wM gq cq ms') (XI k) (wM gq cq ms')) (hce : cells + 4 ≤ 600002) (hsl : slots + 24 ≤ 7302198) (hL : LWd D A (wL gm ca gq cq o cO st ms f) s.heap H locs) (hl : lv_has ls 8 (lvL b gm gq o i))
    (kk : ∀ (H : Heap) (locs : List Loc) (ls : Array Slot), LWd D A (wL gm ca gq cq o cO st' ms' f) s.heap H locs → lv_has ls 8 (lvL b gm gq o i) → W p l e room_1 s m args below meth c H locs (cells + 4) (slots + 24) Q (F0 m 1125 ls [])) : W p l e room_1 s m args below meth c H locs cells slots Q (F0 m 928 ls []) := by
  obtain ⟨hx, hb, hml, hown, hts, hkO, hkM, hZ, hA, hX, hbl, hbA⟩ := id hC
  refine lv_aload_n hx hb dw_928 rfl (lv_at hl 1 rfl) ?_
  refine lv_aload_n hx hb dw_929 rfl (lv_at hl 0 rfl) ?_
  refine lv_iload hx hb dw_930 (lv_at hl 4 rfl) ?_
  refine lv_iconst (v := 1) hx hb dw_932 rfl ?_
  refine lv_iadd hx hb dw_933 ?_
  refine va_sld hx hb hX hbl hbA hL.2.2 v1 dw_934 ?_
  rw [e1]
  refine lv_aload_n hx hb dw_935 rfl (lv_at hl 0 rfl) ?_
  refine lv_iload hx hb dw_936 (lv_at hl 4 rfl) ?_
  refine lv_iconst (v := 2) hx hb dw_938 rfl ?_
  refine lv_iadd hx hb dw_939 ?_
  refine va_sld hx hb hX hbl hbA hL.2.2 v2 dw_940 ?_
  rw [e2]
  refine lv_aload_n hx hb dw_941 rfl (lv_at hl 0 rfl) ?_
  refine lv_iload hx hb dw_942 (lv_at hl 4 rfl) ?_
  refine lv_iconst (v := 3) hx hb dw_944 rfl ?_
  refine lv_iadd hx hb dw_945 ?_
  refine va_sld hx hb hX hbl hbA hL.2.2 v3 dw_946 ?_
  rw [e3]
  refine lv_i2l hx hb dw_947 rfl ?_
  refine lv_bipush (v := 32) hx hb dw_948 (by decide) ?_
  refine lv_lshl hx hb dw_950 rfl ?_
  refine lv_aload_n hx hb dw_951 rfl (lv_at hl 0 rfl) ?_
  refine lv_iload hx hb dw_952 (lv_at hl 4 rfl) ?_
  refine lv_iconst (v := 4) hx hb dw_954 rfl ?_
  refine lv_iadd hx hb dw_955 ?_
  refine va_sld hx hb hX hbl hbA hL.2.2 v4 dw_956 ?_
  rw [e4]
  refine lv_i2l hx hb dw_957 rfl ?_
  refine lv_ldc2 hx hb hown (kcl_76 hts) dw_958 ?_
  refine lv_land hx hb dw_961 ?_
  refine lv_lor hx hb dw_962 ?_
  refine lm_v (wr := wM gq cq ms) (lm_runSW (n := 4) hW ⟨by decide, by decide⟩ mcl_poke inl_law (by decide +kernel) ll_poke ls_poke hx hb hml hown hts hkO hZ hL (List.Perm.refl _) hl.1 rfl rfl (lv_room (Nat.le_of_ble_eq_true rfl)) dw_963 ⟨by show cells + 2 ≤ 600002; omega, by show slots + 12 ≤ 7302198; omega⟩) hA hL (List.Perm.refl _) (List.Perm.refl _) ?_
  intro H locs hL
  change LWd D A (wL gm ca gq cq o cO st' ms f) s.heap H locs at hL
  refine lv_istore (i := 5) (nL := 8) hx hb dw_966 hl (by decide) rfl ?_
  intro ls hl
  refine lv_aload_n hx hb dw_968 rfl (lv_at hl 3 rfl) ?_
  refine lv_aload_n hx hb dw_969 rfl (lv_at hl 1 rfl) ?_
  refine lv_iload hx hb dw_970 (lv_at hl 5 rfl) ?_
  refine lv_iconst (v := 1) hx hb dw_972 rfl ?_
  refine lv_iadd hx hb dw_973 ?_
  refine va_sld hx hb hX hbl hbA hL.2.2 v1 dw_974 ?_
  rw [e1]
  refine lv_aload_n hx hb dw_975 rfl (lv_at hl 1 rfl) ?_
  refine lv_iload hx hb dw_976 (lv_at hl 5 rfl) ?_
  refine lv_iconst (v := 2) hx hb dw_978 rfl ?_
  refine lv_iadd hx hb dw_979 ?_
  refine va_sld hx hb hX hbl hbA hL.2.2 v2 dw_980 ?_
  rw [e2]
  refine lv_aload_n hx hb dw_981 rfl (lv_at hl 1 rfl) ?_
  refine lv_iload hx hb dw_982 (lv_at hl 5 rfl) ?_
  refine lv_iconst (v := 3) hx hb dw_984 rfl ?_
  refine lv_iadd hx hb dw_985 ?_
  refine va_sld hx hb hX hbl hbA hL.2.2 v3 dw_986 ?_
  rw [e3]
  refine lv_i2l hx hb dw_987 rfl ?_
  refine lv_bipush (v := 32) hx hb dw_988 (by decide) ?_
  refine lv_lshl hx hb dw_990 rfl ?_
  refine lv_aload_n hx hb dw_991 rfl (lv_at hl 1 rfl) ?_
  refine lv_iload hx hb dw_992 (lv_at hl 5 rfl) ?_
  refine lv_iconst (v := 4) hx hb dw_994 rfl ?_
  refine lv_iadd hx hb dw_995 ?_
  refine va_sld hx hb hX hbl hbA hL.2.2 v4 dw_996 ?_
  rw [e4]
  refine lv_i2l hx hb dw_997 rfl ?_
  refine lv_ldc2 hx hb hown (kcl_76 hts) dw_998 ?_
  refine lv_land hx hb dw_1001 ?_
  refine lv_lor hx hb dw_1002 ?_
  refine lm_v (wr := wO gm ca st' o cO f) (lm_runV (q0 := 0) (ci := 1) hM (cw_lm_poke hts ⟨by decide, by decide⟩) hx hb hml hown hts hkM hZ hL List.perm_append_comm rfl rfl hl.1 rfl rfl (lv_room (Nat.le_of_ble_eq_true rfl)) dw_1003 ⟨by show cells + 2 + 0 ≤ 600002; omega, by show slots + 12 + 0 ≤ 7302198; omega⟩) hA hL List.perm_append_comm List.perm_append_comm ?_
  intro H locs hL
  change LWd D A (wL gm ca gq cq o cO st' ms' f) s.heap H locs at hL
  refine lv_aload_n hx hb dw_1006 rfl (lv_at hl 3 rfl) ?_
  refine lm_v (wr := wO gm ca st' o cO f) (lm_runV (q0 := 0) (ci := 1) hT (cw_lm_thrown hts ⟨by decide, by decide⟩) hx hb hml hown hts hkM hZ hL List.perm_append_comm rfl rfl hl.1 rfl rfl (lv_room (Nat.le_of_ble_eq_true rfl)) dw_1007 ⟨by show cells + 2 + 0 + 0 ≤ 600002; omega, by show slots + 12 + 0 + 0 ≤ 7302198; omega⟩) hA hL List.perm_append_comm List.perm_append_comm ?_
  intro H locs hL
  change LWd D A (wL gm ca gq cq o cO st' ms' f) s.heap H locs at hL
  refine lv_iload hx hb dw_1010 (lv_at hl 0 rfl) ?_
  refine lv_icmp_eq (tgt := 1017) hx hb dw_1012 (by decide) (fun _ => ?_) (fun c0 => absurd rfl c0)
  refine lv_goto (tgt := 1125) hx hb dw_1017 (by decide) ?_
  refine W.widen (k := cells + 4) (n := slots + 24) (by show cells + 2 + 0 + 0 ≤ cells + 4; omega) (by show slots + 12 + 0 + 0 ≤ slots + 24; omega) ?_
  exact kk _ _ _ hL (lv_sub hl [1, 2, 3, 4, 5] rfl)
theorem wl_case14 {p : Program} {l : Launch} {e : Env} {s : State} {m : MethodId} {args : Array Value} {below : List Frame} {meth : Method} {c : Code} {H : Heap} {locs : List Loc} {cells slots : Nat} {Q : State → Prop} {ls : Array Slot} {D : va_G} {A : Nat → Prop} {b L : Nat} {xs : Nat → Int32} {gm gq : Nat → Nat} {ca cq : Nat → ClassId} {o : Nat} {cO : ClassId} {st st' : BSt} {ms ms' : MSt} {f : Nat → Int64} {i k : Int32} {y1 y2 y3 y4 : Int32} (hC : LC p s m args c D A b L xs ca cq cO) (v1 : vp_in (i + 1) L) (e1 : xs (i + 1).toNatClampNeg = y1) (v2 : vp_in (i + 2) L) (e2 : xs (i + 2).toNatClampNeg = y2) (v3 : vp_in (i + 3) L) (e3 : xs (i + 3).toNatClampNeg = y3) (v4 : vp_in (i + 4) L) (e4 : xs (i + 4).toNatClampNeg = y4) (hW : LM l yl_pokeRoot rml_pokeRoot D (tysO ca cO) [.ref (gm 0), .int y1, .int y2, .long (lvl y3 y4)] (wO gm ca st o cO f) (XI k) (wO gm ca st' o cO f)) (hM : LM l ym_pokeRoot rmm_pokeRoot D (tysM cq) [.ref (gq 0), .int y1, .int y2, .long (lvl y3 y4)] (wM gq cq ms) (XV) (wM gq cq ms')) (hT : LM l ym_thrown rmm_thrown D (tysM cq) [.ref (gq 0)] (wM gq cq ms') (XI k) (wM gq cq ms')) (hce : cells + 4 ≤ 600002) (hsl : slots + 24 ≤ 7302198) (hL : LWd D A (wL gm ca gq cq o cO st ms f) s.heap H locs) (hl : lv_has ls 8 (lvL b gm gq o i))
    (kk : ∀ (H : Heap) (locs : List Loc) (ls : Array Slot), LWd D A (wL gm ca gq cq o cO st' ms' f) s.heap H locs → lv_has ls 8 (lvL b gm gq o i) → W p l e room_1 s m args below meth c H locs (cells + 4) (slots + 24) Q (F0 m 1125 ls [])) : W p l e room_1 s m args below meth c H locs cells slots Q (F0 m 1020 ls []) := by
  obtain ⟨hx, hb, hml, hown, hts, hkO, hkM, hZ, hA, hX, hbl, hbA⟩ := id hC
  refine lv_aload_n hx hb dw_1020 rfl (lv_at hl 1 rfl) ?_
  refine lv_aload_n hx hb dw_1021 rfl (lv_at hl 0 rfl) ?_
  refine lv_iload hx hb dw_1022 (lv_at hl 4 rfl) ?_
  refine lv_iconst (v := 1) hx hb dw_1024 rfl ?_
  refine lv_iadd hx hb dw_1025 ?_
  refine va_sld hx hb hX hbl hbA hL.2.2 v1 dw_1026 ?_
  rw [e1]
  refine lv_aload_n hx hb dw_1027 rfl (lv_at hl 0 rfl) ?_
  refine lv_iload hx hb dw_1028 (lv_at hl 4 rfl) ?_
  refine lv_iconst (v := 2) hx hb dw_1030 rfl ?_
  refine lv_iadd hx hb dw_1031 ?_
  refine va_sld hx hb hX hbl hbA hL.2.2 v2 dw_1032 ?_
  rw [e2]
  refine lv_aload_n hx hb dw_1033 rfl (lv_at hl 0 rfl) ?_
  refine lv_iload hx hb dw_1034 (lv_at hl 4 rfl) ?_
  refine lv_iconst (v := 3) hx hb dw_1036 rfl ?_
  refine lv_iadd hx hb dw_1037 ?_
  refine va_sld hx hb hX hbl hbA hL.2.2 v3 dw_1038 ?_
  rw [e3]
  refine lv_i2l hx hb dw_1039 rfl ?_
  refine lv_bipush (v := 32) hx hb dw_1040 (by decide) ?_
  refine lv_lshl hx hb dw_1042 rfl ?_
  refine lv_aload_n hx hb dw_1043 rfl (lv_at hl 0 rfl) ?_
  refine lv_iload hx hb dw_1044 (lv_at hl 4 rfl) ?_
  refine lv_iconst (v := 4) hx hb dw_1046 rfl ?_
  refine lv_iadd hx hb dw_1047 ?_
  refine va_sld hx hb hX hbl hbA hL.2.2 v4 dw_1048 ?_
  rw [e4]
  refine lv_i2l hx hb dw_1049 rfl ?_
  refine lv_ldc2 hx hb hown (kcl_76 hts) dw_1050 ?_
  refine lv_land hx hb dw_1053 ?_
  refine lv_lor hx hb dw_1054 ?_
  refine lm_v (wr := wM gq cq ms) (lm_runSW (n := 4) hW ⟨by decide, by decide⟩ mcl_pokeRoot inl_law (by decide +kernel) ll_pokeRoot ls_pokeRoot hx hb hml hown hts hkO hZ hL (List.Perm.refl _) hl.1 rfl rfl (lv_room (Nat.le_of_ble_eq_true rfl)) dw_1055 ⟨by show cells + 2 ≤ 600002; omega, by show slots + 12 ≤ 7302198; omega⟩) hA hL (List.Perm.refl _) (List.Perm.refl _) ?_
  intro H locs hL
  change LWd D A (wL gm ca gq cq o cO st' ms f) s.heap H locs at hL
  refine lv_istore (i := 5) (nL := 8) hx hb dw_1058 hl (by decide) rfl ?_
  intro ls hl
  refine lv_aload_n hx hb dw_1060 rfl (lv_at hl 3 rfl) ?_
  refine lv_aload_n hx hb dw_1061 rfl (lv_at hl 1 rfl) ?_
  refine lv_iload hx hb dw_1062 (lv_at hl 5 rfl) ?_
  refine lv_iconst (v := 1) hx hb dw_1064 rfl ?_
  refine lv_iadd hx hb dw_1065 ?_
  refine va_sld hx hb hX hbl hbA hL.2.2 v1 dw_1066 ?_
  rw [e1]
  refine lv_aload_n hx hb dw_1067 rfl (lv_at hl 1 rfl) ?_
  refine lv_iload hx hb dw_1068 (lv_at hl 5 rfl) ?_
  refine lv_iconst (v := 2) hx hb dw_1070 rfl ?_
  refine lv_iadd hx hb dw_1071 ?_
  refine va_sld hx hb hX hbl hbA hL.2.2 v2 dw_1072 ?_
  rw [e2]
  refine lv_aload_n hx hb dw_1073 rfl (lv_at hl 1 rfl) ?_
  refine lv_iload hx hb dw_1074 (lv_at hl 5 rfl) ?_
  refine lv_iconst (v := 3) hx hb dw_1076 rfl ?_
  refine lv_iadd hx hb dw_1077 ?_
  refine va_sld hx hb hX hbl hbA hL.2.2 v3 dw_1078 ?_
  rw [e3]
  refine lv_i2l hx hb dw_1079 rfl ?_
  refine lv_bipush (v := 32) hx hb dw_1080 (by decide) ?_
  refine lv_lshl hx hb dw_1082 rfl ?_
  refine lv_aload_n hx hb dw_1083 rfl (lv_at hl 1 rfl) ?_
  refine lv_iload hx hb dw_1084 (lv_at hl 5 rfl) ?_
  refine lv_iconst (v := 4) hx hb dw_1086 rfl ?_
  refine lv_iadd hx hb dw_1087 ?_
  refine va_sld hx hb hX hbl hbA hL.2.2 v4 dw_1088 ?_
  rw [e4]
  refine lv_i2l hx hb dw_1089 rfl ?_
  refine lv_ldc2 hx hb hown (kcl_76 hts) dw_1090 ?_
  refine lv_land hx hb dw_1093 ?_
  refine lv_lor hx hb dw_1094 ?_
  refine lm_v (wr := wO gm ca st' o cO f) (lm_runV (q0 := 0) (ci := 1) hM (cw_lm_pokeRoot hts ⟨by decide, by decide⟩) hx hb hml hown hts hkM hZ hL List.perm_append_comm rfl rfl hl.1 rfl rfl (lv_room (Nat.le_of_ble_eq_true rfl)) dw_1095 ⟨by show cells + 2 + 0 ≤ 600002; omega, by show slots + 12 + 0 ≤ 7302198; omega⟩) hA hL List.perm_append_comm List.perm_append_comm ?_
  intro H locs hL
  change LWd D A (wL gm ca gq cq o cO st' ms' f) s.heap H locs at hL
  refine lv_aload_n hx hb dw_1098 rfl (lv_at hl 3 rfl) ?_
  refine lm_v (wr := wO gm ca st' o cO f) (lm_runV (q0 := 0) (ci := 1) hT (cw_lm_thrown hts ⟨by decide, by decide⟩) hx hb hml hown hts hkM hZ hL List.perm_append_comm rfl rfl hl.1 rfl rfl (lv_room (Nat.le_of_ble_eq_true rfl)) dw_1099 ⟨by show cells + 2 + 0 + 0 ≤ 600002; omega, by show slots + 12 + 0 + 0 ≤ 7302198; omega⟩) hA hL List.perm_append_comm List.perm_append_comm ?_
  intro H locs hL
  change LWd D A (wL gm ca gq cq o cO st' ms' f) s.heap H locs at hL
  refine lv_iload hx hb dw_1102 (lv_at hl 0 rfl) ?_
  refine lv_icmp_eq (tgt := 1109) hx hb dw_1104 (by decide) (fun _ => ?_) (fun c0 => absurd rfl c0)
  refine lv_goto (tgt := 1125) hx hb dw_1109 (by decide) ?_
  refine W.widen (k := cells + 4) (n := slots + 24) (by show cells + 2 + 0 + 0 ≤ cells + 4; omega) (by show slots + 12 + 0 + 0 ≤ slots + 24; omega) ?_
  exact kk _ _ _ hL (lv_sub hl [1, 2, 3, 4, 5] rfl)
theorem wl_case15 {p : Program} {l : Launch} {e : Env} {s : State} {m : MethodId} {args : Array Value} {below : List Frame} {meth : Method} {c : Code} {H : Heap} {locs : List Loc} {cells slots : Nat} {Q : State → Prop} {ls : Array Slot} {D : va_G} {A : Nat → Prop} {b L : Nat} {xs : Nat → Int32} {gm gq : Nat → Nat} {ca cq : Nat → ClassId} {o : Nat} {cO : ClassId} {st st' : BSt} {ms ms' : MSt} {f : Nat → Int64} {i : Int32} {z : Int32} (hC : LC p s m args c D A b L xs ca cq cO)  (hW : LM l yb_badAt rmb_badAt D (tysB ca) [.ref (gm 0)] (wB gm ca st) (XI z) (wB gm ca st')) (hM : LM l ym_badAt rmm_badAt D (tysM cq) [.ref (gq 0)] (wM gq cq ms) (XI z) (wM gq cq ms')) (hce : cells + 4 ≤ 600002) (hsl : slots + 24 ≤ 7302198) (hL : LWd D A (wL gm ca gq cq o cO st ms f) s.heap H locs) (hl : lv_has ls 8 (lvL b gm gq o i))
    (kk : ∀ (H : Heap) (locs : List Loc) (ls : Array Slot), LWd D A (wL gm ca gq cq o cO st' ms' f) s.heap H locs → lv_has ls 8 (lvL b gm gq o i) → W p l e room_1 s m args below meth c H locs (cells + 4) (slots + 24) Q (F0 m 1125 ls [])) : W p l e room_1 s m args below meth c H locs cells slots Q (F0 m 1112 ls []) := by
  obtain ⟨hx, hb, hml, hown, hts, hkO, hkM, hZ, hA, hX, hbl, hbA⟩ := id hC
  refine lv_aload_n hx hb dw_1112 rfl (lv_at hl 1 rfl) ?_
  refine lm_v (wr := wM gq cq ms ++ [eO o cO f]) (lm_runV (q0 := 0) (ci := 0) hW (cw_l_badAt hts ⟨by decide, by decide⟩) hx hb hml hown hts hkO.tail hZ hL wL_b rfl rfl hl.1 rfl rfl (lv_room (Nat.le_of_ble_eq_true rfl)) dw_1113 ⟨by show cells + 0 ≤ 600002; omega, by show slots + 0 ≤ 7302198; omega⟩) hA hL wL_b wL_b.symm ?_
  intro H locs hL
  refine lv_aload_n hx hb dw_1116 rfl (lv_at hl 2 rfl) ?_
  refine lm_v (wr := wO gm ca st' o cO f) (lm_runV (q0 := 0) (ci := 1) hM (cw_lm_badAt hts ⟨by decide, by decide⟩) hx hb hml hown hts hkM hZ hL List.perm_append_comm rfl rfl hl.1 rfl rfl (lv_room (Nat.le_of_ble_eq_true rfl)) dw_1117 ⟨by show cells + 0 + 0 ≤ 600002; omega, by show slots + 0 + 0 ≤ 7302198; omega⟩) hA hL List.perm_append_comm List.perm_append_comm ?_
  intro H locs hL
  change LWd D A (wL gm ca gq cq o cO st' ms' f) s.heap H locs at hL
  refine lv_icmp_eq (tgt := 1125) hx hb dw_1120 (by decide) (fun _ => ?_) (fun c0 => absurd rfl c0)
  refine W.widen (k := cells + 4) (n := slots + 24) (by show cells + 0 + 0 ≤ cells + 4; omega) (by show slots + 0 + 0 ≤ slots + 24; omega) ?_
  exact kk _ _ _ hL (lv_sub hl [0, 1, 2, 3, 4] rfl)
