theorem wl_case0 {p : Program} {l : Launch} {e : Env} {s : State} {m : MethodId} {args : Array Value} {below : List Frame} {meth : Method} {c : Code} {H : Heap} {locs : List Loc} {cells slots : Nat} {Q : State → Prop} {ls : Array Slot} {D : va_G} {A : Nat → Prop} {b L : Nat} {xs : Nat → Int32} {gm gq : Nat → Nat} {ca cq : Nat → ClassId} {o : Nat} {cO : ClassId} {st st' : BSt} {ms ms' : MSt} {f f' : Nat → Int64} {i k : Int32} {y1 y2 y3 : Int32} {z : Int32} (hC : LC p s m args c D A b L xs ca cq cO) (v1 : vp_in (i + 1) L) (e1 : xs (i + 1).toNatClampNeg = y1) (v2 : vp_in (i + 2) L) (e2 : xs (i + 2).toNatClampNeg = y2) (v3 : vp_in (i + 3) L) (e3 : xs (i + 3).toNatClampNeg = y3) (hW : LM l yl_put rml_put D (tysO ca cO) [.ref (gm 0), .int y1, .long (lvl y2 y3), .ref o] (wO gm ca st o cO f) (XI k) (wO gm ca st' o cO f')) (hM : LM l ym_put rmm_put D (tysM cq) [.ref (gq 0), .int y1, .long (lvl y2 y3)] (wM gq cq ms) (XI z) (wM gq cq ms')) (hce : cells + 4 ≤ 601024) (hsl : slots + 24 ≤ 7293000) (hL : LWd D A (wL gm ca gq cq o cO st ms f) s.heap H locs) (hl : lv_has ls 8 (lvL b gm gq o i))
    (kk : ∀ (H : Heap) (locs : List Loc) (ls : Array Slot), LWd D A (wL gm ca gq cq o cO st' ms' f') s.heap H locs → lv_has ls 8 (lvL b gm gq o i) → W p l e room_1 s m args below meth c H locs (cells + 4) (slots + 24) Q (F0 m 756 ls [])) : W p l e room_1 s m args below meth c H locs cells slots Q (F0 m 128 ls []) := by
  obtain ⟨hx, hb, hml, hown, hts, hkO, hkM, hZ, hA, hX, hbl, hbA⟩ := id hC
  refine lv_aload_n hx hb dw_128 rfl (lv_at hl 1 rfl) ?_
  refine lv_aload_n hx hb dw_129 rfl (lv_at hl 0 rfl) ?_
  refine lv_iload hx hb dw_130 (lv_at hl 4 rfl) ?_
  refine lv_iconst (v := 1) hx hb dw_132 rfl ?_
  refine lv_iadd hx hb dw_133 ?_
  refine va_sld hx hb hX hbl hbA hL.2.2 v1 dw_134 ?_
  rw [e1]
  refine lv_aload_n hx hb dw_135 rfl (lv_at hl 0 rfl) ?_
  refine lv_iload hx hb dw_136 (lv_at hl 4 rfl) ?_
  refine lv_iconst (v := 2) hx hb dw_138 rfl ?_
  refine lv_iadd hx hb dw_139 ?_
  refine va_sld hx hb hX hbl hbA hL.2.2 v2 dw_140 ?_
  rw [e2]
  refine lv_i2l hx hb dw_141 rfl ?_
  refine lv_bipush (v := 32) hx hb dw_142 (by decide) ?_
  refine lv_lshl hx hb dw_144 rfl ?_
  refine lv_aload_n hx hb dw_145 rfl (lv_at hl 0 rfl) ?_
  refine lv_iload hx hb dw_146 (lv_at hl 4 rfl) ?_
  refine lv_iconst (v := 3) hx hb dw_148 rfl ?_
  refine lv_iadd hx hb dw_149 ?_
  refine va_sld hx hb hX hbl hbA hL.2.2 v3 dw_150 ?_
  rw [e3]
  refine lv_i2l hx hb dw_151 rfl ?_
  refine lv_ldc2 hx hb hown (kcl_76 hts) dw_152 ?_
  refine lv_land hx hb dw_155 ?_
  refine lv_lor hx hb dw_156 ?_
  refine lv_aload_n hx hb dw_157 rfl (lv_at hl 3 rfl) ?_
  refine lm_v (wr := wM gq cq ms) (lm_runSW (n := 4) hW ⟨by decide, by decide⟩ mcl_put inl_law (by decide +kernel) ll_put ls_put hx hb hml hown hts hkO hZ hL (List.Perm.refl _) hl.1 rfl rfl (lv_room (Nat.le_of_ble_eq_true rfl)) dw_158 ⟨by show cells + 4 ≤ 601024; omega, by show slots + 24 ≤ 7293000; omega⟩) hA hL (List.Perm.refl _) (List.Perm.refl _) ?_
  intro H locs hL
  change LWd D A (wL gm ca gq cq o cO st' ms f') s.heap H locs at hL
  refine lv_istore (i := 5) (nL := 8) hx hb dw_161 hl (by decide) rfl ?_
  intro ls hl
  refine lv_aload_n hx hb dw_163 rfl (lv_at hl 3 rfl) ?_
  refine lv_aload_n hx hb dw_164 rfl (lv_at hl 1 rfl) ?_
  refine lv_iload hx hb dw_165 (lv_at hl 5 rfl) ?_
  refine lv_iconst (v := 1) hx hb dw_167 rfl ?_
  refine lv_iadd hx hb dw_168 ?_
  refine va_sld hx hb hX hbl hbA hL.2.2 v1 dw_169 ?_
  rw [e1]
  refine lv_aload_n hx hb dw_170 rfl (lv_at hl 1 rfl) ?_
  refine lv_iload hx hb dw_171 (lv_at hl 5 rfl) ?_
  refine lv_iconst (v := 2) hx hb dw_173 rfl ?_
  refine lv_iadd hx hb dw_174 ?_
  refine va_sld hx hb hX hbl hbA hL.2.2 v2 dw_175 ?_
  rw [e2]
  refine lv_i2l hx hb dw_176 rfl ?_
  refine lv_bipush (v := 32) hx hb dw_177 (by decide) ?_
  refine lv_lshl hx hb dw_179 rfl ?_
  refine lv_aload_n hx hb dw_180 rfl (lv_at hl 1 rfl) ?_
  refine lv_iload hx hb dw_181 (lv_at hl 5 rfl) ?_
  refine lv_iconst (v := 3) hx hb dw_183 rfl ?_
  refine lv_iadd hx hb dw_184 ?_
  refine va_sld hx hb hX hbl hbA hL.2.2 v3 dw_185 ?_
  rw [e3]
  refine lv_i2l hx hb dw_186 rfl ?_
  refine lv_ldc2 hx hb hown (kcl_76 hts) dw_187 ?_
  refine lv_land hx hb dw_190 ?_
  refine lv_lor hx hb dw_191 ?_
  refine lm_v (wr := wO gm ca st' o cO f') (lm_runV (q0 := 0) (ci := 1) hM (cw_lm_put hts ⟨by decide, by decide⟩) hx hb hml hown hts hkM hZ hL List.perm_append_comm rfl rfl hl.1 rfl rfl (lv_room (Nat.le_of_ble_eq_true rfl)) dw_192 ⟨by show cells + 4 + 0 ≤ 601024; omega, by show slots + 24 + 0 ≤ 7293000; omega⟩) hA hL List.perm_append_comm List.perm_append_comm ?_
  intro H locs hL
  change LWd D A (wL gm ca gq cq o cO st' ms' f') s.heap H locs at hL
  refine lv_istore (i := 6) (nL := 8) hx hb dw_195 hl (by decide) rfl ?_
  intro ls hl
  refine lv_goto (tgt := 756) hx hb dw_197 (by decide) ?_
  refine W.widen (k := cells + 4) (n := slots + 24) (by show cells + 4 + 0 ≤ cells + 4; omega) (by show slots + 24 + 0 ≤ slots + 24; omega) ?_
  exact kk _ _ _ hL (lv_sub hl [2, 3, 4, 5, 6] rfl)
theorem wl_case1 {p : Program} {l : Launch} {e : Env} {s : State} {m : MethodId} {args : Array Value} {below : List Frame} {meth : Method} {c : Code} {H : Heap} {locs : List Loc} {cells slots : Nat} {Q : State → Prop} {ls : Array Slot} {D : va_G} {A : Nat → Prop} {b L : Nat} {xs : Nat → Int32} {gm gq : Nat → Nat} {ca cq : Nat → ClassId} {o : Nat} {cO : ClassId} {st st' : BSt} {ms ms' : MSt} {f f' : Nat → Int64} {i k : Int32} {y1 : Int32} {z : Int32} (hC : LC p s m args c D A b L xs ca cq cO) (v1 : vp_in (i + 1) L) (e1 : xs (i + 1).toNatClampNeg = y1) (hW : LM l yl_drop rml_drop D (tysO ca cO) [.ref (gm 0), .int y1, .ref o] (wO gm ca st o cO f) (XI k) (wO gm ca st' o cO f')) (hM : LM l ym_drop rmm_drop D (tysM cq) [.ref (gq 0), .int y1] (wM gq cq ms) (XI z) (wM gq cq ms')) (hce : cells + 4 ≤ 601024) (hsl : slots + 24 ≤ 7293000) (hL : LWd D A (wL gm ca gq cq o cO st ms f) s.heap H locs) (hl : lv_has ls 8 (lvL b gm gq o i))
    (kk : ∀ (H : Heap) (locs : List Loc) (ls : Array Slot), LWd D A (wL gm ca gq cq o cO st' ms' f') s.heap H locs → lv_has ls 8 (lvL b gm gq o i) → W p l e room_1 s m args below meth c H locs (cells + 4) (slots + 24) Q (F0 m 756 ls [])) : W p l e room_1 s m args below meth c H locs cells slots Q (F0 m 200 ls []) := by
  obtain ⟨hx, hb, hml, hown, hts, hkO, hkM, hZ, hA, hX, hbl, hbA⟩ := id hC
  refine lv_aload_n hx hb dw_200 rfl (lv_at hl 1 rfl) ?_
  refine lv_aload_n hx hb dw_201 rfl (lv_at hl 0 rfl) ?_
  refine lv_iload hx hb dw_202 (lv_at hl 4 rfl) ?_
  refine lv_iconst (v := 1) hx hb dw_204 rfl ?_
  refine lv_iadd hx hb dw_205 ?_
  refine va_sld hx hb hX hbl hbA hL.2.2 v1 dw_206 ?_
  rw [e1]
  refine lv_aload_n hx hb dw_207 rfl (lv_at hl 3 rfl) ?_
  refine lm_v (wr := wM gq cq ms) (lm_runSW (n := 3) hW ⟨by decide, by decide⟩ mcl_drop inl_law (by decide +kernel) ll_drop ls_drop hx hb hml hown hts hkO hZ hL (List.Perm.refl _) hl.1 rfl rfl (lv_room (Nat.le_of_ble_eq_true rfl)) dw_208 ⟨by show cells + 4 ≤ 601024; omega, by show slots + 24 ≤ 7293000; omega⟩) hA hL (List.Perm.refl _) (List.Perm.refl _) ?_
  intro H locs hL
  change LWd D A (wL gm ca gq cq o cO st' ms f') s.heap H locs at hL
  refine lv_istore (i := 5) (nL := 8) hx hb dw_211 hl (by decide) rfl ?_
  intro ls hl
  refine lv_aload_n hx hb dw_213 rfl (lv_at hl 3 rfl) ?_
  refine lv_aload_n hx hb dw_214 rfl (lv_at hl 1 rfl) ?_
  refine lv_iload hx hb dw_215 (lv_at hl 5 rfl) ?_
  refine lv_iconst (v := 1) hx hb dw_217 rfl ?_
  refine lv_iadd hx hb dw_218 ?_
  refine va_sld hx hb hX hbl hbA hL.2.2 v1 dw_219 ?_
  rw [e1]
  refine lm_v (wr := wO gm ca st' o cO f') (lm_runV (q0 := 0) (ci := 1) hM (cw_lm_drop hts ⟨by decide, by decide⟩) hx hb hml hown hts hkM hZ hL List.perm_append_comm rfl rfl hl.1 rfl rfl (lv_room (Nat.le_of_ble_eq_true rfl)) dw_220 ⟨by show cells + 4 + 0 ≤ 601024; omega, by show slots + 24 + 0 ≤ 7293000; omega⟩) hA hL List.perm_append_comm List.perm_append_comm ?_
  intro H locs hL
  change LWd D A (wL gm ca gq cq o cO st' ms' f') s.heap H locs at hL
  refine lv_istore (i := 6) (nL := 8) hx hb dw_223 hl (by decide) rfl ?_
  intro ls hl
  refine lv_goto (tgt := 756) hx hb dw_225 (by decide) ?_
  refine W.widen (k := cells + 4) (n := slots + 24) (by show cells + 4 + 0 ≤ cells + 4; omega) (by show slots + 24 + 0 ≤ slots + 24; omega) ?_
  exact kk _ _ _ hL (lv_sub hl [2, 3, 4, 5, 6] rfl)
theorem wl_case2 {p : Program} {l : Launch} {e : Env} {s : State} {m : MethodId} {args : Array Value} {below : List Frame} {meth : Method} {c : Code} {H : Heap} {locs : List Loc} {cells slots : Nat} {Q : State → Prop} {ls : Array Slot} {D : va_G} {A : Nat → Prop} {b L : Nat} {xs : Nat → Int32} {gm gq : Nat → Nat} {ca cq : Nat → ClassId} {o : Nat} {cO : ClassId} {st st' : BSt} {ms ms' : MSt} {f f' : Nat → Int64} {i k : Int32} {z : Int32} (hC : LC p s m args c D A b L xs ca cq cO)  (hW : LM l yl_version rml_version D (tysO ca cO) [.ref (gm 0), .ref o] (wO gm ca st o cO f) (XI k) (wO gm ca st' o cO f')) (hM : LM l ym_version rmm_version D (tysM cq) [.ref (gq 0)] (wM gq cq ms) (XI z) (wM gq cq ms')) (hce : cells + 4 ≤ 601024) (hsl : slots + 24 ≤ 7293000) (hL : LWd D A (wL gm ca gq cq o cO st ms f) s.heap H locs) (hl : lv_has ls 8 (lvL b gm gq o i))
    (kk : ∀ (H : Heap) (locs : List Loc) (ls : Array Slot), LWd D A (wL gm ca gq cq o cO st' ms' f') s.heap H locs → lv_has ls 8 (lvL b gm gq o i) → W p l e room_1 s m args below meth c H locs (cells + 4) (slots + 24) Q (F0 m 756 ls [])) : W p l e room_1 s m args below meth c H locs cells slots Q (F0 m 228 ls []) := by
  obtain ⟨hx, hb, hml, hown, hts, hkO, hkM, hZ, hA, hX, hbl, hbA⟩ := id hC
  refine lv_aload_n hx hb dw_228 rfl (lv_at hl 1 rfl) ?_
  refine lv_aload_n hx hb dw_229 rfl (lv_at hl 3 rfl) ?_
  refine lm_v (wr := wM gq cq ms) (lm_runSW (n := 2) hW ⟨by decide, by decide⟩ mcl_version inl_law (by decide +kernel) ll_version ls_version hx hb hml hown hts hkO hZ hL (List.Perm.refl _) hl.1 rfl rfl (lv_room (Nat.le_of_ble_eq_true rfl)) dw_230 ⟨by show cells + 1 ≤ 601024; omega, by show slots + 6 ≤ 7293000; omega⟩) hA hL (List.Perm.refl _) (List.Perm.refl _) ?_
  intro H locs hL
  change LWd D A (wL gm ca gq cq o cO st' ms f') s.heap H locs at hL
  refine lv_istore (i := 5) (nL := 8) hx hb dw_233 hl (by decide) rfl ?_
  intro ls hl
  refine lv_aload_n hx hb dw_235 rfl (lv_at hl 3 rfl) ?_
  refine lm_v (wr := wO gm ca st' o cO f') (lm_runV (q0 := 0) (ci := 1) hM (cw_lm_version hts ⟨by decide, by decide⟩) hx hb hml hown hts hkM hZ hL List.perm_append_comm rfl rfl hl.1 rfl rfl (lv_room (Nat.le_of_ble_eq_true rfl)) dw_236 ⟨by show cells + 1 + 0 ≤ 601024; omega, by show slots + 6 + 0 ≤ 7293000; omega⟩) hA hL List.perm_append_comm List.perm_append_comm ?_
  intro H locs hL
  change LWd D A (wL gm ca gq cq o cO st' ms' f') s.heap H locs at hL
  refine lv_istore (i := 6) (nL := 8) hx hb dw_239 hl (by decide) rfl ?_
  intro ls hl
  refine lv_goto (tgt := 756) hx hb dw_241 (by decide) ?_
  refine W.widen (k := cells + 4) (n := slots + 24) (by show cells + 1 + 0 ≤ cells + 4; omega) (by show slots + 6 + 0 ≤ slots + 24; omega) ?_
  exact kk _ _ _ hL (lv_sub hl [2, 3, 4, 5, 6] rfl)
theorem wl_case3 {p : Program} {l : Launch} {e : Env} {s : State} {m : MethodId} {args : Array Value} {below : List Frame} {meth : Method} {c : Code} {H : Heap} {locs : List Loc} {cells slots : Nat} {Q : State → Prop} {ls : Array Slot} {D : va_G} {A : Nat → Prop} {b L : Nat} {xs : Nat → Int32} {gm gq : Nat → Nat} {ca cq : Nat → ClassId} {o : Nat} {cO : ClassId} {st st' : BSt} {ms ms' : MSt} {f f' : Nat → Int64} {i k : Int32} {y1 y2 : Int32} {z : Int32} (hC : LC p s m args c D A b L xs ca cq cO) (v1 : vp_in (i + 1) L) (e1 : xs (i + 1).toNatClampNeg = y1) (v2 : vp_in (i + 2) L) (e2 : xs (i + 2).toNatClampNeg = y2) (hW : LM l yl_has rml_has D (tysO ca cO) [.ref (gm 0), .int y1, .int y2, .ref o] (wO gm ca st o cO f) (XI k) (wO gm ca st' o cO f')) (hM : LM l ym_has rmm_has D (tysM cq) [.ref (gq 0), .int y1, .int y2] (wM gq cq ms) (XI z) (wM gq cq ms')) (hce : cells + 4 ≤ 601024) (hsl : slots + 24 ≤ 7293000) (hL : LWd D A (wL gm ca gq cq o cO st ms f) s.heap H locs) (hl : lv_has ls 8 (lvL b gm gq o i))
    (kk : ∀ (H : Heap) (locs : List Loc) (ls : Array Slot), LWd D A (wL gm ca gq cq o cO st' ms' f') s.heap H locs → lv_has ls 8 (lvL b gm gq o i) → W p l e room_1 s m args below meth c H locs (cells + 4) (slots + 24) Q (F0 m 756 ls [])) : W p l e room_1 s m args below meth c H locs cells slots Q (F0 m 244 ls []) := by
  obtain ⟨hx, hb, hml, hown, hts, hkO, hkM, hZ, hA, hX, hbl, hbA⟩ := id hC
  refine lv_aload_n hx hb dw_244 rfl (lv_at hl 1 rfl) ?_
  refine lv_aload_n hx hb dw_245 rfl (lv_at hl 0 rfl) ?_
  refine lv_iload hx hb dw_246 (lv_at hl 4 rfl) ?_
  refine lv_iconst (v := 1) hx hb dw_248 rfl ?_
  refine lv_iadd hx hb dw_249 ?_
  refine va_sld hx hb hX hbl hbA hL.2.2 v1 dw_250 ?_
  rw [e1]
  refine lv_aload_n hx hb dw_251 rfl (lv_at hl 0 rfl) ?_
  refine lv_iload hx hb dw_252 (lv_at hl 4 rfl) ?_
  refine lv_iconst (v := 2) hx hb dw_254 rfl ?_
  refine lv_iadd hx hb dw_255 ?_
  refine va_sld hx hb hX hbl hbA hL.2.2 v2 dw_256 ?_
  rw [e2]
  refine lv_aload_n hx hb dw_257 rfl (lv_at hl 3 rfl) ?_
  refine lm_v (wr := wM gq cq ms) (lm_runSW (n := 4) hW ⟨by decide, by decide⟩ mcl_has inl_law (by decide +kernel) ll_has ls_has hx hb hml hown hts hkO hZ hL (List.Perm.refl _) hl.1 rfl rfl (lv_room (Nat.le_of_ble_eq_true rfl)) dw_258 ⟨by show cells + 2 ≤ 601024; omega, by show slots + 12 ≤ 7293000; omega⟩) hA hL (List.Perm.refl _) (List.Perm.refl _) ?_
  intro H locs hL
  change LWd D A (wL gm ca gq cq o cO st' ms f') s.heap H locs at hL
  refine lv_istore (i := 5) (nL := 8) hx hb dw_261 hl (by decide) rfl ?_
  intro ls hl
  refine lv_aload_n hx hb dw_263 rfl (lv_at hl 3 rfl) ?_
  refine lv_aload_n hx hb dw_264 rfl (lv_at hl 1 rfl) ?_
  refine lv_iload hx hb dw_265 (lv_at hl 5 rfl) ?_
  refine lv_iconst (v := 1) hx hb dw_267 rfl ?_
  refine lv_iadd hx hb dw_268 ?_
  refine va_sld hx hb hX hbl hbA hL.2.2 v1 dw_269 ?_
  rw [e1]
  refine lv_aload_n hx hb dw_270 rfl (lv_at hl 1 rfl) ?_
  refine lv_iload hx hb dw_271 (lv_at hl 5 rfl) ?_
  refine lv_iconst (v := 2) hx hb dw_273 rfl ?_
  refine lv_iadd hx hb dw_274 ?_
  refine va_sld hx hb hX hbl hbA hL.2.2 v2 dw_275 ?_
  rw [e2]
  refine lm_v (wr := wO gm ca st' o cO f') (lm_runV (q0 := 0) (ci := 1) hM (cw_lm_has hts ⟨by decide, by decide⟩) hx hb hml hown hts hkM hZ hL List.perm_append_comm rfl rfl hl.1 rfl rfl (lv_room (Nat.le_of_ble_eq_true rfl)) dw_276 ⟨by show cells + 2 + 0 ≤ 601024; omega, by show slots + 12 + 0 ≤ 7293000; omega⟩) hA hL List.perm_append_comm List.perm_append_comm ?_
  intro H locs hL
  change LWd D A (wL gm ca gq cq o cO st' ms' f') s.heap H locs at hL
  refine lv_istore (i := 6) (nL := 8) hx hb dw_279 hl (by decide) rfl ?_
  intro ls hl
  refine lv_goto (tgt := 756) hx hb dw_281 (by decide) ?_
  refine W.widen (k := cells + 4) (n := slots + 24) (by show cells + 2 + 0 ≤ cells + 4; omega) (by show slots + 12 + 0 ≤ slots + 24; omega) ?_
  exact kk _ _ _ hL (lv_sub hl [2, 3, 4, 5, 6] rfl)
theorem wl_case4 {p : Program} {l : Launch} {e : Env} {s : State} {m : MethodId} {args : Array Value} {below : List Frame} {meth : Method} {c : Code} {H : Heap} {locs : List Loc} {cells slots : Nat} {Q : State → Prop} {ls : Array Slot} {D : va_G} {A : Nat → Prop} {b L : Nat} {xs : Nat → Int32} {gm gq : Nat → Nat} {ca cq : Nat → ClassId} {o : Nat} {cO : ClassId} {st st' : BSt} {ms ms' : MSt} {f f' : Nat → Int64} {i k : Int32} {y1 y2 : Int32} {z : Int64} (hC : LC p s m args c D A b L xs ca cq cO) (v1 : vp_in (i + 1) L) (e1 : xs (i + 1).toNatClampNeg = y1) (v2 : vp_in (i + 2) L) (e2 : xs (i + 2).toNatClampNeg = y2) (hW : LM l yl_find rml_find D (tysO ca cO) [.ref (gm 0), .int y1, .int y2, .ref o] (wO gm ca st o cO f) (XI k) (wO gm ca st' o cO f')) (hM : LM l ym_find rmm_find D (tysM cq) [.ref (gq 0), .int y1, .int y2] (wM gq cq ms) (XL z) (wM gq cq ms')) (hce : cells + 4 ≤ 601024) (hsl : slots + 24 ≤ 7293000) (hL : LWd D A (wL gm ca gq cq o cO st ms f) s.heap H locs) (hl : lv_has ls 8 (lvL b gm gq o i))
    (kk : ∀ (H : Heap) (locs : List Loc) (ls : Array Slot), LWd D A (wL gm ca gq cq o cO st' ms' f') s.heap H locs → lv_has ls 8 (lvL b gm gq o i) → W p l e room_1 s m args below meth c H locs (cells + 4) (slots + 24) Q (F0 m 756 ls [])) : W p l e room_1 s m args below meth c H locs cells slots Q (F0 m 284 ls []) := by
  obtain ⟨hx, hb, hml, hown, hts, hkO, hkM, hZ, hA, hX, hbl, hbA⟩ := id hC
  refine lv_aload_n hx hb dw_284 rfl (lv_at hl 1 rfl) ?_
  refine lv_aload_n hx hb dw_285 rfl (lv_at hl 0 rfl) ?_
  refine lv_iload hx hb dw_286 (lv_at hl 4 rfl) ?_
  refine lv_iconst (v := 1) hx hb dw_288 rfl ?_
  refine lv_iadd hx hb dw_289 ?_
  refine va_sld hx hb hX hbl hbA hL.2.2 v1 dw_290 ?_
  rw [e1]
  refine lv_aload_n hx hb dw_291 rfl (lv_at hl 0 rfl) ?_
  refine lv_iload hx hb dw_292 (lv_at hl 4 rfl) ?_
  refine lv_iconst (v := 2) hx hb dw_294 rfl ?_
  refine lv_iadd hx hb dw_295 ?_
  refine va_sld hx hb hX hbl hbA hL.2.2 v2 dw_296 ?_
  rw [e2]
  refine lv_aload_n hx hb dw_297 rfl (lv_at hl 3 rfl) ?_
  refine lm_v (wr := wM gq cq ms) (lm_runSW (n := 4) hW ⟨by decide, by decide⟩ mcl_find inl_law (by decide +kernel) ll_find ls_find hx hb hml hown hts hkO hZ hL (List.Perm.refl _) hl.1 rfl rfl (lv_room (Nat.le_of_ble_eq_true rfl)) dw_298 ⟨by show cells + 2 ≤ 601024; omega, by show slots + 12 ≤ 7293000; omega⟩) hA hL (List.Perm.refl _) (List.Perm.refl _) ?_
  intro H locs hL
  change LWd D A (wL gm ca gq cq o cO st' ms f') s.heap H locs at hL
  refine lv_istore (i := 5) (nL := 8) hx hb dw_301 hl (by decide) rfl ?_
  intro ls hl
  refine lv_aload_n hx hb dw_303 rfl (lv_at hl 3 rfl) ?_
  refine lv_aload_n hx hb dw_304 rfl (lv_at hl 1 rfl) ?_
  refine lv_iload hx hb dw_305 (lv_at hl 5 rfl) ?_
  refine lv_iconst (v := 1) hx hb dw_307 rfl ?_
  refine lv_iadd hx hb dw_308 ?_
  refine va_sld hx hb hX hbl hbA hL.2.2 v1 dw_309 ?_
  rw [e1]
  refine lv_aload_n hx hb dw_310 rfl (lv_at hl 1 rfl) ?_
  refine lv_iload hx hb dw_311 (lv_at hl 5 rfl) ?_
  refine lv_iconst (v := 2) hx hb dw_313 rfl ?_
  refine lv_iadd hx hb dw_314 ?_
  refine va_sld hx hb hX hbl hbA hL.2.2 v2 dw_315 ?_
  rw [e2]
  refine lm_v (wr := wO gm ca st' o cO f') (lm_runV (q0 := 0) (ci := 1) hM (cw_lm_find hts ⟨by decide, by decide⟩) hx hb hml hown hts hkM hZ hL List.perm_append_comm rfl rfl hl.1 rfl rfl (lv_room (Nat.le_of_ble_eq_true rfl)) dw_316 ⟨by show cells + 2 + 0 ≤ 601024; omega, by show slots + 12 + 0 ≤ 7293000; omega⟩) hA hL List.perm_append_comm List.perm_append_comm ?_
  intro H locs hL
  change LWd D A (wL gm ca gq cq o cO st' ms' f') s.heap H locs at hL
  refine lv_lstore (i := 6) (nL := 8) hx hb dw_319 hl (by decide) rfl ?_
  intro ls hl
  refine lv_goto (tgt := 756) hx hb dw_321 (by decide) ?_
  refine W.widen (k := cells + 4) (n := slots + 24) (by show cells + 2 + 0 ≤ cells + 4; omega) (by show slots + 12 + 0 ≤ slots + 24; omega) ?_
  exact kk _ _ _ hL (lv_sub hl [2, 3, 4, 5, 6] rfl)
theorem wl_case5 {p : Program} {l : Launch} {e : Env} {s : State} {m : MethodId} {args : Array Value} {below : List Frame} {meth : Method} {c : Code} {H : Heap} {locs : List Loc} {cells slots : Nat} {Q : State → Prop} {ls : Array Slot} {D : va_G} {A : Nat → Prop} {b L : Nat} {xs : Nat → Int32} {gm gq : Nat → Nat} {ca cq : Nat → ClassId} {o : Nat} {cO : ClassId} {st st' : BSt} {ms ms' : MSt} {f f' : Nat → Int64} {i k : Int32} {y1 y2 : Int32} {z : Int32} (hC : LC p s m args c D A b L xs ca cq cO) (v1 : vp_in (i + 1) L) (e1 : xs (i + 1).toNatClampNeg = y1) (v2 : vp_in (i + 2) L) (e2 : xs (i + 2).toNatClampNeg = y2) (hW : LM l yl_count rml_count D (tysO ca cO) [.ref (gm 0), .int y1, .int y2, .ref o] (wO gm ca st o cO f) (XI k) (wO gm ca st' o cO f')) (hM : LM l ym_count rmm_count D (tysM cq) [.ref (gq 0), .int y1, .int y2] (wM gq cq ms) (XI z) (wM gq cq ms')) (hce : cells + 4 ≤ 601024) (hsl : slots + 24 ≤ 7293000) (hL : LWd D A (wL gm ca gq cq o cO st ms f) s.heap H locs) (hl : lv_has ls 8 (lvL b gm gq o i))
    (kk : ∀ (H : Heap) (locs : List Loc) (ls : Array Slot), LWd D A (wL gm ca gq cq o cO st' ms' f') s.heap H locs → lv_has ls 8 (lvL b gm gq o i) → W p l e room_1 s m args below meth c H locs (cells + 4) (slots + 24) Q (F0 m 756 ls [])) : W p l e room_1 s m args below meth c H locs cells slots Q (F0 m 324 ls []) := by
  obtain ⟨hx, hb, hml, hown, hts, hkO, hkM, hZ, hA, hX, hbl, hbA⟩ := id hC
  refine lv_aload_n hx hb dw_324 rfl (lv_at hl 1 rfl) ?_
  refine lv_aload_n hx hb dw_325 rfl (lv_at hl 0 rfl) ?_
  refine lv_iload hx hb dw_326 (lv_at hl 4 rfl) ?_
  refine lv_iconst (v := 1) hx hb dw_328 rfl ?_
  refine lv_iadd hx hb dw_329 ?_
  refine va_sld hx hb hX hbl hbA hL.2.2 v1 dw_330 ?_
  rw [e1]
  refine lv_aload_n hx hb dw_331 rfl (lv_at hl 0 rfl) ?_
  refine lv_iload hx hb dw_332 (lv_at hl 4 rfl) ?_
  refine lv_iconst (v := 2) hx hb dw_334 rfl ?_
  refine lv_iadd hx hb dw_335 ?_
  refine va_sld hx hb hX hbl hbA hL.2.2 v2 dw_336 ?_
  rw [e2]
  refine lv_aload_n hx hb dw_337 rfl (lv_at hl 3 rfl) ?_
  refine lm_v (wr := wM gq cq ms) (lm_runSW (n := 4) hW ⟨by decide, by decide⟩ mcl_count inl_law (by decide +kernel) ll_count ls_count hx hb hml hown hts hkO hZ hL (List.Perm.refl _) hl.1 rfl rfl (lv_room (Nat.le_of_ble_eq_true rfl)) dw_338 ⟨by show cells + 3 ≤ 601024; omega, by show slots + 18 ≤ 7293000; omega⟩) hA hL (List.Perm.refl _) (List.Perm.refl _) ?_
  intro H locs hL
  change LWd D A (wL gm ca gq cq o cO st' ms f') s.heap H locs at hL
  refine lv_istore (i := 5) (nL := 8) hx hb dw_341 hl (by decide) rfl ?_
  intro ls hl
  refine lv_aload_n hx hb dw_343 rfl (lv_at hl 3 rfl) ?_
  refine lv_aload_n hx hb dw_344 rfl (lv_at hl 1 rfl) ?_
  refine lv_iload hx hb dw_345 (lv_at hl 5 rfl) ?_
  refine lv_iconst (v := 1) hx hb dw_347 rfl ?_
  refine lv_iadd hx hb dw_348 ?_
  refine va_sld hx hb hX hbl hbA hL.2.2 v1 dw_349 ?_
  rw [e1]
  refine lv_aload_n hx hb dw_350 rfl (lv_at hl 1 rfl) ?_
  refine lv_iload hx hb dw_351 (lv_at hl 5 rfl) ?_
  refine lv_iconst (v := 2) hx hb dw_353 rfl ?_
  refine lv_iadd hx hb dw_354 ?_
  refine va_sld hx hb hX hbl hbA hL.2.2 v2 dw_355 ?_
  rw [e2]
  refine lm_v (wr := wO gm ca st' o cO f') (lm_runV (q0 := 0) (ci := 1) hM (cw_lm_count hts ⟨by decide, by decide⟩) hx hb hml hown hts hkM hZ hL List.perm_append_comm rfl rfl hl.1 rfl rfl (lv_room (Nat.le_of_ble_eq_true rfl)) dw_356 ⟨by show cells + 3 + 0 ≤ 601024; omega, by show slots + 18 + 0 ≤ 7293000; omega⟩) hA hL List.perm_append_comm List.perm_append_comm ?_
  intro H locs hL
  change LWd D A (wL gm ca gq cq o cO st' ms' f') s.heap H locs at hL
  refine lv_istore (i := 6) (nL := 8) hx hb dw_359 hl (by decide) rfl ?_
  intro ls hl
  refine lv_goto (tgt := 756) hx hb dw_361 (by decide) ?_
  refine W.widen (k := cells + 4) (n := slots + 24) (by show cells + 3 + 0 ≤ cells + 4; omega) (by show slots + 18 + 0 ≤ slots + 24; omega) ?_
  exact kk _ _ _ hL (lv_sub hl [2, 3, 4, 5, 6] rfl)
theorem wl_case6 {p : Program} {l : Launch} {e : Env} {s : State} {m : MethodId} {args : Array Value} {below : List Frame} {meth : Method} {c : Code} {H : Heap} {locs : List Loc} {cells slots : Nat} {Q : State → Prop} {ls : Array Slot} {D : va_G} {A : Nat → Prop} {b L : Nat} {xs : Nat → Int32} {gm gq : Nat → Nat} {ca cq : Nat → ClassId} {o : Nat} {cO : ClassId} {st st' : BSt} {ms ms' : MSt} {f f' : Nat → Int64} {i k : Int32} {y1 y2 : Int32} {z : Int32} (hC : LC p s m args c D A b L xs ca cq cO) (v1 : vp_in (i + 1) L) (e1 : xs (i + 1).toNatClampNeg = y1) (v2 : vp_in (i + 2) L) (e2 : xs (i + 2).toNatClampNeg = y2) (hW : LM l yl_key rml_key D (tysO ca cO) [.ref (gm 0), .int y1, .int y2, .ref o] (wO gm ca st o cO f) (XI k) (wO gm ca st' o cO f')) (hM : LM l ym_key rmm_key D (tysM cq) [.ref (gq 0), .int y1, .int y2] (wM gq cq ms) (XI z) (wM gq cq ms')) (hce : cells + 4 ≤ 601024) (hsl : slots + 24 ≤ 7293000) (hL : LWd D A (wL gm ca gq cq o cO st ms f) s.heap H locs) (hl : lv_has ls 8 (lvL b gm gq o i))
    (kk : ∀ (H : Heap) (locs : List Loc) (ls : Array Slot), LWd D A (wL gm ca gq cq o cO st' ms' f') s.heap H locs → lv_has ls 8 (lvL b gm gq o i) → W p l e room_1 s m args below meth c H locs (cells + 4) (slots + 24) Q (F0 m 756 ls [])) : W p l e room_1 s m args below meth c H locs cells slots Q (F0 m 364 ls []) := by
  obtain ⟨hx, hb, hml, hown, hts, hkO, hkM, hZ, hA, hX, hbl, hbA⟩ := id hC
  refine lv_aload_n hx hb dw_364 rfl (lv_at hl 1 rfl) ?_
  refine lv_aload_n hx hb dw_365 rfl (lv_at hl 0 rfl) ?_
  refine lv_iload hx hb dw_366 (lv_at hl 4 rfl) ?_
  refine lv_iconst (v := 1) hx hb dw_368 rfl ?_
  refine lv_iadd hx hb dw_369 ?_
  refine va_sld hx hb hX hbl hbA hL.2.2 v1 dw_370 ?_
  rw [e1]
  refine lv_aload_n hx hb dw_371 rfl (lv_at hl 0 rfl) ?_
  refine lv_iload hx hb dw_372 (lv_at hl 4 rfl) ?_
  refine lv_iconst (v := 2) hx hb dw_374 rfl ?_
  refine lv_iadd hx hb dw_375 ?_
  refine va_sld hx hb hX hbl hbA hL.2.2 v2 dw_376 ?_
  rw [e2]
  refine lv_aload_n hx hb dw_377 rfl (lv_at hl 3 rfl) ?_
  refine lm_v (wr := wM gq cq ms) (lm_runSW (n := 4) hW ⟨by decide, by decide⟩ mcl_key inl_law (by decide +kernel) ll_key ls_key hx hb hml hown hts hkO hZ hL (List.Perm.refl _) hl.1 rfl rfl (lv_room (Nat.le_of_ble_eq_true rfl)) dw_378 ⟨by show cells + 3 ≤ 601024; omega, by show slots + 18 ≤ 7293000; omega⟩) hA hL (List.Perm.refl _) (List.Perm.refl _) ?_
  intro H locs hL
  change LWd D A (wL gm ca gq cq o cO st' ms f') s.heap H locs at hL
  refine lv_istore (i := 5) (nL := 8) hx hb dw_381 hl (by decide) rfl ?_
  intro ls hl
  refine lv_aload_n hx hb dw_383 rfl (lv_at hl 3 rfl) ?_
  refine lv_aload_n hx hb dw_384 rfl (lv_at hl 1 rfl) ?_
  refine lv_iload hx hb dw_385 (lv_at hl 5 rfl) ?_
  refine lv_iconst (v := 1) hx hb dw_387 rfl ?_
  refine lv_iadd hx hb dw_388 ?_
  refine va_sld hx hb hX hbl hbA hL.2.2 v1 dw_389 ?_
  rw [e1]
  refine lv_aload_n hx hb dw_390 rfl (lv_at hl 1 rfl) ?_
  refine lv_iload hx hb dw_391 (lv_at hl 5 rfl) ?_
  refine lv_iconst (v := 2) hx hb dw_393 rfl ?_
  refine lv_iadd hx hb dw_394 ?_
  refine va_sld hx hb hX hbl hbA hL.2.2 v2 dw_395 ?_
  rw [e2]
  refine lm_v (wr := wO gm ca st' o cO f') (lm_runV (q0 := 0) (ci := 1) hM (cw_lm_key hts ⟨by decide, by decide⟩) hx hb hml hown hts hkM hZ hL List.perm_append_comm rfl rfl hl.1 rfl rfl (lv_room (Nat.le_of_ble_eq_true rfl)) dw_396 ⟨by show cells + 3 + 0 ≤ 601024; omega, by show slots + 18 + 0 ≤ 7293000; omega⟩) hA hL List.perm_append_comm List.perm_append_comm ?_
  intro H locs hL
  change LWd D A (wL gm ca gq cq o cO st' ms' f') s.heap H locs at hL
  refine lv_istore (i := 6) (nL := 8) hx hb dw_399 hl (by decide) rfl ?_
  intro ls hl
  refine lv_goto (tgt := 756) hx hb dw_401 (by decide) ?_
  refine W.widen (k := cells + 4) (n := slots + 24) (by show cells + 3 + 0 ≤ cells + 4; omega) (by show slots + 18 + 0 ≤ slots + 24; omega) ?_
  exact kk _ _ _ hL (lv_sub hl [2, 3, 4, 5, 6] rfl)
theorem wl_case7 {p : Program} {l : Launch} {e : Env} {s : State} {m : MethodId} {args : Array Value} {below : List Frame} {meth : Method} {c : Code} {H : Heap} {locs : List Loc} {cells slots : Nat} {Q : State → Prop} {ls : Array Slot} {D : va_G} {A : Nat → Prop} {b L : Nat} {xs : Nat → Int32} {gm gq : Nat → Nat} {ca cq : Nat → ClassId} {o : Nat} {cO : ClassId} {st st' : BSt} {ms ms' : MSt} {f f' : Nat → Int64} {i k : Int32} {y1 y2 : Int32} {z : Int32} (hC : LC p s m args c D A b L xs ca cq cO) (v1 : vp_in (i + 1) L) (e1 : xs (i + 1).toNatClampNeg = y1) (v2 : vp_in (i + 2) L) (e2 : xs (i + 2).toNatClampNeg = y2) (hW : LM l yl_same rml_same D (tysO ca cO) [.ref (gm 0), .int y1, .int y2, .ref o] (wO gm ca st o cO f) (XI k) (wO gm ca st' o cO f')) (hM : LM l ym_same rmm_same D (tysM cq) [.ref (gq 0), .int y1, .int y2] (wM gq cq ms) (XI z) (wM gq cq ms')) (hce : cells + 4 ≤ 601024) (hsl : slots + 24 ≤ 7293000) (hL : LWd D A (wL gm ca gq cq o cO st ms f) s.heap H locs) (hl : lv_has ls 8 (lvL b gm gq o i))
    (kk : ∀ (H : Heap) (locs : List Loc) (ls : Array Slot), LWd D A (wL gm ca gq cq o cO st' ms' f') s.heap H locs → lv_has ls 8 (lvL b gm gq o i) → W p l e room_1 s m args below meth c H locs (cells + 4) (slots + 24) Q (F0 m 756 ls [])) : W p l e room_1 s m args below meth c H locs cells slots Q (F0 m 404 ls []) := by
  obtain ⟨hx, hb, hml, hown, hts, hkO, hkM, hZ, hA, hX, hbl, hbA⟩ := id hC
  refine lv_aload_n hx hb dw_404 rfl (lv_at hl 1 rfl) ?_
  refine lv_aload_n hx hb dw_405 rfl (lv_at hl 0 rfl) ?_
  refine lv_iload hx hb dw_406 (lv_at hl 4 rfl) ?_
  refine lv_iconst (v := 1) hx hb dw_408 rfl ?_
  refine lv_iadd hx hb dw_409 ?_
  refine va_sld hx hb hX hbl hbA hL.2.2 v1 dw_410 ?_
  rw [e1]
  refine lv_aload_n hx hb dw_411 rfl (lv_at hl 0 rfl) ?_
  refine lv_iload hx hb dw_412 (lv_at hl 4 rfl) ?_
  refine lv_iconst (v := 2) hx hb dw_414 rfl ?_
  refine lv_iadd hx hb dw_415 ?_
  refine va_sld hx hb hX hbl hbA hL.2.2 v2 dw_416 ?_
  rw [e2]
  refine lv_aload_n hx hb dw_417 rfl (lv_at hl 3 rfl) ?_
  refine lm_v (wr := wM gq cq ms) (lm_runSW (n := 4) hW ⟨by decide, by decide⟩ mcl_same inl_law (by decide +kernel) ll_same ls_same hx hb hml hown hts hkO hZ hL (List.Perm.refl _) hl.1 rfl rfl (lv_room (Nat.le_of_ble_eq_true rfl)) dw_418 ⟨by show cells + 3 ≤ 601024; omega, by show slots + 18 ≤ 7293000; omega⟩) hA hL (List.Perm.refl _) (List.Perm.refl _) ?_
  intro H locs hL
  change LWd D A (wL gm ca gq cq o cO st' ms f') s.heap H locs at hL
  refine lv_istore (i := 5) (nL := 8) hx hb dw_421 hl (by decide) rfl ?_
  intro ls hl
  refine lv_aload_n hx hb dw_423 rfl (lv_at hl 3 rfl) ?_
  refine lv_aload_n hx hb dw_424 rfl (lv_at hl 1 rfl) ?_
  refine lv_iload hx hb dw_425 (lv_at hl 5 rfl) ?_
  refine lv_iconst (v := 1) hx hb dw_427 rfl ?_
  refine lv_iadd hx hb dw_428 ?_
  refine va_sld hx hb hX hbl hbA hL.2.2 v1 dw_429 ?_
  rw [e1]
  refine lv_aload_n hx hb dw_430 rfl (lv_at hl 1 rfl) ?_
  refine lv_iload hx hb dw_431 (lv_at hl 5 rfl) ?_
  refine lv_iconst (v := 2) hx hb dw_433 rfl ?_
  refine lv_iadd hx hb dw_434 ?_
  refine va_sld hx hb hX hbl hbA hL.2.2 v2 dw_435 ?_
  rw [e2]
  refine lm_v (wr := wO gm ca st' o cO f') (lm_runV (q0 := 0) (ci := 1) hM (cw_lm_same hts ⟨by decide, by decide⟩) hx hb hml hown hts hkM hZ hL List.perm_append_comm rfl rfl hl.1 rfl rfl (lv_room (Nat.le_of_ble_eq_true rfl)) dw_436 ⟨by show cells + 3 + 0 ≤ 601024; omega, by show slots + 18 + 0 ≤ 7293000; omega⟩) hA hL List.perm_append_comm List.perm_append_comm ?_
  intro H locs hL
  change LWd D A (wL gm ca gq cq o cO st' ms' f') s.heap H locs at hL
  refine lv_istore (i := 6) (nL := 8) hx hb dw_439 hl (by decide) rfl ?_
  intro ls hl
  refine lv_goto (tgt := 756) hx hb dw_441 (by decide) ?_
  refine W.widen (k := cells + 4) (n := slots + 24) (by show cells + 3 + 0 ≤ cells + 4; omega) (by show slots + 18 + 0 ≤ slots + 24; omega) ?_
  exact kk _ _ _ hL (lv_sub hl [2, 3, 4, 5, 6] rfl)
theorem wl_case8 {p : Program} {l : Launch} {e : Env} {s : State} {m : MethodId} {args : Array Value} {below : List Frame} {meth : Method} {c : Code} {H : Heap} {locs : List Loc} {cells slots : Nat} {Q : State → Prop} {ls : Array Slot} {D : va_G} {A : Nat → Prop} {b L : Nat} {xs : Nat → Int32} {gm gq : Nat → Nat} {ca cq : Nat → ClassId} {o : Nat} {cO : ClassId} {st st' : BSt} {ms ms' : MSt} {f f' : Nat → Int64} {i k : Int32} {z : Int32} (hC : LC p s m args c D A b L xs ca cq cO)  (hW : LM l yl_free rml_free D (tysO ca cO) [.ref (gm 0), .ref o] (wO gm ca st o cO f) (XI k) (wO gm ca st' o cO f')) (hM : LM l ym_free rmm_free D (tysM cq) [.ref (gq 0)] (wM gq cq ms) (XI z) (wM gq cq ms')) (hce : cells + 4 ≤ 601024) (hsl : slots + 24 ≤ 7293000) (hL : LWd D A (wL gm ca gq cq o cO st ms f) s.heap H locs) (hl : lv_has ls 8 (lvL b gm gq o i))
    (kk : ∀ (H : Heap) (locs : List Loc) (ls : Array Slot), LWd D A (wL gm ca gq cq o cO st' ms' f') s.heap H locs → lv_has ls 8 (lvL b gm gq o i) → W p l e room_1 s m args below meth c H locs (cells + 4) (slots + 24) Q (F0 m 756 ls [])) : W p l e room_1 s m args below meth c H locs cells slots Q (F0 m 444 ls []) := by
  obtain ⟨hx, hb, hml, hown, hts, hkO, hkM, hZ, hA, hX, hbl, hbA⟩ := id hC
  refine lv_aload_n hx hb dw_444 rfl (lv_at hl 1 rfl) ?_
  refine lv_aload_n hx hb dw_445 rfl (lv_at hl 3 rfl) ?_
  refine lm_v (wr := wM gq cq ms) (lm_runSW (n := 2) hW ⟨by decide, by decide⟩ mcl_free inl_law (by decide +kernel) ll_free ls_free hx hb hml hown hts hkO hZ hL (List.Perm.refl _) hl.1 rfl rfl (lv_room (Nat.le_of_ble_eq_true rfl)) dw_446 ⟨by show cells + 1 ≤ 601024; omega, by show slots + 6 ≤ 7293000; omega⟩) hA hL (List.Perm.refl _) (List.Perm.refl _) ?_
  intro H locs hL
  change LWd D A (wL gm ca gq cq o cO st' ms f') s.heap H locs at hL
  refine lv_istore (i := 5) (nL := 8) hx hb dw_449 hl (by decide) rfl ?_
  intro ls hl
  refine lv_aload_n hx hb dw_451 rfl (lv_at hl 3 rfl) ?_
  refine lm_v (wr := wO gm ca st' o cO f') (lm_runV (q0 := 0) (ci := 1) hM (cw_lm_free hts ⟨by decide, by decide⟩) hx hb hml hown hts hkM hZ hL List.perm_append_comm rfl rfl hl.1 rfl rfl (lv_room (Nat.le_of_ble_eq_true rfl)) dw_452 ⟨by show cells + 1 + 0 ≤ 601024; omega, by show slots + 6 + 0 ≤ 7293000; omega⟩) hA hL List.perm_append_comm List.perm_append_comm ?_
  intro H locs hL
  change LWd D A (wL gm ca gq cq o cO st' ms' f') s.heap H locs at hL
  refine lv_istore (i := 6) (nL := 8) hx hb dw_455 hl (by decide) rfl ?_
  intro ls hl
  refine lv_goto (tgt := 756) hx hb dw_457 (by decide) ?_
  refine W.widen (k := cells + 4) (n := slots + 24) (by show cells + 1 + 0 ≤ cells + 4; omega) (by show slots + 6 + 0 ≤ slots + 24; omega) ?_
  exact kk _ _ _ hL (lv_sub hl [2, 3, 4, 5, 6] rfl)
theorem wl_case9 {p : Program} {l : Launch} {e : Env} {s : State} {m : MethodId} {args : Array Value} {below : List Frame} {meth : Method} {c : Code} {H : Heap} {locs : List Loc} {cells slots : Nat} {Q : State → Prop} {ls : Array Slot} {D : va_G} {A : Nat → Prop} {b L : Nat} {xs : Nat → Int32} {gm gq : Nat → Nat} {ca cq : Nat → ClassId} {o : Nat} {cO : ClassId} {st st' : BSt} {ms ms' : MSt} {f f' : Nat → Int64} {i k : Int32} {y1 : Int32} {z : Int32} (hC : LC p s m args c D A b L xs ca cq cO) (v1 : vp_in (i + 1) L) (e1 : xs (i + 1).toNatClampNeg = y1) (hW : LM l yl_crash rml_crash D (tysO ca cO) [.ref (gm 0), .int y1, .ref o] (wO gm ca st o cO f) (XI k) (wO gm ca st' o cO f')) (hM : LM l ym_crash rmm_crash D (tysM cq) [.ref (gq 0), .int y1] (wM gq cq ms) (XI z) (wM gq cq ms')) (hce : cells + 4 ≤ 601024) (hsl : slots + 24 ≤ 7293000) (hL : LWd D A (wL gm ca gq cq o cO st ms f) s.heap H locs) (hl : lv_has ls 8 (lvL b gm gq o i))
    (kk : ∀ (H : Heap) (locs : List Loc) (ls : Array Slot), LWd D A (wL gm ca gq cq o cO st' ms' f') s.heap H locs → lv_has ls 8 (lvL b gm gq o i) → W p l e room_1 s m args below meth c H locs (cells + 4) (slots + 24) Q (F0 m 756 ls [])) : W p l e room_1 s m args below meth c H locs cells slots Q (F0 m 460 ls []) := by
  obtain ⟨hx, hb, hml, hown, hts, hkO, hkM, hZ, hA, hX, hbl, hbA⟩ := id hC
  refine lv_aload_n hx hb dw_460 rfl (lv_at hl 1 rfl) ?_
  refine lv_aload_n hx hb dw_461 rfl (lv_at hl 0 rfl) ?_
  refine lv_iload hx hb dw_462 (lv_at hl 4 rfl) ?_
  refine lv_iconst (v := 1) hx hb dw_464 rfl ?_
  refine lv_iadd hx hb dw_465 ?_
  refine va_sld hx hb hX hbl hbA hL.2.2 v1 dw_466 ?_
  rw [e1]
  refine lv_aload_n hx hb dw_467 rfl (lv_at hl 3 rfl) ?_
  refine lm_v (wr := wM gq cq ms) (lm_runSW (n := 3) hW ⟨by decide, by decide⟩ mcl_crash inl_law (by decide +kernel) ll_crash ls_crash hx hb hml hown hts hkO hZ hL (List.Perm.refl _) hl.1 rfl rfl (lv_room (Nat.le_of_ble_eq_true rfl)) dw_468 ⟨by show cells + 2 ≤ 601024; omega, by show slots + 12 ≤ 7293000; omega⟩) hA hL (List.Perm.refl _) (List.Perm.refl _) ?_
  intro H locs hL
  change LWd D A (wL gm ca gq cq o cO st' ms f') s.heap H locs at hL
  refine lv_istore (i := 5) (nL := 8) hx hb dw_471 hl (by decide) rfl ?_
  intro ls hl
  refine lv_aload_n hx hb dw_473 rfl (lv_at hl 3 rfl) ?_
  refine lv_aload_n hx hb dw_474 rfl (lv_at hl 1 rfl) ?_
  refine lv_iload hx hb dw_475 (lv_at hl 5 rfl) ?_
  refine lv_iconst (v := 1) hx hb dw_477 rfl ?_
  refine lv_iadd hx hb dw_478 ?_
  refine va_sld hx hb hX hbl hbA hL.2.2 v1 dw_479 ?_
  rw [e1]
  refine lm_v (wr := wO gm ca st' o cO f') (lm_runV (q0 := 0) (ci := 1) hM (cw_lm_crash hts ⟨by decide, by decide⟩) hx hb hml hown hts hkM hZ hL List.perm_append_comm rfl rfl hl.1 rfl rfl (lv_room (Nat.le_of_ble_eq_true rfl)) dw_480 ⟨by show cells + 2 + 0 ≤ 601024; omega, by show slots + 12 + 0 ≤ 7293000; omega⟩) hA hL List.perm_append_comm List.perm_append_comm ?_
  intro H locs hL
  change LWd D A (wL gm ca gq cq o cO st' ms' f') s.heap H locs at hL
  refine lv_istore (i := 6) (nL := 8) hx hb dw_483 hl (by decide) rfl ?_
  intro ls hl
  refine lv_goto (tgt := 756) hx hb dw_485 (by decide) ?_
  refine W.widen (k := cells + 4) (n := slots + 24) (by show cells + 2 + 0 ≤ cells + 4; omega) (by show slots + 12 + 0 ≤ slots + 24; omega) ?_
  exact kk _ _ _ hL (lv_sub hl [2, 3, 4, 5, 6] rfl)
theorem wl_case10 {p : Program} {l : Launch} {e : Env} {s : State} {m : MethodId} {args : Array Value} {below : List Frame} {meth : Method} {c : Code} {H : Heap} {locs : List Loc} {cells slots : Nat} {Q : State → Prop} {ls : Array Slot} {D : va_G} {A : Nat → Prop} {b L : Nat} {xs : Nat → Int32} {gm gq : Nat → Nat} {ca cq : Nat → ClassId} {o : Nat} {cO : ClassId} {st st' : BSt} {ms ms' : MSt} {f : Nat → Int64} {i : Int32} {z z2 : Int32} (hC : LC p s m args c D A b L xs ca cq cO)  (hW : LM l yb_reopen rmb_reopen D (tysB ca) [.ref (gm 0)] (wB gm ca st) (XI z) (wB gm ca st')) (hM : LM l ym_reopen rmm_reopen D (tysM cq) [.ref (gq 0)] (wM gq cq ms) (XI z2) (wM gq cq ms')) (hce : cells + 4 ≤ 601024) (hsl : slots + 24 ≤ 7293000) (hL : LWd D A (wL gm ca gq cq o cO st ms f) s.heap H locs) (hl : lv_has ls 8 (lvL b gm gq o i))
    (kk : ∀ (H : Heap) (locs : List Loc) (ls : Array Slot), LWd D A (wL gm ca gq cq o cO st' ms' f) s.heap H locs → lv_has ls 8 (lvL b gm gq o i) → W p l e room_1 s m args below meth c H locs (cells + 4) (slots + 24) Q (F0 m 756 ls [])) : W p l e room_1 s m args below meth c H locs cells slots Q (F0 m 488 ls []) := by
  obtain ⟨hx, hb, hml, hown, hts, hkO, hkM, hZ, hA, hX, hbl, hbA⟩ := id hC
  refine lv_aload_n hx hb dw_488 rfl (lv_at hl 1 rfl) ?_
  refine lm_v (wr := wM gq cq ms ++ [eO o cO f]) (lm_runV (q0 := 0) (ci := 0) hW (cw_l_reopen hts ⟨by decide, by decide⟩) hx hb hml hown hts hkO.tail hZ hL wL_b rfl rfl hl.1 rfl rfl (lv_room (Nat.le_of_ble_eq_true rfl)) dw_489 ⟨by show cells + 0 ≤ 601024; omega, by show slots + 0 ≤ 7293000; omega⟩) hA hL wL_b wL_b.symm ?_
  intro H locs hL
  refine lv_pop hx hb dw_492 rfl ?_
  refine lv_aload_n hx hb dw_493 rfl (lv_at hl 2 rfl) ?_
  refine lm_v (wr := wO gm ca st' o cO f) (lm_runV (q0 := 0) (ci := 1) hM (cw_lm_reopen hts ⟨by decide, by decide⟩) hx hb hml hown hts hkM hZ hL List.perm_append_comm rfl rfl hl.1 rfl rfl (lv_room (Nat.le_of_ble_eq_true rfl)) dw_494 ⟨by show cells + 0 + 0 ≤ 601024; omega, by show slots + 0 + 0 ≤ 7293000; omega⟩) hA hL List.perm_append_comm List.perm_append_comm ?_
  intro H locs hL
  change LWd D A (wL gm ca gq cq o cO st' ms' f) s.heap H locs at hL
  refine lv_pop hx hb dw_497 rfl ?_
  refine lv_goto (tgt := 756) hx hb dw_498 (by decide) ?_
  refine W.widen (k := cells + 4) (n := slots + 24) (by show cells + 0 + 0 ≤ cells + 4; omega) (by show slots + 0 + 0 ≤ slots + 24; omega) ?_
  exact kk _ _ _ hL (lv_sub hl [0, 1, 2, 3, 4] rfl)
theorem wl_case11 {p : Program} {l : Launch} {e : Env} {s : State} {m : MethodId} {args : Array Value} {below : List Frame} {meth : Method} {c : Code} {H : Heap} {locs : List Loc} {cells slots : Nat} {Q : State → Prop} {ls : Array Slot} {D : va_G} {A : Nat → Prop} {b L : Nat} {xs : Nat → Int32} {gm gq : Nat → Nat} {ca cq : Nat → ClassId} {o : Nat} {cO : ClassId} {st st' : BSt} {ms ms' : MSt} {f f' : Nat → Int64} {i k : Int32} {y1 y2 : Int32} {z : Int64} (hC : LC p s m args c D A b L xs ca cq cO) (v1 : vp_in (i + 1) L) (e1 : xs (i + 1).toNatClampNeg = y1) (v2 : vp_in (i + 2) L) (e2 : xs (i + 2).toNatClampNeg = y2) (hW : LM l yl_wordAt rml_wordAt D (tysO ca cO) [.ref (gm 0), .int y1, .int y2, .ref o] (wO gm ca st o cO f) (XI k) (wO gm ca st' o cO f')) (hM : LM l ym_wordAt rmm_wordAt D (tysM cq) [.ref (gq 0), .int y1, .int y2] (wM gq cq ms) (XL z) (wM gq cq ms')) (hce : cells + 4 ≤ 601024) (hsl : slots + 24 ≤ 7293000) (hL : LWd D A (wL gm ca gq cq o cO st ms f) s.heap H locs) (hl : lv_has ls 8 (lvL b gm gq o i))
    (kk : ∀ (H : Heap) (locs : List Loc) (ls : Array Slot), LWd D A (wL gm ca gq cq o cO st' ms' f') s.heap H locs → lv_has ls 8 (lvL b gm gq o i) → W p l e room_1 s m args below meth c H locs (cells + 4) (slots + 24) Q (F0 m 756 ls [])) : W p l e room_1 s m args below meth c H locs cells slots Q (F0 m 501 ls []) := by
  obtain ⟨hx, hb, hml, hown, hts, hkO, hkM, hZ, hA, hX, hbl, hbA⟩ := id hC
  refine lv_aload_n hx hb dw_501 rfl (lv_at hl 1 rfl) ?_
  refine lv_aload_n hx hb dw_502 rfl (lv_at hl 0 rfl) ?_
  refine lv_iload hx hb dw_503 (lv_at hl 4 rfl) ?_
  refine lv_iconst (v := 1) hx hb dw_505 rfl ?_
  refine lv_iadd hx hb dw_506 ?_
  refine va_sld hx hb hX hbl hbA hL.2.2 v1 dw_507 ?_
  rw [e1]
  refine lv_aload_n hx hb dw_508 rfl (lv_at hl 0 rfl) ?_
  refine lv_iload hx hb dw_509 (lv_at hl 4 rfl) ?_
  refine lv_iconst (v := 2) hx hb dw_511 rfl ?_
  refine lv_iadd hx hb dw_512 ?_
  refine va_sld hx hb hX hbl hbA hL.2.2 v2 dw_513 ?_
  rw [e2]
  refine lv_aload_n hx hb dw_514 rfl (lv_at hl 3 rfl) ?_
  refine lm_v (wr := wM gq cq ms) (lm_runSW (n := 4) hW ⟨by decide, by decide⟩ mcl_wordAt inl_law (by decide +kernel) ll_wordAt ls_wordAt hx hb hml hown hts hkO hZ hL (List.Perm.refl _) hl.1 rfl rfl (lv_room (Nat.le_of_ble_eq_true rfl)) dw_515 ⟨by show cells + 1 ≤ 601024; omega, by show slots + 6 ≤ 7293000; omega⟩) hA hL (List.Perm.refl _) (List.Perm.refl _) ?_
  intro H locs hL
  change LWd D A (wL gm ca gq cq o cO st' ms f') s.heap H locs at hL
  refine lv_istore (i := 5) (nL := 8) hx hb dw_518 hl (by decide) rfl ?_
  intro ls hl
  refine lv_aload_n hx hb dw_520 rfl (lv_at hl 3 rfl) ?_
  refine lv_aload_n hx hb dw_521 rfl (lv_at hl 1 rfl) ?_
  refine lv_iload hx hb dw_522 (lv_at hl 5 rfl) ?_
  refine lv_iconst (v := 1) hx hb dw_524 rfl ?_
  refine lv_iadd hx hb dw_525 ?_
  refine va_sld hx hb hX hbl hbA hL.2.2 v1 dw_526 ?_
  rw [e1]
  refine lv_aload_n hx hb dw_527 rfl (lv_at hl 1 rfl) ?_
  refine lv_iload hx hb dw_528 (lv_at hl 5 rfl) ?_
  refine lv_iconst (v := 2) hx hb dw_530 rfl ?_
  refine lv_iadd hx hb dw_531 ?_
  refine va_sld hx hb hX hbl hbA hL.2.2 v2 dw_532 ?_
  rw [e2]
  refine lm_v (wr := wO gm ca st' o cO f') (lm_runV (q0 := 0) (ci := 1) hM (cw_lm_wordAt hts ⟨by decide, by decide⟩) hx hb hml hown hts hkM hZ hL List.perm_append_comm rfl rfl hl.1 rfl rfl (lv_room (Nat.le_of_ble_eq_true rfl)) dw_533 ⟨by show cells + 1 + 0 ≤ 601024; omega, by show slots + 6 + 0 ≤ 7293000; omega⟩) hA hL List.perm_append_comm List.perm_append_comm ?_
  intro H locs hL
  change LWd D A (wL gm ca gq cq o cO st' ms' f') s.heap H locs at hL
  refine lv_lstore (i := 6) (nL := 8) hx hb dw_536 hl (by decide) rfl ?_
  intro ls hl
  refine lv_goto (tgt := 756) hx hb dw_538 (by decide) ?_
  refine W.widen (k := cells + 4) (n := slots + 24) (by show cells + 1 + 0 ≤ cells + 4; omega) (by show slots + 6 + 0 ≤ slots + 24; omega) ?_
  exact kk _ _ _ hL (lv_sub hl [2, 3, 4, 5, 6] rfl)
theorem wl_case12 {p : Program} {l : Launch} {e : Env} {s : State} {m : MethodId} {args : Array Value} {below : List Frame} {meth : Method} {c : Code} {H : Heap} {locs : List Loc} {cells slots : Nat} {Q : State → Prop} {ls : Array Slot} {D : va_G} {A : Nat → Prop} {b L : Nat} {xs : Nat → Int32} {gm gq : Nat → Nat} {ca cq : Nat → ClassId} {o : Nat} {cO : ClassId} {st st' : BSt} {ms ms' : MSt} {f f' : Nat → Int64} {i k : Int32} {y1 y2 : Int32} {z : Int64} (hC : LC p s m args c D A b L xs ca cq cO) (v1 : vp_in (i + 1) L) (e1 : xs (i + 1).toNatClampNeg = y1) (v2 : vp_in (i + 2) L) (e2 : xs (i + 2).toNatClampNeg = y2) (hW : LM l yl_rootAt rml_rootAt D (tysO ca cO) [.ref (gm 0), .int y1, .int y2, .ref o] (wO gm ca st o cO f) (XI k) (wO gm ca st' o cO f')) (hM : LM l ym_rootAt rmm_rootAt D (tysM cq) [.ref (gq 0), .int y1, .int y2] (wM gq cq ms) (XL z) (wM gq cq ms')) (hce : cells + 4 ≤ 601024) (hsl : slots + 24 ≤ 7293000) (hL : LWd D A (wL gm ca gq cq o cO st ms f) s.heap H locs) (hl : lv_has ls 8 (lvL b gm gq o i))
    (kk : ∀ (H : Heap) (locs : List Loc) (ls : Array Slot), LWd D A (wL gm ca gq cq o cO st' ms' f') s.heap H locs → lv_has ls 8 (lvL b gm gq o i) → W p l e room_1 s m args below meth c H locs (cells + 4) (slots + 24) Q (F0 m 756 ls [])) : W p l e room_1 s m args below meth c H locs cells slots Q (F0 m 541 ls []) := by
  obtain ⟨hx, hb, hml, hown, hts, hkO, hkM, hZ, hA, hX, hbl, hbA⟩ := id hC
  refine lv_aload_n hx hb dw_541 rfl (lv_at hl 1 rfl) ?_
  refine lv_aload_n hx hb dw_542 rfl (lv_at hl 0 rfl) ?_
  refine lv_iload hx hb dw_543 (lv_at hl 4 rfl) ?_
  refine lv_iconst (v := 1) hx hb dw_545 rfl ?_
  refine lv_iadd hx hb dw_546 ?_
  refine va_sld hx hb hX hbl hbA hL.2.2 v1 dw_547 ?_
  rw [e1]
  refine lv_aload_n hx hb dw_548 rfl (lv_at hl 0 rfl) ?_
  refine lv_iload hx hb dw_549 (lv_at hl 4 rfl) ?_
  refine lv_iconst (v := 2) hx hb dw_551 rfl ?_
  refine lv_iadd hx hb dw_552 ?_
  refine va_sld hx hb hX hbl hbA hL.2.2 v2 dw_553 ?_
  rw [e2]
  refine lv_aload_n hx hb dw_554 rfl (lv_at hl 3 rfl) ?_
  refine lm_v (wr := wM gq cq ms) (lm_runSW (n := 4) hW ⟨by decide, by decide⟩ mcl_rootAt inl_law (by decide +kernel) ll_rootAt ls_rootAt hx hb hml hown hts hkO hZ hL (List.Perm.refl _) hl.1 rfl rfl (lv_room (Nat.le_of_ble_eq_true rfl)) dw_555 ⟨by show cells + 1 ≤ 601024; omega, by show slots + 6 ≤ 7293000; omega⟩) hA hL (List.Perm.refl _) (List.Perm.refl _) ?_
  intro H locs hL
  change LWd D A (wL gm ca gq cq o cO st' ms f') s.heap H locs at hL
  refine lv_istore (i := 5) (nL := 8) hx hb dw_558 hl (by decide) rfl ?_
  intro ls hl
  refine lv_aload_n hx hb dw_560 rfl (lv_at hl 3 rfl) ?_
  refine lv_aload_n hx hb dw_561 rfl (lv_at hl 1 rfl) ?_
  refine lv_iload hx hb dw_562 (lv_at hl 5 rfl) ?_
  refine lv_iconst (v := 1) hx hb dw_564 rfl ?_
  refine lv_iadd hx hb dw_565 ?_
  refine va_sld hx hb hX hbl hbA hL.2.2 v1 dw_566 ?_
  rw [e1]
  refine lv_aload_n hx hb dw_567 rfl (lv_at hl 1 rfl) ?_
  refine lv_iload hx hb dw_568 (lv_at hl 5 rfl) ?_
  refine lv_iconst (v := 2) hx hb dw_570 rfl ?_
  refine lv_iadd hx hb dw_571 ?_
  refine va_sld hx hb hX hbl hbA hL.2.2 v2 dw_572 ?_
  rw [e2]
  refine lm_v (wr := wO gm ca st' o cO f') (lm_runV (q0 := 0) (ci := 1) hM (cw_lm_rootAt hts ⟨by decide, by decide⟩) hx hb hml hown hts hkM hZ hL List.perm_append_comm rfl rfl hl.1 rfl rfl (lv_room (Nat.le_of_ble_eq_true rfl)) dw_573 ⟨by show cells + 1 + 0 ≤ 601024; omega, by show slots + 6 + 0 ≤ 7293000; omega⟩) hA hL List.perm_append_comm List.perm_append_comm ?_
  intro H locs hL
  change LWd D A (wL gm ca gq cq o cO st' ms' f') s.heap H locs at hL
  refine lv_lstore (i := 6) (nL := 8) hx hb dw_576 hl (by decide) rfl ?_
  intro ls hl
  refine lv_goto (tgt := 756) hx hb dw_578 (by decide) ?_
  refine W.widen (k := cells + 4) (n := slots + 24) (by show cells + 1 + 0 ≤ cells + 4; omega) (by show slots + 6 + 0 ≤ slots + 24; omega) ?_
  exact kk _ _ _ hL (lv_sub hl [2, 3, 4, 5, 6] rfl)
theorem wl_case13 {p : Program} {l : Launch} {e : Env} {s : State} {m : MethodId} {args : Array Value} {below : List Frame} {meth : Method} {c : Code} {H : Heap} {locs : List Loc} {cells slots : Nat} {Q : State → Prop} {ls : Array Slot} {D : va_G} {A : Nat → Prop} {b L : Nat} {xs : Nat → Int32} {gm gq : Nat → Nat} {ca cq : Nat → ClassId} {o : Nat} {cO : ClassId} {st st' : BSt} {ms ms' : MSt} {f : Nat → Int64} {i k : Int32} {y1 y2 y3 y4 : Int32} (hC : LC p s m args c D A b L xs ca cq cO) (v1 : vp_in (i + 1) L) (e1 : xs (i + 1).toNatClampNeg = y1) (v2 : vp_in (i + 2) L) (e2 : xs (i + 2).toNatClampNeg = y2) (v3 : vp_in (i + 3) L) (e3 : xs (i + 3).toNatClampNeg = y3) (v4 : vp_in (i + 4) L) (e4 : xs (i + 4).toNatClampNeg = y4) (hW : LM l yl_poke rml_poke D (tysO ca cO) [.ref (gm 0), .int y1, .int y2, .long (lvl y3 y4)] (wO gm ca st o cO f) (XI k) (wO gm ca st' o cO f)) (hM : LM l ym_poke rmm_poke D (tysM cq) [.ref (gq 0), .int y1, .int y2, .long (lvl y3 y4)] (wM gq cq ms) (XV) (wM gq cq ms')) (hce : cells + 4 ≤ 601024) (hsl : slots + 24 ≤ 7293000) (hL : LWd D A (wL gm ca gq cq o cO st ms f) s.heap H locs) (hl : lv_has ls 8 (lvL b gm gq o i))
    (kk : ∀ (H : Heap) (locs : List Loc) (ls : Array Slot), LWd D A (wL gm ca gq cq o cO st' ms' f) s.heap H locs → lv_has ls 8 (lvL b gm gq o i) → W p l e room_1 s m args below meth c H locs (cells + 4) (slots + 24) Q (F0 m 756 ls [])) : W p l e room_1 s m args below meth c H locs cells slots Q (F0 m 581 ls []) := by
  obtain ⟨hx, hb, hml, hown, hts, hkO, hkM, hZ, hA, hX, hbl, hbA⟩ := id hC
  refine lv_aload_n hx hb dw_581 rfl (lv_at hl 1 rfl) ?_
  refine lv_aload_n hx hb dw_582 rfl (lv_at hl 0 rfl) ?_
  refine lv_iload hx hb dw_583 (lv_at hl 4 rfl) ?_
  refine lv_iconst (v := 1) hx hb dw_585 rfl ?_
  refine lv_iadd hx hb dw_586 ?_
  refine va_sld hx hb hX hbl hbA hL.2.2 v1 dw_587 ?_
  rw [e1]
  refine lv_aload_n hx hb dw_588 rfl (lv_at hl 0 rfl) ?_
  refine lv_iload hx hb dw_589 (lv_at hl 4 rfl) ?_
  refine lv_iconst (v := 2) hx hb dw_591 rfl ?_
  refine lv_iadd hx hb dw_592 ?_
  refine va_sld hx hb hX hbl hbA hL.2.2 v2 dw_593 ?_
  rw [e2]
  refine lv_aload_n hx hb dw_594 rfl (lv_at hl 0 rfl) ?_
  refine lv_iload hx hb dw_595 (lv_at hl 4 rfl) ?_
  refine lv_iconst (v := 3) hx hb dw_597 rfl ?_
  refine lv_iadd hx hb dw_598 ?_
  refine va_sld hx hb hX hbl hbA hL.2.2 v3 dw_599 ?_
  rw [e3]
  refine lv_i2l hx hb dw_600 rfl ?_
  refine lv_bipush (v := 32) hx hb dw_601 (by decide) ?_
  refine lv_lshl hx hb dw_603 rfl ?_
  refine lv_aload_n hx hb dw_604 rfl (lv_at hl 0 rfl) ?_
  refine lv_iload hx hb dw_605 (lv_at hl 4 rfl) ?_
  refine lv_iconst (v := 4) hx hb dw_607 rfl ?_
  refine lv_iadd hx hb dw_608 ?_
  refine va_sld hx hb hX hbl hbA hL.2.2 v4 dw_609 ?_
  rw [e4]
  refine lv_i2l hx hb dw_610 rfl ?_
  refine lv_ldc2 hx hb hown (kcl_76 hts) dw_611 ?_
  refine lv_land hx hb dw_614 ?_
  refine lv_lor hx hb dw_615 ?_
  refine lm_v (wr := wM gq cq ms) (lm_runSW (n := 4) hW ⟨by decide, by decide⟩ mcl_poke inl_law (by decide +kernel) ll_poke ls_poke hx hb hml hown hts hkO hZ hL (List.Perm.refl _) hl.1 rfl rfl (lv_room (Nat.le_of_ble_eq_true rfl)) dw_616 ⟨by show cells + 2 ≤ 601024; omega, by show slots + 12 ≤ 7293000; omega⟩) hA hL (List.Perm.refl _) (List.Perm.refl _) ?_
  intro H locs hL
  change LWd D A (wL gm ca gq cq o cO st' ms f) s.heap H locs at hL
  refine lv_istore (i := 5) (nL := 8) hx hb dw_619 hl (by decide) rfl ?_
  intro ls hl
  refine lv_aload_n hx hb dw_621 rfl (lv_at hl 3 rfl) ?_
  refine lv_aload_n hx hb dw_622 rfl (lv_at hl 1 rfl) ?_
  refine lv_iload hx hb dw_623 (lv_at hl 5 rfl) ?_
  refine lv_iconst (v := 1) hx hb dw_625 rfl ?_
  refine lv_iadd hx hb dw_626 ?_
  refine va_sld hx hb hX hbl hbA hL.2.2 v1 dw_627 ?_
  rw [e1]
  refine lv_aload_n hx hb dw_628 rfl (lv_at hl 1 rfl) ?_
  refine lv_iload hx hb dw_629 (lv_at hl 5 rfl) ?_
  refine lv_iconst (v := 2) hx hb dw_631 rfl ?_
  refine lv_iadd hx hb dw_632 ?_
  refine va_sld hx hb hX hbl hbA hL.2.2 v2 dw_633 ?_
  rw [e2]
  refine lv_aload_n hx hb dw_634 rfl (lv_at hl 1 rfl) ?_
  refine lv_iload hx hb dw_635 (lv_at hl 5 rfl) ?_
  refine lv_iconst (v := 3) hx hb dw_637 rfl ?_
  refine lv_iadd hx hb dw_638 ?_
  refine va_sld hx hb hX hbl hbA hL.2.2 v3 dw_639 ?_
  rw [e3]
  refine lv_i2l hx hb dw_640 rfl ?_
  refine lv_bipush (v := 32) hx hb dw_641 (by decide) ?_
  refine lv_lshl hx hb dw_643 rfl ?_
  refine lv_aload_n hx hb dw_644 rfl (lv_at hl 1 rfl) ?_
  refine lv_iload hx hb dw_645 (lv_at hl 5 rfl) ?_
  refine lv_iconst (v := 4) hx hb dw_647 rfl ?_
  refine lv_iadd hx hb dw_648 ?_
  refine va_sld hx hb hX hbl hbA hL.2.2 v4 dw_649 ?_
  rw [e4]
  refine lv_i2l hx hb dw_650 rfl ?_
  refine lv_ldc2 hx hb hown (kcl_76 hts) dw_651 ?_
  refine lv_land hx hb dw_654 ?_
  refine lv_lor hx hb dw_655 ?_
  refine lm_v (wr := wO gm ca st' o cO f) (lm_runV (q0 := 0) (ci := 1) hM (cw_lm_poke hts ⟨by decide, by decide⟩) hx hb hml hown hts hkM hZ hL List.perm_append_comm rfl rfl hl.1 rfl rfl (lv_room (Nat.le_of_ble_eq_true rfl)) dw_656 ⟨by show cells + 2 + 0 ≤ 601024; omega, by show slots + 12 + 0 ≤ 7293000; omega⟩) hA hL List.perm_append_comm List.perm_append_comm ?_
  intro H locs hL
  change LWd D A (wL gm ca gq cq o cO st' ms' f) s.heap H locs at hL
  refine lv_goto (tgt := 756) hx hb dw_659 (by decide) ?_
  refine W.widen (k := cells + 4) (n := slots + 24) (by show cells + 2 + 0 ≤ cells + 4; omega) (by show slots + 12 + 0 ≤ slots + 24; omega) ?_
  exact kk _ _ _ hL (lv_sub hl [1, 2, 3, 4, 5] rfl)
theorem wl_case14 {p : Program} {l : Launch} {e : Env} {s : State} {m : MethodId} {args : Array Value} {below : List Frame} {meth : Method} {c : Code} {H : Heap} {locs : List Loc} {cells slots : Nat} {Q : State → Prop} {ls : Array Slot} {D : va_G} {A : Nat → Prop} {b L : Nat} {xs : Nat → Int32} {gm gq : Nat → Nat} {ca cq : Nat → ClassId} {o : Nat} {cO : ClassId} {st st' : BSt} {ms ms' : MSt} {f : Nat → Int64} {i k : Int32} {y1 y2 y3 y4 : Int32} (hC : LC p s m args c D A b L xs ca cq cO) (v1 : vp_in (i + 1) L) (e1 : xs (i + 1).toNatClampNeg = y1) (v2 : vp_in (i + 2) L) (e2 : xs (i + 2).toNatClampNeg = y2) (v3 : vp_in (i + 3) L) (e3 : xs (i + 3).toNatClampNeg = y3) (v4 : vp_in (i + 4) L) (e4 : xs (i + 4).toNatClampNeg = y4) (hW : LM l yl_pokeRoot rml_pokeRoot D (tysO ca cO) [.ref (gm 0), .int y1, .int y2, .long (lvl y3 y4)] (wO gm ca st o cO f) (XI k) (wO gm ca st' o cO f)) (hM : LM l ym_pokeRoot rmm_pokeRoot D (tysM cq) [.ref (gq 0), .int y1, .int y2, .long (lvl y3 y4)] (wM gq cq ms) (XV) (wM gq cq ms')) (hce : cells + 4 ≤ 601024) (hsl : slots + 24 ≤ 7293000) (hL : LWd D A (wL gm ca gq cq o cO st ms f) s.heap H locs) (hl : lv_has ls 8 (lvL b gm gq o i))
    (kk : ∀ (H : Heap) (locs : List Loc) (ls : Array Slot), LWd D A (wL gm ca gq cq o cO st' ms' f) s.heap H locs → lv_has ls 8 (lvL b gm gq o i) → W p l e room_1 s m args below meth c H locs (cells + 4) (slots + 24) Q (F0 m 756 ls [])) : W p l e room_1 s m args below meth c H locs cells slots Q (F0 m 662 ls []) := by
  obtain ⟨hx, hb, hml, hown, hts, hkO, hkM, hZ, hA, hX, hbl, hbA⟩ := id hC
  refine lv_aload_n hx hb dw_662 rfl (lv_at hl 1 rfl) ?_
  refine lv_aload_n hx hb dw_663 rfl (lv_at hl 0 rfl) ?_
  refine lv_iload hx hb dw_664 (lv_at hl 4 rfl) ?_
  refine lv_iconst (v := 1) hx hb dw_666 rfl ?_
  refine lv_iadd hx hb dw_667 ?_
  refine va_sld hx hb hX hbl hbA hL.2.2 v1 dw_668 ?_
  rw [e1]
  refine lv_aload_n hx hb dw_669 rfl (lv_at hl 0 rfl) ?_
  refine lv_iload hx hb dw_670 (lv_at hl 4 rfl) ?_
  refine lv_iconst (v := 2) hx hb dw_672 rfl ?_
  refine lv_iadd hx hb dw_673 ?_
  refine va_sld hx hb hX hbl hbA hL.2.2 v2 dw_674 ?_
  rw [e2]
  refine lv_aload_n hx hb dw_675 rfl (lv_at hl 0 rfl) ?_
  refine lv_iload hx hb dw_676 (lv_at hl 4 rfl) ?_
  refine lv_iconst (v := 3) hx hb dw_678 rfl ?_
  refine lv_iadd hx hb dw_679 ?_
  refine va_sld hx hb hX hbl hbA hL.2.2 v3 dw_680 ?_
  rw [e3]
  refine lv_i2l hx hb dw_681 rfl ?_
  refine lv_bipush (v := 32) hx hb dw_682 (by decide) ?_
  refine lv_lshl hx hb dw_684 rfl ?_
  refine lv_aload_n hx hb dw_685 rfl (lv_at hl 0 rfl) ?_
  refine lv_iload hx hb dw_686 (lv_at hl 4 rfl) ?_
  refine lv_iconst (v := 4) hx hb dw_688 rfl ?_
  refine lv_iadd hx hb dw_689 ?_
  refine va_sld hx hb hX hbl hbA hL.2.2 v4 dw_690 ?_
  rw [e4]
  refine lv_i2l hx hb dw_691 rfl ?_
  refine lv_ldc2 hx hb hown (kcl_76 hts) dw_692 ?_
  refine lv_land hx hb dw_695 ?_
  refine lv_lor hx hb dw_696 ?_
  refine lm_v (wr := wM gq cq ms) (lm_runSW (n := 4) hW ⟨by decide, by decide⟩ mcl_pokeRoot inl_law (by decide +kernel) ll_pokeRoot ls_pokeRoot hx hb hml hown hts hkO hZ hL (List.Perm.refl _) hl.1 rfl rfl (lv_room (Nat.le_of_ble_eq_true rfl)) dw_697 ⟨by show cells + 2 ≤ 601024; omega, by show slots + 12 ≤ 7293000; omega⟩) hA hL (List.Perm.refl _) (List.Perm.refl _) ?_
  intro H locs hL
  change LWd D A (wL gm ca gq cq o cO st' ms f) s.heap H locs at hL
  refine lv_istore (i := 5) (nL := 8) hx hb dw_700 hl (by decide) rfl ?_
  intro ls hl
  refine lv_aload_n hx hb dw_702 rfl (lv_at hl 3 rfl) ?_
  refine lv_aload_n hx hb dw_703 rfl (lv_at hl 1 rfl) ?_
  refine lv_iload hx hb dw_704 (lv_at hl 5 rfl) ?_
  refine lv_iconst (v := 1) hx hb dw_706 rfl ?_
  refine lv_iadd hx hb dw_707 ?_
  refine va_sld hx hb hX hbl hbA hL.2.2 v1 dw_708 ?_
  rw [e1]
  refine lv_aload_n hx hb dw_709 rfl (lv_at hl 1 rfl) ?_
  refine lv_iload hx hb dw_710 (lv_at hl 5 rfl) ?_
  refine lv_iconst (v := 2) hx hb dw_712 rfl ?_
  refine lv_iadd hx hb dw_713 ?_
  refine va_sld hx hb hX hbl hbA hL.2.2 v2 dw_714 ?_
  rw [e2]
  refine lv_aload_n hx hb dw_715 rfl (lv_at hl 1 rfl) ?_
  refine lv_iload hx hb dw_716 (lv_at hl 5 rfl) ?_
  refine lv_iconst (v := 3) hx hb dw_718 rfl ?_
  refine lv_iadd hx hb dw_719 ?_
  refine va_sld hx hb hX hbl hbA hL.2.2 v3 dw_720 ?_
  rw [e3]
  refine lv_i2l hx hb dw_721 rfl ?_
  refine lv_bipush (v := 32) hx hb dw_722 (by decide) ?_
  refine lv_lshl hx hb dw_724 rfl ?_
  refine lv_aload_n hx hb dw_725 rfl (lv_at hl 1 rfl) ?_
  refine lv_iload hx hb dw_726 (lv_at hl 5 rfl) ?_
  refine lv_iconst (v := 4) hx hb dw_728 rfl ?_
  refine lv_iadd hx hb dw_729 ?_
  refine va_sld hx hb hX hbl hbA hL.2.2 v4 dw_730 ?_
  rw [e4]
  refine lv_i2l hx hb dw_731 rfl ?_
  refine lv_ldc2 hx hb hown (kcl_76 hts) dw_732 ?_
  refine lv_land hx hb dw_735 ?_
  refine lv_lor hx hb dw_736 ?_
  refine lm_v (wr := wO gm ca st' o cO f) (lm_runV (q0 := 0) (ci := 1) hM (cw_lm_pokeRoot hts ⟨by decide, by decide⟩) hx hb hml hown hts hkM hZ hL List.perm_append_comm rfl rfl hl.1 rfl rfl (lv_room (Nat.le_of_ble_eq_true rfl)) dw_737 ⟨by show cells + 2 + 0 ≤ 601024; omega, by show slots + 12 + 0 ≤ 7293000; omega⟩) hA hL List.perm_append_comm List.perm_append_comm ?_
  intro H locs hL
  change LWd D A (wL gm ca gq cq o cO st' ms' f) s.heap H locs at hL
  refine lv_goto (tgt := 756) hx hb dw_740 (by decide) ?_
  refine W.widen (k := cells + 4) (n := slots + 24) (by show cells + 2 + 0 ≤ cells + 4; omega) (by show slots + 12 + 0 ≤ slots + 24; omega) ?_
  exact kk _ _ _ hL (lv_sub hl [1, 2, 3, 4, 5] rfl)
theorem wl_case15 {p : Program} {l : Launch} {e : Env} {s : State} {m : MethodId} {args : Array Value} {below : List Frame} {meth : Method} {c : Code} {H : Heap} {locs : List Loc} {cells slots : Nat} {Q : State → Prop} {ls : Array Slot} {D : va_G} {A : Nat → Prop} {b L : Nat} {xs : Nat → Int32} {gm gq : Nat → Nat} {ca cq : Nat → ClassId} {o : Nat} {cO : ClassId} {st st' : BSt} {ms ms' : MSt} {f : Nat → Int64} {i : Int32} {z : Int32} (hC : LC p s m args c D A b L xs ca cq cO)  (hW : LM l yb_badAt rmb_badAt D (tysB ca) [.ref (gm 0)] (wB gm ca st) (XI z) (wB gm ca st')) (hM : LM l ym_badAt rmm_badAt D (tysM cq) [.ref (gq 0)] (wM gq cq ms) (XI z) (wM gq cq ms')) (hce : cells + 4 ≤ 601024) (hsl : slots + 24 ≤ 7293000) (hL : LWd D A (wL gm ca gq cq o cO st ms f) s.heap H locs) (hl : lv_has ls 8 (lvL b gm gq o i))
    (kk : ∀ (H : Heap) (locs : List Loc) (ls : Array Slot), LWd D A (wL gm ca gq cq o cO st' ms' f) s.heap H locs → lv_has ls 8 (lvL b gm gq o i) → W p l e room_1 s m args below meth c H locs (cells + 4) (slots + 24) Q (F0 m 756 ls [])) : W p l e room_1 s m args below meth c H locs cells slots Q (F0 m 743 ls []) := by
  obtain ⟨hx, hb, hml, hown, hts, hkO, hkM, hZ, hA, hX, hbl, hbA⟩ := id hC
  refine lv_aload_n hx hb dw_743 rfl (lv_at hl 1 rfl) ?_
  refine lm_v (wr := wM gq cq ms ++ [eO o cO f]) (lm_runV (q0 := 0) (ci := 0) hW (cw_l_badAt hts ⟨by decide, by decide⟩) hx hb hml hown hts hkO.tail hZ hL wL_b rfl rfl hl.1 rfl rfl (lv_room (Nat.le_of_ble_eq_true rfl)) dw_744 ⟨by show cells + 0 ≤ 601024; omega, by show slots + 0 ≤ 7293000; omega⟩) hA hL wL_b wL_b.symm ?_
  intro H locs hL
  refine lv_aload_n hx hb dw_747 rfl (lv_at hl 2 rfl) ?_
  refine lm_v (wr := wO gm ca st' o cO f) (lm_runV (q0 := 0) (ci := 1) hM (cw_lm_badAt hts ⟨by decide, by decide⟩) hx hb hml hown hts hkM hZ hL List.perm_append_comm rfl rfl hl.1 rfl rfl (lv_room (Nat.le_of_ble_eq_true rfl)) dw_748 ⟨by show cells + 0 + 0 ≤ 601024; omega, by show slots + 0 + 0 ≤ 7293000; omega⟩) hA hL List.perm_append_comm List.perm_append_comm ?_
  intro H locs hL
  change LWd D A (wL gm ca gq cq o cO st' ms' f) s.heap H locs at hL
  refine lv_icmp_eq (tgt := 756) hx hb dw_751 (by decide) (fun _ => ?_) (fun c0 => absurd rfl c0)
  refine W.widen (k := cells + 4) (n := slots + 24) (by show cells + 0 + 0 ≤ cells + 4; omega) (by show slots + 0 + 0 ≤ slots + 24; omega) ?_
  exact kk _ _ _ hL (lv_sub hl [0, 1, 2, 3, 4] rfl)
