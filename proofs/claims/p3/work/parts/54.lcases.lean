theorem wl_case0 {p : Program} {l : Launch} {e : Env} {s : State} {m : MethodId} {args : Array Value} {below : List Frame} {meth : Method} {c : Code} {H : Heap} {locs : List Loc} {cells slots : Nat} {Q : State → Prop} {ls : Array Slot} {D : va_G} {A : Nat → Prop} {b L : Nat} {xs : Nat → Int32} {gm gq : Nat → Nat} {ca cq : Nat → ClassId} {o : Nat} {cO : ClassId} {st st' : BSt} {ms ms' : MSt} {f f' : Nat → Int64} {i k : Int32} {y1 y2 y3 : Int32} {z : Int32} (hC : LC p s m args c D A b L xs ca cq cO) (v1 : vp_in (i + 1) L) (e1 : xs (i + 1).toNatClampNeg = y1) (v2 : vp_in (i + 2) L) (e2 : xs (i + 2).toNatClampNeg = y2) (v3 : vp_in (i + 3) L) (e3 : xs (i + 3).toNatClampNeg = y3) (hW : LM l yl_put rml_put D (tysO ca cO) [.ref (gm 0), .int y1, .long (lvl y2 y3), .ref o] (wO gm ca st o cO f) (XI k) (wO gm ca st' o cO f')) (hM : LM l ym_put rmm_put D (tysM cq) [.ref (gq 0), .int y1, .long (lvl y2 y3)] (wM gq cq ms) (XI z) (wM gq cq ms')) (hce : cells + 4 ≤ 601024) (hsl : slots + 24 ≤ 7293000) (hL : LWd D A (wL gm ca gq cq o cO st ms f) s.heap H locs) (hl : lv_has ls 8 (lvL b gm gq o i))
    (kk : ∀ (H : Heap) (locs : List Loc) (ls : Array Slot), LWd D A (wL gm ca gq cq o cO st' ms' f') s.heap H locs → lv_has ls 8 (lvL b gm gq o i) → W p l e room_1 s m args below meth c H locs (cells + 4) (slots + 24) Q (F0 m 784 ls [])) : W p l e room_1 s m args below meth c H locs cells slots Q (F0 m 128 ls []) := by
  obtain ⟨hx, hb, hml, hown, hts, hkO, hkM, hZ, hA, hX, hbl, hbA⟩ := id hC
  refine lv_aload_n hx hb dw_128 rfl (lv_at hl 1 rfl) ?_
  refine lv_aload_n hx hb dw_129 rfl (lv_at hl 0 rfl) ?_
  refine lv_iload hx hb dw_130 (lv_at hl 4 rfl) ?_
  refine lv_iconst (v := 1) hx hb dw_132 rfl ?_
  refine lv_iadd hx hb dw_133 ?_
  refine va_sld hx hb hX hbl hbA hL.2.2 v1 dw_134 ?_
  rw [e1]
  refine lv_aload_n hx hb dw_135 rfl (lv_at hl 0 rfl) ?_
  refine lv_iload hx hb dw_136 (lv_at hl 4 rfl) ?_
  refine lv_iconst (v := 2) hx hb dw_138 rfl ?_
  refine lv_iadd hx hb dw_139 ?_
  refine va_sld hx hb hX hbl hbA hL.2.2 v2 dw_140 ?_
  rw [e2]
  refine lv_i2l hx hb dw_141 rfl ?_
  refine lv_bipush (v := 32) hx hb dw_142 (by decide) ?_
  refine lv_lshl hx hb dw_144 rfl ?_
  refine lv_aload_n hx hb dw_145 rfl (lv_at hl 0 rfl) ?_
  refine lv_iload hx hb dw_146 (lv_at hl 4 rfl) ?_
  refine lv_iconst (v := 3) hx hb dw_148 rfl ?_
  refine lv_iadd hx hb dw_149 ?_
  refine va_sld hx hb hX hbl hbA hL.2.2 v3 dw_150 ?_
  rw [e3]
  refine lv_i2l hx hb dw_151 rfl ?_
  refine lv_ldc2 hx hb hown (kcl_76 hts) dw_152 ?_
  refine lv_land hx hb dw_155 ?_
  refine lv_lor hx hb dw_156 ?_
  refine lv_aload_n hx hb dw_157 rfl (lv_at hl 3 rfl) ?_
  refine lm_v (wr := wM gq cq ms) (lm_runSW (n := 4) hW ⟨by decide, by decide⟩ mcl_put inl_law (by decide +kernel) ll_put ls_put hx hb hml hown hts hkO hZ hL (List.Perm.refl _) hl.1 rfl rfl (lv_room (Nat.le_of_ble_eq_true rfl)) dw_158 ⟨by show cells + 4 ≤ 601024; omega, by show slots + 24 ≤ 7293000; omega⟩) hA hL (List.Perm.refl _) (List.Perm.refl _) ?_
  intro H locs hL
  change LWd D A (wL gm ca gq cq o cO st' ms f') s.heap H locs at hL
  refine lv_istore (i := 5) (nL := 8) hx hb dw_161 hl (by decide) rfl ?_
  intro ls hl
  refine lv_aload_n hx hb dw_163 rfl (lv_at hl 3 rfl) ?_
  refine lv_aload_n hx hb dw_164 rfl (lv_at hl 1 rfl) ?_
  refine lv_iload hx hb dw_165 (lv_at hl 5 rfl) ?_
  refine lv_iconst (v := 1) hx hb dw_167 rfl ?_
  refine lv_iadd hx hb dw_168 ?_
  refine va_sld hx hb hX hbl hbA hL.2.2 v1 dw_169 ?_
  rw [e1]
  refine lv_aload_n hx hb dw_170 rfl (lv_at hl 1 rfl) ?_
  refine lv_iload hx hb dw_171 (lv_at hl 5 rfl) ?_
  refine lv_iconst (v := 2) hx hb dw_173 rfl ?_
  refine lv_iadd hx hb dw_174 ?_
  refine va_sld hx hb hX hbl hbA hL.2.2 v2 dw_175 ?_
  rw [e2]
  refine lv_i2l hx hb dw_176 rfl ?_
  refine lv_bipush (v := 32) hx hb dw_177 (by decide) ?_
  refine lv_lshl hx hb dw_179 rfl ?_
  refine lv_aload_n hx hb dw_180 rfl (lv_at hl 1 rfl) ?_
  refine lv_iload hx hb dw_181 (lv_at hl 5 rfl) ?_
  refine lv_iconst (v := 3) hx hb dw_183 rfl ?_
  refine lv_iadd hx hb dw_184 ?_
  refine va_sld hx hb hX hbl hbA hL.2.2 v3 dw_185 ?_
  rw [e3]
  refine lv_i2l hx hb dw_186 rfl ?_
  refine lv_ldc2 hx hb hown (kcl_76 hts) dw_187 ?_
  refine lv_land hx hb dw_190 ?_
  refine lv_lor hx hb dw_191 ?_
  refine lm_v (wr := wO gm ca st' o cO f') (lm_runV (q0 := 0) (ci := 1) hM (cw_lm_put hts ⟨by decide, by decide⟩) hx hb hml hown hts hkM hZ hL List.perm_append_comm rfl rfl hl.1 rfl rfl (lv_room (Nat.le_of_ble_eq_true rfl)) dw_192 ⟨by show cells + 4 + 0 ≤ 601024; omega, by show slots + 24 + 0 ≤ 7293000; omega⟩) hA hL List.perm_append_comm List.perm_append_comm ?_
  intro H locs hL
  change LWd D A (wL gm ca gq cq o cO st' ms' f') s.heap H locs at hL
  refine lv_istore (i := 6) (nL := 8) hx hb dw_195 hl (by decide) rfl ?_
  intro ls hl
  refine lv_goto (tgt := 784) hx hb dw_197 (by decide) ?_
  refine W.widen (k := cells + 4) (n := slots + 24) (by show cells + 4 + 0 ≤ cells + 4; omega) (by show slots + 24 + 0 ≤ slots + 24; omega) ?_
  exact kk _ _ _ hL (lv_sub hl [2, 3, 4, 5, 6] rfl)
theorem wl_case1 {p : Program} {l : Launch} {e : Env} {s : State} {m : MethodId} {args : Array Value} {below : List Frame} {meth : Method} {c : Code} {H : Heap} {locs : List Loc} {cells slots : Nat} {Q : State → Prop} {ls : Array Slot} {D : va_G} {A : Nat → Prop} {b L : Nat} {xs : Nat → Int32} {gm gq : Nat → Nat} {ca cq : Nat → ClassId} {o : Nat} {cO : ClassId} {st st' : BSt} {ms ms' : MSt} {f f' : Nat → Int64} {i k : Int32} {y1 : Int32} {z : Int32} (hC : LC p s m args c D A b L xs ca cq cO) (v1 : vp_in (i + 1) L) (e1 : xs (i + 1).toNatClampNeg = y1) (hW : LM l yl_drop rml_drop D (tysO ca cO) [.ref (gm 0), .int y1, .ref o] (wO gm ca st o cO f) (XI k) (wO gm ca st' o cO f')) (hM : LM l ym_drop rmm_drop D (tysM cq) [.ref (gq 0), .int y1] (wM gq cq ms) (XI z) (wM gq cq ms')) (hT : LM l ym_thrown rmm_thrown D (tysM cq) [.ref (gq 0)] (wM gq cq ms') (XI k) (wM gq cq ms')) (hE : k = 0 → f' 0 = z.toInt64) (hce : cells + 4 ≤ 601024) (hsl : slots + 24 ≤ 7293000) (hL : LWd D A (wL gm ca gq cq o cO st ms f) s.heap H locs) (hl : lv_has ls 8 (lvL b gm gq o i))
    (kk : ∀ (H : Heap) (locs : List Loc) (ls : Array Slot), LWd D A (wL gm ca gq cq o cO st' ms' f') s.heap H locs → lv_has ls 8 (lvL b gm gq o i) → W p l e room_1 s m args below meth c H locs (cells + 4) (slots + 24) Q (F0 m 784 ls [])) : W p l e room_1 s m args below meth c H locs cells slots Q (F0 m 200 ls []) := by
  obtain ⟨hx, hb, hml, hown, hts, hkO, hkM, hZ, hA, hX, hbl, hbA⟩ := id hC
  refine lv_aload_n hx hb dw_200 rfl (lv_at hl 1 rfl) ?_
  refine lv_aload_n hx hb dw_201 rfl (lv_at hl 0 rfl) ?_
  refine lv_iload hx hb dw_202 (lv_at hl 4 rfl) ?_
  refine lv_iconst (v := 1) hx hb dw_204 rfl ?_
  refine lv_iadd hx hb dw_205 ?_
  refine va_sld hx hb hX hbl hbA hL.2.2 v1 dw_206 ?_
  rw [e1]
  refine lv_aload_n hx hb dw_207 rfl (lv_at hl 3 rfl) ?_
  refine lm_v (wr := wM gq cq ms) (lm_runSW (n := 3) hW ⟨by decide, by decide⟩ mcl_drop inl_law (by decide +kernel) ll_drop ls_drop hx hb hml hown hts hkO hZ hL (List.Perm.refl _) hl.1 rfl rfl (lv_room (Nat.le_of_ble_eq_true rfl)) dw_208 ⟨by show cells + 4 ≤ 601024; omega, by show slots + 24 ≤ 7293000; omega⟩) hA hL (List.Perm.refl _) (List.Perm.refl _) ?_
  intro H locs hL
  change LWd D A (wL gm ca gq cq o cO st' ms f') s.heap H locs at hL
  refine lv_istore (i := 5) (nL := 8) hx hb dw_211 hl (by decide) rfl ?_
  intro ls hl
  refine lv_aload_n hx hb dw_213 rfl (lv_at hl 3 rfl) ?_
  refine lv_aload_n hx hb dw_214 rfl (lv_at hl 1 rfl) ?_
  refine lv_iload hx hb dw_215 (lv_at hl 5 rfl) ?_
  refine lv_iconst (v := 1) hx hb dw_217 rfl ?_
  refine lv_iadd hx hb dw_218 ?_
  refine va_sld hx hb hX hbl hbA hL.2.2 v1 dw_219 ?_
  rw [e1]
  refine lm_v (wr := wO gm ca st' o cO f') (lm_runV (q0 := 0) (ci := 1) hM (cw_lm_drop hts ⟨by decide, by decide⟩) hx hb hml hown hts hkM hZ hL List.perm_append_comm rfl rfl hl.1 rfl rfl (lv_room (Nat.le_of_ble_eq_true rfl)) dw_220 ⟨by show cells + 4 + 0 ≤ 601024; omega, by show slots + 24 + 0 ≤ 7293000; omega⟩) hA hL List.perm_append_comm List.perm_append_comm ?_
  intro H locs hL
  change LWd D A (wL gm ca gq cq o cO st' ms' f') s.heap H locs at hL
  refine lv_istore (i := 6) (nL := 8) hx hb dw_223 hl (by decide) rfl ?_
  intro ls hl
  refine lv_aload_n hx hb dw_225 rfl (lv_at hl 4 rfl) ?_
  refine lm_v (wr := wO gm ca st' o cO f') (lm_runV (q0 := 0) (ci := 1) hT (cw_lm_thrown hts ⟨by decide, by decide⟩) hx hb hml hown hts hkM hZ hL List.perm_append_comm rfl rfl hl.1 rfl rfl (lv_room (Nat.le_of_ble_eq_true rfl)) dw_226 ⟨by show cells + 4 + 0 + 0 ≤ 601024; omega, by show slots + 24 + 0 + 0 ≤ 7293000; omega⟩) hA hL List.perm_append_comm List.perm_append_comm ?_
  intro H locs hL
  change LWd D A (wL gm ca gq cq o cO st' ms' f') s.heap H locs at hL
  refine lv_iload hx hb dw_229 (lv_at hl 1 rfl) ?_
  refine lv_icmp_eq (tgt := 236) hx hb dw_231 (by decide) (fun _ => ?_) (fun c0 => absurd rfl c0)
  refine lv_iload hx hb dw_236 (lv_at hl 1 rfl) ?_
  refine lv_if_ne (tgt := 253) hx hb dw_238 (by decide) (fun c1 => ?_) (fun c1 => ?_)
  ·
    refine lv_goto (tgt := 784) hx hb dw_253 (by decide) ?_
    refine W.widen (k := cells + 4) (n := slots + 24) (by show cells + 4 + 0 + 0 ≤ cells + 4; omega) (by show slots + 24 + 0 + 0 ≤ slots + 24; omega) ?_
    exact kk _ _ _ hL (lv_sub hl [2, 3, 4, 5, 6] rfl)
  ·
    refine lv_aload_n hx hb dw_241 rfl (lv_at hl 5 rfl) ?_
    refine lv_iconst (v := 0) hx hb dw_242 rfl ?_
    refine va_lald hx hb hkO.1 hL.1 0 0 rfl rfl (by unfold vp_in; decide) dw_243 ?_
    refine lv_iload hx hb dw_244 (lv_at hl 0 rfl) ?_
    refine lv_i2l hx hb dw_246 rfl ?_
    refine W.lcmp hx hb dw_247 ?_
    refine lv_if_eq (tgt := 253) hx hb dw_248 (by decide) (fun _ => ?_) (fun c0 => absurd (lgc_eq.mpr (hE c1)) c0)
    refine lv_goto (tgt := 784) hx hb dw_253 (by decide) ?_
    refine W.widen (k := cells + 4) (n := slots + 24) (by show cells + 4 + 0 + 0 ≤ cells + 4; omega) (by show slots + 24 + 0 + 0 ≤ slots + 24; omega) ?_
    exact kk _ _ _ hL (lv_sub hl [2, 3, 4, 5, 6] rfl)
theorem wl_case2 {p : Program} {l : Launch} {e : Env} {s : State} {m : MethodId} {args : Array Value} {below : List Frame} {meth : Method} {c : Code} {H : Heap} {locs : List Loc} {cells slots : Nat} {Q : State → Prop} {ls : Array Slot} {D : va_G} {A : Nat → Prop} {b L : Nat} {xs : Nat → Int32} {gm gq : Nat → Nat} {ca cq : Nat → ClassId} {o : Nat} {cO : ClassId} {st st' : BSt} {ms ms' : MSt} {f f' : Nat → Int64} {i k : Int32} {z : Int32} (hC : LC p s m args c D A b L xs ca cq cO)  (hW : LM l yl_version rml_version D (tysO ca cO) [.ref (gm 0), .ref o] (wO gm ca st o cO f) (XI k) (wO gm ca st' o cO f')) (hM : LM l ym_version rmm_version D (tysM cq) [.ref (gq 0)] (wM gq cq ms) (XI z) (wM gq cq ms')) (hce : cells + 4 ≤ 601024) (hsl : slots + 24 ≤ 7293000) (hL : LWd D A (wL gm ca gq cq o cO st ms f) s.heap H locs) (hl : lv_has ls 8 (lvL b gm gq o i))
    (kk : ∀ (H : Heap) (locs : List Loc) (ls : Array Slot), LWd D A (wL gm ca gq cq o cO st' ms' f') s.heap H locs → lv_has ls 8 (lvL b gm gq o i) → W p l e room_1 s m args below meth c H locs (cells + 4) (slots + 24) Q (F0 m 784 ls [])) : W p l e room_1 s m args below meth c H locs cells slots Q (F0 m 256 ls []) := by
  obtain ⟨hx, hb, hml, hown, hts, hkO, hkM, hZ, hA, hX, hbl, hbA⟩ := id hC
  refine lv_aload_n hx hb dw_256 rfl (lv_at hl 1 rfl) ?_
  refine lv_aload_n hx hb dw_257 rfl (lv_at hl 3 rfl) ?_
  refine lm_v (wr := wM gq cq ms) (lm_runSW (n := 2) hW ⟨by decide, by decide⟩ mcl_version inl_law (by decide +kernel) ll_version ls_version hx hb hml hown hts hkO hZ hL (List.Perm.refl _) hl.1 rfl rfl (lv_room (Nat.le_of_ble_eq_true rfl)) dw_258 ⟨by show cells + 1 ≤ 601024; omega, by show slots + 6 ≤ 7293000; omega⟩) hA hL (List.Perm.refl _) (List.Perm.refl _) ?_
  intro H locs hL
  change LWd D A (wL gm ca gq cq o cO st' ms f') s.heap H locs at hL
  refine lv_istore (i := 5) (nL := 8) hx hb dw_261 hl (by decide) rfl ?_
  intro ls hl
  refine lv_aload_n hx hb dw_263 rfl (lv_at hl 3 rfl) ?_
  refine lm_v (wr := wO gm ca st' o cO f') (lm_runV (q0 := 0) (ci := 1) hM (cw_lm_version hts ⟨by decide, by decide⟩) hx hb hml hown hts hkM hZ hL List.perm_append_comm rfl rfl hl.1 rfl rfl (lv_room (Nat.le_of_ble_eq_true rfl)) dw_264 ⟨by show cells + 1 + 0 ≤ 601024; omega, by show slots + 6 + 0 ≤ 7293000; omega⟩) hA hL List.perm_append_comm List.perm_append_comm ?_
  intro H locs hL
  change LWd D A (wL gm ca gq cq o cO st' ms' f') s.heap H locs at hL
  refine lv_istore (i := 6) (nL := 8) hx hb dw_267 hl (by decide) rfl ?_
  intro ls hl
  refine lv_goto (tgt := 784) hx hb dw_269 (by decide) ?_
  refine W.widen (k := cells + 4) (n := slots + 24) (by show cells + 1 + 0 ≤ cells + 4; omega) (by show slots + 6 + 0 ≤ slots + 24; omega) ?_
  exact kk _ _ _ hL (lv_sub hl [2, 3, 4, 5, 6] rfl)
theorem wl_case3 {p : Program} {l : Launch} {e : Env} {s : State} {m : MethodId} {args : Array Value} {below : List Frame} {meth : Method} {c : Code} {H : Heap} {locs : List Loc} {cells slots : Nat} {Q : State → Prop} {ls : Array Slot} {D : va_G} {A : Nat → Prop} {b L : Nat} {xs : Nat → Int32} {gm gq : Nat → Nat} {ca cq : Nat → ClassId} {o : Nat} {cO : ClassId} {st st' : BSt} {ms ms' : MSt} {f f' : Nat → Int64} {i k : Int32} {y1 y2 : Int32} {z : Int32} (hC : LC p s m args c D A b L xs ca cq cO) (v1 : vp_in (i + 1) L) (e1 : xs (i + 1).toNatClampNeg = y1) (v2 : vp_in (i + 2) L) (e2 : xs (i + 2).toNatClampNeg = y2) (hW : LM l yl_has rml_has D (tysO ca cO) [.ref (gm 0), .int y1, .int y2, .ref o] (wO gm ca st o cO f) (XI k) (wO gm ca st' o cO f')) (hM : LM l ym_has rmm_has D (tysM cq) [.ref (gq 0), .int y1, .int y2] (wM gq cq ms) (XI z) (wM gq cq ms')) (hce : cells + 4 ≤ 601024) (hsl : slots + 24 ≤ 7293000) (hL : LWd D A (wL gm ca gq cq o cO st ms f) s.heap H locs) (hl : lv_has ls 8 (lvL b gm gq o i))
    (kk : ∀ (H : Heap) (locs : List Loc) (ls : Array Slot), LWd D A (wL gm ca gq cq o cO st' ms' f') s.heap H locs → lv_has ls 8 (lvL b gm gq o i) → W p l e room_1 s m args below meth c H locs (cells + 4) (slots + 24) Q (F0 m 784 ls [])) : W p l e room_1 s m args below meth c H locs cells slots Q (F0 m 272 ls []) := by
  obtain ⟨hx, hb, hml, hown, hts, hkO, hkM, hZ, hA, hX, hbl, hbA⟩ := id hC
  refine lv_aload_n hx hb dw_272 rfl (lv_at hl 1 rfl) ?_
  refine lv_aload_n hx hb dw_273 rfl (lv_at hl 0 rfl) ?_
  refine lv_iload hx hb dw_274 (lv_at hl 4 rfl) ?_
  refine lv_iconst (v := 1) hx hb dw_276 rfl ?_
  refine lv_iadd hx hb dw_277 ?_
  refine va_sld hx hb hX hbl hbA hL.2.2 v1 dw_278 ?_
  rw [e1]
  refine lv_aload_n hx hb dw_279 rfl (lv_at hl 0 rfl) ?_
  refine lv_iload hx hb dw_280 (lv_at hl 4 rfl) ?_
  refine lv_iconst (v := 2) hx hb dw_282 rfl ?_
  refine lv_iadd hx hb dw_283 ?_
  refine va_sld hx hb hX hbl hbA hL.2.2 v2 dw_284 ?_
  rw [e2]
  refine lv_aload_n hx hb dw_285 rfl (lv_at hl 3 rfl) ?_
  refine lm_v (wr := wM gq cq ms) (lm_runSW (n := 4) hW ⟨by decide, by decide⟩ mcl_has inl_law (by decide +kernel) ll_has ls_has hx hb hml hown hts hkO hZ hL (List.Perm.refl _) hl.1 rfl rfl (lv_room (Nat.le_of_ble_eq_true rfl)) dw_286 ⟨by show cells + 2 ≤ 601024; omega, by show slots + 12 ≤ 7293000; omega⟩) hA hL (List.Perm.refl _) (List.Perm.refl _) ?_
  intro H locs hL
  change LWd D A (wL gm ca gq cq o cO st' ms f') s.heap H locs at hL
  refine lv_istore (i := 5) (nL := 8) hx hb dw_289 hl (by decide) rfl ?_
  intro ls hl
  refine lv_aload_n hx hb dw_291 rfl (lv_at hl 3 rfl) ?_
  refine lv_aload_n hx hb dw_292 rfl (lv_at hl 1 rfl) ?_
  refine lv_iload hx hb dw_293 (lv_at hl 5 rfl) ?_
  refine lv_iconst (v := 1) hx hb dw_295 rfl ?_
  refine lv_iadd hx hb dw_296 ?_
  refine va_sld hx hb hX hbl hbA hL.2.2 v1 dw_297 ?_
  rw [e1]
  refine lv_aload_n hx hb dw_298 rfl (lv_at hl 1 rfl) ?_
  refine lv_iload hx hb dw_299 (lv_at hl 5 rfl) ?_
  refine lv_iconst (v := 2) hx hb dw_301 rfl ?_
  refine lv_iadd hx hb dw_302 ?_
  refine va_sld hx hb hX hbl hbA hL.2.2 v2 dw_303 ?_
  rw [e2]
  refine lm_v (wr := wO gm ca st' o cO f') (lm_runV (q0 := 0) (ci := 1) hM (cw_lm_has hts ⟨by decide, by decide⟩) hx hb hml hown hts hkM hZ hL List.perm_append_comm rfl rfl hl.1 rfl rfl (lv_room (Nat.le_of_ble_eq_true rfl)) dw_304 ⟨by show cells + 2 + 0 ≤ 601024; omega, by show slots + 12 + 0 ≤ 7293000; omega⟩) hA hL List.perm_append_comm List.perm_append_comm ?_
  intro H locs hL
  change LWd D A (wL gm ca gq cq o cO st' ms' f') s.heap H locs at hL
  refine lv_istore (i := 6) (nL := 8) hx hb dw_307 hl (by decide) rfl ?_
  intro ls hl
  refine lv_goto (tgt := 784) hx hb dw_309 (by decide) ?_
  refine W.widen (k := cells + 4) (n := slots + 24) (by show cells + 2 + 0 ≤ cells + 4; omega) (by show slots + 12 + 0 ≤ slots + 24; omega) ?_
  exact kk _ _ _ hL (lv_sub hl [2, 3, 4, 5, 6] rfl)
theorem wl_case4 {p : Program} {l : Launch} {e : Env} {s : State} {m : MethodId} {args : Array Value} {below : List Frame} {meth : Method} {c : Code} {H : Heap} {locs : List Loc} {cells slots : Nat} {Q : State → Prop} {ls : Array Slot} {D : va_G} {A : Nat → Prop} {b L : Nat} {xs : Nat → Int32} {gm gq : Nat → Nat} {ca cq : Nat → ClassId} {o : Nat} {cO : ClassId} {st st' : BSt} {ms ms' : MSt} {f f' : Nat → Int64} {i k : Int32} {y1 y2 : Int32} {z : Int64} (hC : LC p s m args c D A b L xs ca cq cO) (v1 : vp_in (i + 1) L) (e1 : xs (i + 1).toNatClampNeg = y1) (v2 : vp_in (i + 2) L) (e2 : xs (i + 2).toNatClampNeg = y2) (hW : LM l yl_find rml_find D (tysO ca cO) [.ref (gm 0), .int y1, .int y2, .ref o] (wO gm ca st o cO f) (XI k) (wO gm ca st' o cO f')) (hM : LM l ym_find rmm_find D (tysM cq) [.ref (gq 0), .int y1, .int y2] (wM gq cq ms) (XL z) (wM gq cq ms')) (hce : cells + 4 ≤ 601024) (hsl : slots + 24 ≤ 7293000) (hL : LWd D A (wL gm ca gq cq o cO st ms f) s.heap H locs) (hl : lv_has ls 8 (lvL b gm gq o i))
    (kk : ∀ (H : Heap) (locs : List Loc) (ls : Array Slot), LWd D A (wL gm ca gq cq o cO st' ms' f') s.heap H locs → lv_has ls 8 (lvL b gm gq o i) → W p l e room_1 s m args below meth c H locs (cells + 4) (slots + 24) Q (F0 m 784 ls [])) : W p l e room_1 s m args below meth c H locs cells slots Q (F0 m 312 ls []) := by
  obtain ⟨hx, hb, hml, hown, hts, hkO, hkM, hZ, hA, hX, hbl, hbA⟩ := id hC
  refine lv_aload_n hx hb dw_312 rfl (lv_at hl 1 rfl) ?_
  refine lv_aload_n hx hb dw_313 rfl (lv_at hl 0 rfl) ?_
  refine lv_iload hx hb dw_314 (lv_at hl 4 rfl) ?_
  refine lv_iconst (v := 1) hx hb dw_316 rfl ?_
  refine lv_iadd hx hb dw_317 ?_
  refine va_sld hx hb hX hbl hbA hL.2.2 v1 dw_318 ?_
  rw [e1]
  refine lv_aload_n hx hb dw_319 rfl (lv_at hl 0 rfl) ?_
  refine lv_iload hx hb dw_320 (lv_at hl 4 rfl) ?_
  refine lv_iconst (v := 2) hx hb dw_322 rfl ?_
  refine lv_iadd hx hb dw_323 ?_
  refine va_sld hx hb hX hbl hbA hL.2.2 v2 dw_324 ?_
  rw [e2]
  refine lv_aload_n hx hb dw_325 rfl (lv_at hl 3 rfl) ?_
  refine lm_v (wr := wM gq cq ms) (lm_runSW (n := 4) hW ⟨by decide, by decide⟩ mcl_find inl_law (by decide +kernel) ll_find ls_find hx hb hml hown hts hkO hZ hL (List.Perm.refl _) hl.1 rfl rfl (lv_room (Nat.le_of_ble_eq_true rfl)) dw_326 ⟨by show cells + 2 ≤ 601024; omega, by show slots + 12 ≤ 7293000; omega⟩) hA hL (List.Perm.refl _) (List.Perm.refl _) ?_
  intro H locs hL
  change LWd D A (wL gm ca gq cq o cO st' ms f') s.heap H locs at hL
  refine lv_istore (i := 5) (nL := 8) hx hb dw_329 hl (by decide) rfl ?_
  intro ls hl
  refine lv_aload_n hx hb dw_331 rfl (lv_at hl 3 rfl) ?_
  refine lv_aload_n hx hb dw_332 rfl (lv_at hl 1 rfl) ?_
  refine lv_iload hx hb dw_333 (lv_at hl 5 rfl) ?_
  refine lv_iconst (v := 1) hx hb dw_335 rfl ?_
  refine lv_iadd hx hb dw_336 ?_
  refine va_sld hx hb hX hbl hbA hL.2.2 v1 dw_337 ?_
  rw [e1]
  refine lv_aload_n hx hb dw_338 rfl (lv_at hl 1 rfl) ?_
  refine lv_iload hx hb dw_339 (lv_at hl 5 rfl) ?_
  refine lv_iconst (v := 2) hx hb dw_341 rfl ?_
  refine lv_iadd hx hb dw_342 ?_
  refine va_sld hx hb hX hbl hbA hL.2.2 v2 dw_343 ?_
  rw [e2]
  refine lm_v (wr := wO gm ca st' o cO f') (lm_runV (q0 := 0) (ci := 1) hM (cw_lm_find hts ⟨by decide, by decide⟩) hx hb hml hown hts hkM hZ hL List.perm_append_comm rfl rfl hl.1 rfl rfl (lv_room (Nat.le_of_ble_eq_true rfl)) dw_344 ⟨by show cells + 2 + 0 ≤ 601024; omega, by show slots + 12 + 0 ≤ 7293000; omega⟩) hA hL List.perm_append_comm List.perm_append_comm ?_
  intro H locs hL
  change LWd D A (wL gm ca gq cq o cO st' ms' f') s.heap H locs at hL
  refine lv_lstore (i := 6) (nL := 8) hx hb dw_347 hl (by decide) rfl ?_
  intro ls hl
  refine lv_goto (tgt := 784) hx hb dw_349 (by decide) ?_
  refine W.widen (k := cells + 4) (n := slots + 24) (by show cells + 2 + 0 ≤ cells + 4; omega) (by show slots + 12 + 0 ≤ slots + 24; omega) ?_
  exact kk _ _ _ hL (lv_sub hl [2, 3, 4, 5, 6] rfl)
theorem wl_case5 {p : Program} {l : Launch} {e : Env} {s : State} {m : MethodId} {args : Array Value} {below : List Frame} {meth : Method} {c : Code} {H : Heap} {locs : List Loc} {cells slots : Nat} {Q : State → Prop} {ls : Array Slot} {D : va_G} {A : Nat → Prop} {b L : Nat} {xs : Nat → Int32} {gm gq : Nat → Nat} {ca cq : Nat → ClassId} {o : Nat} {cO : ClassId} {st st' : BSt} {ms ms' : MSt} {f f' : Nat → Int64} {i k : Int32} {y1 y2 : Int32} {z : Int32} (hC : LC p s m args c D A b L xs ca cq cO) (v1 : vp_in (i + 1) L) (e1 : xs (i + 1).toNatClampNeg = y1) (v2 : vp_in (i + 2) L) (e2 : xs (i + 2).toNatClampNeg = y2) (hW : LM l yl_count rml_count D (tysO ca cO) [.ref (gm 0), .int y1, .int y2, .ref o] (wO gm ca st o cO f) (XI k) (wO gm ca st' o cO f')) (hM : LM l ym_count rmm_count D (tysM cq) [.ref (gq 0), .int y1, .int y2] (wM gq cq ms) (XI z) (wM gq cq ms')) (hce : cells + 4 ≤ 601024) (hsl : slots + 24 ≤ 7293000) (hL : LWd D A (wL gm ca gq cq o cO st ms f) s.heap H locs) (hl : lv_has ls 8 (lvL b gm gq o i))
    (kk : ∀ (H : Heap) (locs : List Loc) (ls : Array Slot), LWd D A (wL gm ca gq cq o cO st' ms' f') s.heap H locs → lv_has ls 8 (lvL b gm gq o i) → W p l e room_1 s m args below meth c H locs (cells + 4) (slots + 24) Q (F0 m 784 ls [])) : W p l e room_1 s m args below meth c H locs cells slots Q (F0 m 352 ls []) := by
  obtain ⟨hx, hb, hml, hown, hts, hkO, hkM, hZ, hA, hX, hbl, hbA⟩ := id hC
  refine lv_aload_n hx hb dw_352 rfl (lv_at hl 1 rfl) ?_
  refine lv_aload_n hx hb dw_353 rfl (lv_at hl 0 rfl) ?_
  refine lv_iload hx hb dw_354 (lv_at hl 4 rfl) ?_
  refine lv_iconst (v := 1) hx hb dw_356 rfl ?_
  refine lv_iadd hx hb dw_357 ?_
  refine va_sld hx hb hX hbl hbA hL.2.2 v1 dw_358 ?_
  rw [e1]
  refine lv_aload_n hx hb dw_359 rfl (lv_at hl 0 rfl) ?_
  refine lv_iload hx hb dw_360 (lv_at hl 4 rfl) ?_
  refine lv_iconst (v := 2) hx hb dw_362 rfl ?_
  refine lv_iadd hx hb dw_363 ?_
  refine va_sld hx hb hX hbl hbA hL.2.2 v2 dw_364 ?_
  rw [e2]
  refine lv_aload_n hx hb dw_365 rfl (lv_at hl 3 rfl) ?_
  refine lm_v (wr := wM gq cq ms) (lm_runSW (n := 4) hW ⟨by decide, by decide⟩ mcl_count inl_law (by decide +kernel) ll_count ls_count hx hb hml hown hts hkO hZ hL (List.Perm.refl _) hl.1 rfl rfl (lv_room (Nat.le_of_ble_eq_true rfl)) dw_366 ⟨by show cells + 3 ≤ 601024; omega, by show slots + 18 ≤ 7293000; omega⟩) hA hL (List.Perm.refl _) (List.Perm.refl _) ?_
  intro H locs hL
  change LWd D A (wL gm ca gq cq o cO st' ms f') s.heap H locs at hL
  refine lv_istore (i := 5) (nL := 8) hx hb dw_369 hl (by decide) rfl ?_
  intro ls hl
  refine lv_aload_n hx hb dw_371 rfl (lv_at hl 3 rfl) ?_
  refine lv_aload_n hx hb dw_372 rfl (lv_at hl 1 rfl) ?_
  refine lv_iload hx hb dw_373 (lv_at hl 5 rfl) ?_
  refine lv_iconst (v := 1) hx hb dw_375 rfl ?_
  refine lv_iadd hx hb dw_376 ?_
  refine va_sld hx hb hX hbl hbA hL.2.2 v1 dw_377 ?_
  rw [e1]
  refine lv_aload_n hx hb dw_378 rfl (lv_at hl 1 rfl) ?_
  refine lv_iload hx hb dw_379 (lv_at hl 5 rfl) ?_
  refine lv_iconst (v := 2) hx hb dw_381 rfl ?_
  refine lv_iadd hx hb dw_382 ?_
  refine va_sld hx hb hX hbl hbA hL.2.2 v2 dw_383 ?_
  rw [e2]
  refine lm_v (wr := wO gm ca st' o cO f') (lm_runV (q0 := 0) (ci := 1) hM (cw_lm_count hts ⟨by decide, by decide⟩) hx hb hml hown hts hkM hZ hL List.perm_append_comm rfl rfl hl.1 rfl rfl (lv_room (Nat.le_of_ble_eq_true rfl)) dw_384 ⟨by show cells + 3 + 0 ≤ 601024; omega, by show slots + 18 + 0 ≤ 7293000; omega⟩) hA hL List.perm_append_comm List.perm_append_comm ?_
  intro H locs hL
  change LWd D A (wL gm ca gq cq o cO st' ms' f') s.heap H locs at hL
  refine lv_istore (i := 6) (nL := 8) hx hb dw_387 hl (by decide) rfl ?_
  intro ls hl
  refine lv_goto (tgt := 784) hx hb dw_389 (by decide) ?_
  refine W.widen (k := cells + 4) (n := slots + 24) (by show cells + 3 + 0 ≤ cells + 4; omega) (by show slots + 18 + 0 ≤ slots + 24; omega) ?_
  exact kk _ _ _ hL (lv_sub hl [2, 3, 4, 5, 6] rfl)
theorem wl_case6 {p : Program} {l : Launch} {e : Env} {s : State} {m : MethodId} {args : Array Value} {below : List Frame} {meth : Method} {c : Code} {H : Heap} {locs : List Loc} {cells slots : Nat} {Q : State → Prop} {ls : Array Slot} {D : va_G} {A : Nat → Prop} {b L : Nat} {xs : Nat → Int32} {gm gq : Nat → Nat} {ca cq : Nat → ClassId} {o : Nat} {cO : ClassId} {st st' : BSt} {ms ms' : MSt} {f f' : Nat → Int64} {i k : Int32} {y1 y2 : Int32} {z : Int32} (hC : LC p s m args c D A b L xs ca cq cO) (v1 : vp_in (i + 1) L) (e1 : xs (i + 1).toNatClampNeg = y1) (v2 : vp_in (i + 2) L) (e2 : xs (i + 2).toNatClampNeg = y2) (hW : LM l yl_key rml_key D (tysO ca cO) [.ref (gm 0), .int y1, .int y2, .ref o] (wO gm ca st o cO f) (XI k) (wO gm ca st' o cO f')) (hM : LM l ym_key rmm_key D (tysM cq) [.ref (gq 0), .int y1, .int y2] (wM gq cq ms) (XI z) (wM gq cq ms')) (hce : cells + 4 ≤ 601024) (hsl : slots + 24 ≤ 7293000) (hL : LWd D A (wL gm ca gq cq o cO st ms f) s.heap H locs) (hl : lv_has ls 8 (lvL b gm gq o i))
    (kk : ∀ (H : Heap) (locs : List Loc) (ls : Array Slot), LWd D A (wL gm ca gq cq o cO st' ms' f') s.heap H locs → lv_has ls 8 (lvL b gm gq o i) → W p l e room_1 s m args below meth c H locs (cells + 4) (slots + 24) Q (F0 m 784 ls [])) : W p l e room_1 s m args below meth c H locs cells slots Q (F0 m 392 ls []) := by
  obtain ⟨hx, hb, hml, hown, hts, hkO, hkM, hZ, hA, hX, hbl, hbA⟩ := id hC
  refine lv_aload_n hx hb dw_392 rfl (lv_at hl 1 rfl) ?_
  refine lv_aload_n hx hb dw_393 rfl (lv_at hl 0 rfl) ?_
  refine lv_iload hx hb dw_394 (lv_at hl 4 rfl) ?_
  refine lv_iconst (v := 1) hx hb dw_396 rfl ?_
  refine lv_iadd hx hb dw_397 ?_
  refine va_sld hx hb hX hbl hbA hL.2.2 v1 dw_398 ?_
  rw [e1]
  refine lv_aload_n hx hb dw_399 rfl (lv_at hl 0 rfl) ?_
  refine lv_iload hx hb dw_400 (lv_at hl 4 rfl) ?_
  refine lv_iconst (v := 2) hx hb dw_402 rfl ?_
  refine lv_iadd hx hb dw_403 ?_
  refine va_sld hx hb hX hbl hbA hL.2.2 v2 dw_404 ?_
  rw [e2]
  refine lv_aload_n hx hb dw_405 rfl (lv_at hl 3 rfl) ?_
  refine lm_v (wr := wM gq cq ms) (lm_runSW (n := 4) hW ⟨by decide, by decide⟩ mcl_key inl_law (by decide +kernel) ll_key ls_key hx hb hml hown hts hkO hZ hL (List.Perm.refl _) hl.1 rfl rfl (lv_room (Nat.le_of_ble_eq_true rfl)) dw_406 ⟨by show cells + 3 ≤ 601024; omega, by show slots + 18 ≤ 7293000; omega⟩) hA hL (List.Perm.refl _) (List.Perm.refl _) ?_
  intro H locs hL
  change LWd D A (wL gm ca gq cq o cO st' ms f') s.heap H locs at hL
  refine lv_istore (i := 5) (nL := 8) hx hb dw_409 hl (by decide) rfl ?_
  intro ls hl
  refine lv_aload_n hx hb dw_411 rfl (lv_at hl 3 rfl) ?_
  refine lv_aload_n hx hb dw_412 rfl (lv_at hl 1 rfl) ?_
  refine lv_iload hx hb dw_413 (lv_at hl 5 rfl) ?_
  refine lv_iconst (v := 1) hx hb dw_415 rfl ?_
  refine lv_iadd hx hb dw_416 ?_
  refine va_sld hx hb hX hbl hbA hL.2.2 v1 dw_417 ?_
  rw [e1]
  refine lv_aload_n hx hb dw_418 rfl (lv_at hl 1 rfl) ?_
  refine lv_iload hx hb dw_419 (lv_at hl 5 rfl) ?_
  refine lv_iconst (v := 2) hx hb dw_421 rfl ?_
  refine lv_iadd hx hb dw_422 ?_
  refine va_sld hx hb hX hbl hbA hL.2.2 v2 dw_423 ?_
  rw [e2]
  refine lm_v (wr := wO gm ca st' o cO f') (lm_runV (q0 := 0) (ci := 1) hM (cw_lm_key hts ⟨by decide, by decide⟩) hx hb hml hown hts hkM hZ hL List.perm_append_comm rfl rfl hl.1 rfl rfl (lv_room (Nat.le_of_ble_eq_true rfl)) dw_424 ⟨by show cells + 3 + 0 ≤ 601024; omega, by show slots + 18 + 0 ≤ 7293000; omega⟩) hA hL List.perm_append_comm List.perm_append_comm ?_
  intro H locs hL
  change LWd D A (wL gm ca gq cq o cO st' ms' f') s.heap H locs at hL
  refine lv_istore (i := 6) (nL := 8) hx hb dw_427 hl (by decide) rfl ?_
  intro ls hl
  refine lv_goto (tgt := 784) hx hb dw_429 (by decide) ?_
  refine W.widen (k := cells + 4) (n := slots + 24) (by show cells + 3 + 0 ≤ cells + 4; omega) (by show slots + 18 + 0 ≤ slots + 24; omega) ?_
  exact kk _ _ _ hL (lv_sub hl [2, 3, 4, 5, 6] rfl)
theorem wl_case7 {p : Program} {l : Launch} {e : Env} {s : State} {m : MethodId} {args : Array Value} {below : List Frame} {meth : Method} {c : Code} {H : Heap} {locs : List Loc} {cells slots : Nat} {Q : State → Prop} {ls : Array Slot} {D : va_G} {A : Nat → Prop} {b L : Nat} {xs : Nat → Int32} {gm gq : Nat → Nat} {ca cq : Nat → ClassId} {o : Nat} {cO : ClassId} {st st' : BSt} {ms ms' : MSt} {f f' : Nat → Int64} {i k : Int32} {y1 y2 : Int32} {z : Int32} (hC : LC p s m args c D A b L xs ca cq cO) (v1 : vp_in (i + 1) L) (e1 : xs (i + 1).toNatClampNeg = y1) (v2 : vp_in (i + 2) L) (e2 : xs (i + 2).toNatClampNeg = y2) (hW : LM l yl_same rml_same D (tysO ca cO) [.ref (gm 0), .int y1, .int y2, .ref o] (wO gm ca st o cO f) (XI k) (wO gm ca st' o cO f')) (hM : LM l ym_same rmm_same D (tysM cq) [.ref (gq 0), .int y1, .int y2] (wM gq cq ms) (XI z) (wM gq cq ms')) (hce : cells + 4 ≤ 601024) (hsl : slots + 24 ≤ 7293000) (hL : LWd D A (wL gm ca gq cq o cO st ms f) s.heap H locs) (hl : lv_has ls 8 (lvL b gm gq o i))
    (kk : ∀ (H : Heap) (locs : List Loc) (ls : Array Slot), LWd D A (wL gm ca gq cq o cO st' ms' f') s.heap H locs → lv_has ls 8 (lvL b gm gq o i) → W p l e room_1 s m args below meth c H locs (cells + 4) (slots + 24) Q (F0 m 784 ls [])) : W p l e room_1 s m args below meth c H locs cells slots Q (F0 m 432 ls []) := by
  obtain ⟨hx, hb, hml, hown, hts, hkO, hkM, hZ, hA, hX, hbl, hbA⟩ := id hC
  refine lv_aload_n hx hb dw_432 rfl (lv_at hl 1 rfl) ?_
  refine lv_aload_n hx hb dw_433 rfl (lv_at hl 0 rfl) ?_
  refine lv_iload hx hb dw_434 (lv_at hl 4 rfl) ?_
  refine lv_iconst (v := 1) hx hb dw_436 rfl ?_
  refine lv_iadd hx hb dw_437 ?_
  refine va_sld hx hb hX hbl hbA hL.2.2 v1 dw_438 ?_
  rw [e1]
  refine lv_aload_n hx hb dw_439 rfl (lv_at hl 0 rfl) ?_
  refine lv_iload hx hb dw_440 (lv_at hl 4 rfl) ?_
  refine lv_iconst (v := 2) hx hb dw_442 rfl ?_
  refine lv_iadd hx hb dw_443 ?_
  refine va_sld hx hb hX hbl hbA hL.2.2 v2 dw_444 ?_
  rw [e2]
  refine lv_aload_n hx hb dw_445 rfl (lv_at hl 3 rfl) ?_
  refine lm_v (wr := wM gq cq ms) (lm_runSW (n := 4) hW ⟨by decide, by decide⟩ mcl_same inl_law (by decide +kernel) ll_same ls_same hx hb hml hown hts hkO hZ hL (List.Perm.refl _) hl.1 rfl rfl (lv_room (Nat.le_of_ble_eq_true rfl)) dw_446 ⟨by show cells + 3 ≤ 601024; omega, by show slots + 18 ≤ 7293000; omega⟩) hA hL (List.Perm.refl _) (List.Perm.refl _) ?_
  intro H locs hL
  change LWd D A (wL gm ca gq cq o cO st' ms f') s.heap H locs at hL
  refine lv_istore (i := 5) (nL := 8) hx hb dw_449 hl (by decide) rfl ?_
  intro ls hl
  refine lv_aload_n hx hb dw_451 rfl (lv_at hl 3 rfl) ?_
  refine lv_aload_n hx hb dw_452 rfl (lv_at hl 1 rfl) ?_
  refine lv_iload hx hb dw_453 (lv_at hl 5 rfl) ?_
  refine lv_iconst (v := 1) hx hb dw_455 rfl ?_
  refine lv_iadd hx hb dw_456 ?_
  refine va_sld hx hb hX hbl hbA hL.2.2 v1 dw_457 ?_
  rw [e1]
  refine lv_aload_n hx hb dw_458 rfl (lv_at hl 1 rfl) ?_
  refine lv_iload hx hb dw_459 (lv_at hl 5 rfl) ?_
  refine lv_iconst (v := 2) hx hb dw_461 rfl ?_
  refine lv_iadd hx hb dw_462 ?_
  refine va_sld hx hb hX hbl hbA hL.2.2 v2 dw_463 ?_
  rw [e2]
  refine lm_v (wr := wO gm ca st' o cO f') (lm_runV (q0 := 0) (ci := 1) hM (cw_lm_same hts ⟨by decide, by decide⟩) hx hb hml hown hts hkM hZ hL List.perm_append_comm rfl rfl hl.1 rfl rfl (lv_room (Nat.le_of_ble_eq_true rfl)) dw_464 ⟨by show cells + 3 + 0 ≤ 601024; omega, by show slots + 18 + 0 ≤ 7293000; omega⟩) hA hL List.perm_append_comm List.perm_append_comm ?_
  intro H locs hL
  change LWd D A (wL gm ca gq cq o cO st' ms' f') s.heap H locs at hL
  refine lv_istore (i := 6) (nL := 8) hx hb dw_467 hl (by decide) rfl ?_
  intro ls hl
  refine lv_goto (tgt := 784) hx hb dw_469 (by decide) ?_
  refine W.widen (k := cells + 4) (n := slots + 24) (by show cells + 3 + 0 ≤ cells + 4; omega) (by show slots + 18 + 0 ≤ slots + 24; omega) ?_
  exact kk _ _ _ hL (lv_sub hl [2, 3, 4, 5, 6] rfl)
theorem wl_case8 {p : Program} {l : Launch} {e : Env} {s : State} {m : MethodId} {args : Array Value} {below : List Frame} {meth : Method} {c : Code} {H : Heap} {locs : List Loc} {cells slots : Nat} {Q : State → Prop} {ls : Array Slot} {D : va_G} {A : Nat → Prop} {b L : Nat} {xs : Nat → Int32} {gm gq : Nat → Nat} {ca cq : Nat → ClassId} {o : Nat} {cO : ClassId} {st st' : BSt} {ms ms' : MSt} {f f' : Nat → Int64} {i k : Int32} {z : Int32} (hC : LC p s m args c D A b L xs ca cq cO)  (hW : LM l yl_free rml_free D (tysO ca cO) [.ref (gm 0), .ref o] (wO gm ca st o cO f) (XI k) (wO gm ca st' o cO f')) (hM : LM l ym_free rmm_free D (tysM cq) [.ref (gq 0)] (wM gq cq ms) (XI z) (wM gq cq ms')) (hce : cells + 4 ≤ 601024) (hsl : slots + 24 ≤ 7293000) (hL : LWd D A (wL gm ca gq cq o cO st ms f) s.heap H locs) (hl : lv_has ls 8 (lvL b gm gq o i))
    (kk : ∀ (H : Heap) (locs : List Loc) (ls : Array Slot), LWd D A (wL gm ca gq cq o cO st' ms' f') s.heap H locs → lv_has ls 8 (lvL b gm gq o i) → W p l e room_1 s m args below meth c H locs (cells + 4) (slots + 24) Q (F0 m 784 ls [])) : W p l e room_1 s m args below meth c H locs cells slots Q (F0 m 472 ls []) := by
  obtain ⟨hx, hb, hml, hown, hts, hkO, hkM, hZ, hA, hX, hbl, hbA⟩ := id hC
  refine lv_aload_n hx hb dw_472 rfl (lv_at hl 1 rfl) ?_
  refine lv_aload_n hx hb dw_473 rfl (lv_at hl 3 rfl) ?_
  refine lm_v (wr := wM gq cq ms) (lm_runSW (n := 2) hW ⟨by decide, by decide⟩ mcl_free inl_law (by decide +kernel) ll_free ls_free hx hb hml hown hts hkO hZ hL (List.Perm.refl _) hl.1 rfl rfl (lv_room (Nat.le_of_ble_eq_true rfl)) dw_474 ⟨by show cells + 1 ≤ 601024; omega, by show slots + 6 ≤ 7293000; omega⟩) hA hL (List.Perm.refl _) (List.Perm.refl _) ?_
  intro H locs hL
  change LWd D A (wL gm ca gq cq o cO st' ms f') s.heap H locs at hL
  refine lv_istore (i := 5) (nL := 8) hx hb dw_477 hl (by decide) rfl ?_
  intro ls hl
  refine lv_aload_n hx hb dw_479 rfl (lv_at hl 3 rfl) ?_
  refine lm_v (wr := wO gm ca st' o cO f') (lm_runV (q0 := 0) (ci := 1) hM (cw_lm_free hts ⟨by decide, by decide⟩) hx hb hml hown hts hkM hZ hL List.perm_append_comm rfl rfl hl.1 rfl rfl (lv_room (Nat.le_of_ble_eq_true rfl)) dw_480 ⟨by show cells + 1 + 0 ≤ 601024; omega, by show slots + 6 + 0 ≤ 7293000; omega⟩) hA hL List.perm_append_comm List.perm_append_comm ?_
  intro H locs hL
  change LWd D A (wL gm ca gq cq o cO st' ms' f') s.heap H locs at hL
  refine lv_istore (i := 6) (nL := 8) hx hb dw_483 hl (by decide) rfl ?_
  intro ls hl
  refine lv_goto (tgt := 784) hx hb dw_485 (by decide) ?_
  refine W.widen (k := cells + 4) (n := slots + 24) (by show cells + 1 + 0 ≤ cells + 4; omega) (by show slots + 6 + 0 ≤ slots + 24; omega) ?_
  exact kk _ _ _ hL (lv_sub hl [2, 3, 4, 5, 6] rfl)
theorem wl_case9 {p : Program} {l : Launch} {e : Env} {s : State} {m : MethodId} {args : Array Value} {below : List Frame} {meth : Method} {c : Code} {H : Heap} {locs : List Loc} {cells slots : Nat} {Q : State → Prop} {ls : Array Slot} {D : va_G} {A : Nat → Prop} {b L : Nat} {xs : Nat → Int32} {gm gq : Nat → Nat} {ca cq : Nat → ClassId} {o : Nat} {cO : ClassId} {st st' : BSt} {ms ms' : MSt} {f f' : Nat → Int64} {i k : Int32} {y1 : Int32} {z : Int32} (hC : LC p s m args c D A b L xs ca cq cO) (v1 : vp_in (i + 1) L) (e1 : xs (i + 1).toNatClampNeg = y1) (hW : LM l yl_crash rml_crash D (tysO ca cO) [.ref (gm 0), .int y1, .ref o] (wO gm ca st o cO f) (XI k) (wO gm ca st' o cO f')) (hM : LM l ym_crash rmm_crash D (tysM cq) [.ref (gq 0), .int y1] (wM gq cq ms) (XI z) (wM gq cq ms')) (hce : cells + 4 ≤ 601024) (hsl : slots + 24 ≤ 7293000) (hL : LWd D A (wL gm ca gq cq o cO st ms f) s.heap H locs) (hl : lv_has ls 8 (lvL b gm gq o i))
    (kk : ∀ (H : Heap) (locs : List Loc) (ls : Array Slot), LWd D A (wL gm ca gq cq o cO st' ms' f') s.heap H locs → lv_has ls 8 (lvL b gm gq o i) → W p l e room_1 s m args below meth c H locs (cells + 4) (slots + 24) Q (F0 m 784 ls [])) : W p l e room_1 s m args below meth c H locs cells slots Q (F0 m 488 ls []) := by
  obtain ⟨hx, hb, hml, hown, hts, hkO, hkM, hZ, hA, hX, hbl, hbA⟩ := id hC
  refine lv_aload_n hx hb dw_488 rfl (lv_at hl 1 rfl) ?_
  refine lv_aload_n hx hb dw_489 rfl (lv_at hl 0 rfl) ?_
  refine lv_iload hx hb dw_490 (lv_at hl 4 rfl) ?_
  refine lv_iconst (v := 1) hx hb dw_492 rfl ?_
  refine lv_iadd hx hb dw_493 ?_
  refine va_sld hx hb hX hbl hbA hL.2.2 v1 dw_494 ?_
  rw [e1]
  refine lv_aload_n hx hb dw_495 rfl (lv_at hl 3 rfl) ?_
  refine lm_v (wr := wM gq cq ms) (lm_runSW (n := 3) hW ⟨by decide, by decide⟩ mcl_crash inl_law (by decide +kernel) ll_crash ls_crash hx hb hml hown hts hkO hZ hL (List.Perm.refl _) hl.1 rfl rfl (lv_room (Nat.le_of_ble_eq_true rfl)) dw_496 ⟨by show cells + 2 ≤ 601024; omega, by show slots + 12 ≤ 7293000; omega⟩) hA hL (List.Perm.refl _) (List.Perm.refl _) ?_
  intro H locs hL
  change LWd D A (wL gm ca gq cq o cO st' ms f') s.heap H locs at hL
  refine lv_istore (i := 5) (nL := 8) hx hb dw_499 hl (by decide) rfl ?_
  intro ls hl
  refine lv_aload_n hx hb dw_501 rfl (lv_at hl 3 rfl) ?_
  refine lv_aload_n hx hb dw_502 rfl (lv_at hl 1 rfl) ?_
  refine lv_iload hx hb dw_503 (lv_at hl 5 rfl) ?_
  refine lv_iconst (v := 1) hx hb dw_505 rfl ?_
  refine lv_iadd hx hb dw_506 ?_
  refine va_sld hx hb hX hbl hbA hL.2.2 v1 dw_507 ?_
  rw [e1]
  refine lm_v (wr := wO gm ca st' o cO f') (lm_runV (q0 := 0) (ci := 1) hM (cw_lm_crash hts ⟨by decide, by decide⟩) hx hb hml hown hts hkM hZ hL List.perm_append_comm rfl rfl hl.1 rfl rfl (lv_room (Nat.le_of_ble_eq_true rfl)) dw_508 ⟨by show cells + 2 + 0 ≤ 601024; omega, by show slots + 12 + 0 ≤ 7293000; omega⟩) hA hL List.perm_append_comm List.perm_append_comm ?_
  intro H locs hL
  change LWd D A (wL gm ca gq cq o cO st' ms' f') s.heap H locs at hL
  refine lv_istore (i := 6) (nL := 8) hx hb dw_511 hl (by decide) rfl ?_
  intro ls hl
  refine lv_goto (tgt := 784) hx hb dw_513 (by decide) ?_
  refine W.widen (k := cells + 4) (n := slots + 24) (by show cells + 2 + 0 ≤ cells + 4; omega) (by show slots + 12 + 0 ≤ slots + 24; omega) ?_
  exact kk _ _ _ hL (lv_sub hl [2, 3, 4, 5, 6] rfl)
theorem wl_case10 {p : Program} {l : Launch} {e : Env} {s : State} {m : MethodId} {args : Array Value} {below : List Frame} {meth : Method} {c : Code} {H : Heap} {locs : List Loc} {cells slots : Nat} {Q : State → Prop} {ls : Array Slot} {D : va_G} {A : Nat → Prop} {b L : Nat} {xs : Nat → Int32} {gm gq : Nat → Nat} {ca cq : Nat → ClassId} {o : Nat} {cO : ClassId} {st st' : BSt} {ms ms' : MSt} {f : Nat → Int64} {i : Int32} {z z2 : Int32} (hC : LC p s m args c D A b L xs ca cq cO)  (hW : LM l yb_reopen rmb_reopen D (tysB ca) [.ref (gm 0)] (wB gm ca st) (XI z) (wB gm ca st')) (hM : LM l ym_reopen rmm_reopen D (tysM cq) [.ref (gq 0)] (wM gq cq ms) (XI z2) (wM gq cq ms')) (hce : cells + 4 ≤ 601024) (hsl : slots + 24 ≤ 7293000) (hL : LWd D A (wL gm ca gq cq o cO st ms f) s.heap H locs) (hl : lv_has ls 8 (lvL b gm gq o i))
    (kk : ∀ (H : Heap) (locs : List Loc) (ls : Array Slot), LWd D A (wL gm ca gq cq o cO st' ms' f) s.heap H locs → lv_has ls 8 (lvL b gm gq o i) → W p l e room_1 s m args below meth c H locs (cells + 4) (slots + 24) Q (F0 m 784 ls [])) : W p l e room_1 s m args below meth c H locs cells slots Q (F0 m 516 ls []) := by
  obtain ⟨hx, hb, hml, hown, hts, hkO, hkM, hZ, hA, hX, hbl, hbA⟩ := id hC
  refine lv_aload_n hx hb dw_516 rfl (lv_at hl 1 rfl) ?_
  refine lm_v (wr := wM gq cq ms ++ [eO o cO f]) (lm_runV (q0 := 0) (ci := 0) hW (cw_l_reopen hts ⟨by decide, by decide⟩) hx hb hml hown hts hkO.tail hZ hL wL_b rfl rfl hl.1 rfl rfl (lv_room (Nat.le_of_ble_eq_true rfl)) dw_517 ⟨by show cells + 0 ≤ 601024; omega, by show slots + 0 ≤ 7293000; omega⟩) hA hL wL_b wL_b.symm ?_
  intro H locs hL
  refine lv_pop hx hb dw_520 rfl ?_
  refine lv_aload_n hx hb dw_521 rfl (lv_at hl 2 rfl) ?_
  refine lm_v (wr := wO gm ca st' o cO f) (lm_runV (q0 := 0) (ci := 1) hM (cw_lm_reopen hts ⟨by decide, by decide⟩) hx hb hml hown hts hkM hZ hL List.perm_append_comm rfl rfl hl.1 rfl rfl (lv_room (Nat.le_of_ble_eq_true rfl)) dw_522 ⟨by show cells + 0 + 0 ≤ 601024; omega, by show slots + 0 + 0 ≤ 7293000; omega⟩) hA hL List.perm_append_comm List.perm_append_comm ?_
  intro H locs hL
  change LWd D A (wL gm ca gq cq o cO st' ms' f) s.heap H locs at hL
  refine lv_pop hx hb dw_525 rfl ?_
  refine lv_goto (tgt := 784) hx hb dw_526 (by decide) ?_
  refine W.widen (k := cells + 4) (n := slots + 24) (by show cells + 0 + 0 ≤ cells + 4; omega) (by show slots + 0 + 0 ≤ slots + 24; omega) ?_
  exact kk _ _ _ hL (lv_sub hl [0, 1, 2, 3, 4] rfl)
theorem wl_case11 {p : Program} {l : Launch} {e : Env} {s : State} {m : MethodId} {args : Array Value} {below : List Frame} {meth : Method} {c : Code} {H : Heap} {locs : List Loc} {cells slots : Nat} {Q : State → Prop} {ls : Array Slot} {D : va_G} {A : Nat → Prop} {b L : Nat} {xs : Nat → Int32} {gm gq : Nat → Nat} {ca cq : Nat → ClassId} {o : Nat} {cO : ClassId} {st st' : BSt} {ms ms' : MSt} {f f' : Nat → Int64} {i k : Int32} {y1 y2 : Int32} {z : Int64} (hC : LC p s m args c D A b L xs ca cq cO) (v1 : vp_in (i + 1) L) (e1 : xs (i + 1).toNatClampNeg = y1) (v2 : vp_in (i + 2) L) (e2 : xs (i + 2).toNatClampNeg = y2) (hW : LM l yl_wordAt rml_wordAt D (tysO ca cO) [.ref (gm 0), .int y1, .int y2, .ref o] (wO gm ca st o cO f) (XI k) (wO gm ca st' o cO f')) (hM : LM l ym_wordAt rmm_wordAt D (tysM cq) [.ref (gq 0), .int y1, .int y2] (wM gq cq ms) (XL z) (wM gq cq ms')) (hce : cells + 4 ≤ 601024) (hsl : slots + 24 ≤ 7293000) (hL : LWd D A (wL gm ca gq cq o cO st ms f) s.heap H locs) (hl : lv_has ls 8 (lvL b gm gq o i))
    (kk : ∀ (H : Heap) (locs : List Loc) (ls : Array Slot), LWd D A (wL gm ca gq cq o cO st' ms' f') s.heap H locs → lv_has ls 8 (lvL b gm gq o i) → W p l e room_1 s m args below meth c H locs (cells + 4) (slots + 24) Q (F0 m 784 ls [])) : W p l e room_1 s m args below meth c H locs cells slots Q (F0 m 529 ls []) := by
  obtain ⟨hx, hb, hml, hown, hts, hkO, hkM, hZ, hA, hX, hbl, hbA⟩ := id hC
  refine lv_aload_n hx hb dw_529 rfl (lv_at hl 1 rfl) ?_
  refine lv_aload_n hx hb dw_530 rfl (lv_at hl 0 rfl) ?_
  refine lv_iload hx hb dw_531 (lv_at hl 4 rfl) ?_
  refine lv_iconst (v := 1) hx hb dw_533 rfl ?_
  refine lv_iadd hx hb dw_534 ?_
  refine va_sld hx hb hX hbl hbA hL.2.2 v1 dw_535 ?_
  rw [e1]
  refine lv_aload_n hx hb dw_536 rfl (lv_at hl 0 rfl) ?_
  refine lv_iload hx hb dw_537 (lv_at hl 4 rfl) ?_
  refine lv_iconst (v := 2) hx hb dw_539 rfl ?_
  refine lv_iadd hx hb dw_540 ?_
  refine va_sld hx hb hX hbl hbA hL.2.2 v2 dw_541 ?_
  rw [e2]
  refine lv_aload_n hx hb dw_542 rfl (lv_at hl 3 rfl) ?_
  refine lm_v (wr := wM gq cq ms) (lm_runSW (n := 4) hW ⟨by decide, by decide⟩ mcl_wordAt inl_law (by decide +kernel) ll_wordAt ls_wordAt hx hb hml hown hts hkO hZ hL (List.Perm.refl _) hl.1 rfl rfl (lv_room (Nat.le_of_ble_eq_true rfl)) dw_543 ⟨by show cells + 1 ≤ 601024; omega, by show slots + 6 ≤ 7293000; omega⟩) hA hL (List.Perm.refl _) (List.Perm.refl _) ?_
  intro H locs hL
  change LWd D A (wL gm ca gq cq o cO st' ms f') s.heap H locs at hL
  refine lv_istore (i := 5) (nL := 8) hx hb dw_546 hl (by decide) rfl ?_
  intro ls hl
  refine lv_aload_n hx hb dw_548 rfl (lv_at hl 3 rfl) ?_
  refine lv_aload_n hx hb dw_549 rfl (lv_at hl 1 rfl) ?_
  refine lv_iload hx hb dw_550 (lv_at hl 5 rfl) ?_
  refine lv_iconst (v := 1) hx hb dw_552 rfl ?_
  refine lv_iadd hx hb dw_553 ?_
  refine va_sld hx hb hX hbl hbA hL.2.2 v1 dw_554 ?_
  rw [e1]
  refine lv_aload_n hx hb dw_555 rfl (lv_at hl 1 rfl) ?_
  refine lv_iload hx hb dw_556 (lv_at hl 5 rfl) ?_
  refine lv_iconst (v := 2) hx hb dw_558 rfl ?_
  refine lv_iadd hx hb dw_559 ?_
  refine va_sld hx hb hX hbl hbA hL.2.2 v2 dw_560 ?_
  rw [e2]
  refine lm_v (wr := wO gm ca st' o cO f') (lm_runV (q0 := 0) (ci := 1) hM (cw_lm_wordAt hts ⟨by decide, by decide⟩) hx hb hml hown hts hkM hZ hL List.perm_append_comm rfl rfl hl.1 rfl rfl (lv_room (Nat.le_of_ble_eq_true rfl)) dw_561 ⟨by show cells + 1 + 0 ≤ 601024; omega, by show slots + 6 + 0 ≤ 7293000; omega⟩) hA hL List.perm_append_comm List.perm_append_comm ?_
  intro H locs hL
  change LWd D A (wL gm ca gq cq o cO st' ms' f') s.heap H locs at hL
  refine lv_lstore (i := 6) (nL := 8) hx hb dw_564 hl (by decide) rfl ?_
  intro ls hl
  refine lv_goto (tgt := 784) hx hb dw_566 (by decide) ?_
  refine W.widen (k := cells + 4) (n := slots + 24) (by show cells + 1 + 0 ≤ cells + 4; omega) (by show slots + 6 + 0 ≤ slots + 24; omega) ?_
  exact kk _ _ _ hL (lv_sub hl [2, 3, 4, 5, 6] rfl)
theorem wl_case12 {p : Program} {l : Launch} {e : Env} {s : State} {m : MethodId} {args : Array Value} {below : List Frame} {meth : Method} {c : Code} {H : Heap} {locs : List Loc} {cells slots : Nat} {Q : State → Prop} {ls : Array Slot} {D : va_G} {A : Nat → Prop} {b L : Nat} {xs : Nat → Int32} {gm gq : Nat → Nat} {ca cq : Nat → ClassId} {o : Nat} {cO : ClassId} {st st' : BSt} {ms ms' : MSt} {f f' : Nat → Int64} {i k : Int32} {y1 y2 : Int32} {z : Int64} (hC : LC p s m args c D A b L xs ca cq cO) (v1 : vp_in (i + 1) L) (e1 : xs (i + 1).toNatClampNeg = y1) (v2 : vp_in (i + 2) L) (e2 : xs (i + 2).toNatClampNeg = y2) (hW : LM l yl_rootAt rml_rootAt D (tysO ca cO) [.ref (gm 0), .int y1, .int y2, .ref o] (wO gm ca st o cO f) (XI k) (wO gm ca st' o cO f')) (hM : LM l ym_rootAt rmm_rootAt D (tysM cq) [.ref (gq 0), .int y1, .int y2] (wM gq cq ms) (XL z) (wM gq cq ms')) (hce : cells + 4 ≤ 601024) (hsl : slots + 24 ≤ 7293000) (hL : LWd D A (wL gm ca gq cq o cO st ms f) s.heap H locs) (hl : lv_has ls 8 (lvL b gm gq o i))
    (kk : ∀ (H : Heap) (locs : List Loc) (ls : Array Slot), LWd D A (wL gm ca gq cq o cO st' ms' f') s.heap H locs → lv_has ls 8 (lvL b gm gq o i) → W p l e room_1 s m args below meth c H locs (cells + 4) (slots + 24) Q (F0 m 784 ls [])) : W p l e room_1 s m args below meth c H locs cells slots Q (F0 m 569 ls []) := by
  obtain ⟨hx, hb, hml, hown, hts, hkO, hkM, hZ, hA, hX, hbl, hbA⟩ := id hC
  refine lv_aload_n hx hb dw_569 rfl (lv_at hl 1 rfl) ?_
  refine lv_aload_n hx hb dw_570 rfl (lv_at hl 0 rfl) ?_
  refine lv_iload hx hb dw_571 (lv_at hl 4 rfl) ?_
  refine lv_iconst (v := 1) hx hb dw_573 rfl ?_
  refine lv_iadd hx hb dw_574 ?_
  refine va_sld hx hb hX hbl hbA hL.2.2 v1 dw_575 ?_
  rw [e1]
  refine lv_aload_n hx hb dw_576 rfl (lv_at hl 0 rfl) ?_
  refine lv_iload hx hb dw_577 (lv_at hl 4 rfl) ?_
  refine lv_iconst (v := 2) hx hb dw_579 rfl ?_
  refine lv_iadd hx hb dw_580 ?_
  refine va_sld hx hb hX hbl hbA hL.2.2 v2 dw_581 ?_
  rw [e2]
  refine lv_aload_n hx hb dw_582 rfl (lv_at hl 3 rfl) ?_
  refine lm_v (wr := wM gq cq ms) (lm_runSW (n := 4) hW ⟨by decide, by decide⟩ mcl_rootAt inl_law (by decide +kernel) ll_rootAt ls_rootAt hx hb hml hown hts hkO hZ hL (List.Perm.refl _) hl.1 rfl rfl (lv_room (Nat.le_of_ble_eq_true rfl)) dw_583 ⟨by show cells + 1 ≤ 601024; omega, by show slots + 6 ≤ 7293000; omega⟩) hA hL (List.Perm.refl _) (List.Perm.refl _) ?_
  intro H locs hL
  change LWd D A (wL gm ca gq cq o cO st' ms f') s.heap H locs at hL
  refine lv_istore (i := 5) (nL := 8) hx hb dw_586 hl (by decide) rfl ?_
  intro ls hl
  refine lv_aload_n hx hb dw_588 rfl (lv_at hl 3 rfl) ?_
  refine lv_aload_n hx hb dw_589 rfl (lv_at hl 1 rfl) ?_
  refine lv_iload hx hb dw_590 (lv_at hl 5 rfl) ?_
  refine lv_iconst (v := 1) hx hb dw_592 rfl ?_
  refine lv_iadd hx hb dw_593 ?_
  refine va_sld hx hb hX hbl hbA hL.2.2 v1 dw_594 ?_
  rw [e1]
  refine lv_aload_n hx hb dw_595 rfl (lv_at hl 1 rfl) ?_
  refine lv_iload hx hb dw_596 (lv_at hl 5 rfl) ?_
  refine lv_iconst (v := 2) hx hb dw_598 rfl ?_
  refine lv_iadd hx hb dw_599 ?_
  refine va_sld hx hb hX hbl hbA hL.2.2 v2 dw_600 ?_
  rw [e2]
  refine lm_v (wr := wO gm ca st' o cO f') (lm_runV (q0 := 0) (ci := 1) hM (cw_lm_rootAt hts ⟨by decide, by decide⟩) hx hb hml hown hts hkM hZ hL List.perm_append_comm rfl rfl hl.1 rfl rfl (lv_room (Nat.le_of_ble_eq_true rfl)) dw_601 ⟨by show cells + 1 + 0 ≤ 601024; omega, by show slots + 6 + 0 ≤ 7293000; omega⟩) hA hL List.perm_append_comm List.perm_append_comm ?_
  intro H locs hL
  change LWd D A (wL gm ca gq cq o cO st' ms' f') s.heap H locs at hL
  refine lv_lstore (i := 6) (nL := 8) hx hb dw_604 hl (by decide) rfl ?_
  intro ls hl
  refine lv_goto (tgt := 784) hx hb dw_606 (by decide) ?_
  refine W.widen (k := cells + 4) (n := slots + 24) (by show cells + 1 + 0 ≤ cells + 4; omega) (by show slots + 6 + 0 ≤ slots + 24; omega) ?_
  exact kk _ _ _ hL (lv_sub hl [2, 3, 4, 5, 6] rfl)
theorem wl_case13 {p : Program} {l : Launch} {e : Env} {s : State} {m : MethodId} {args : Array Value} {below : List Frame} {meth : Method} {c : Code} {H : Heap} {locs : List Loc} {cells slots : Nat} {Q : State → Prop} {ls : Array Slot} {D : va_G} {A : Nat → Prop} {b L : Nat} {xs : Nat → Int32} {gm gq : Nat → Nat} {ca cq : Nat → ClassId} {o : Nat} {cO : ClassId} {st st' : BSt} {ms ms' : MSt} {f : Nat → Int64} {i k : Int32} {y1 y2 y3 y4 : Int32} (hC : LC p s m args c D A b L xs ca cq cO) (v1 : vp_in (i + 1) L) (e1 : xs (i + 1).toNatClampNeg = y1) (v2 : vp_in (i + 2) L) (e2 : xs (i + 2).toNatClampNeg = y2) (v3 : vp_in (i + 3) L) (e3 : xs (i + 3).toNatClampNeg = y3) (v4 : vp_in (i + 4) L) (e4 : xs (i + 4).toNatClampNeg = y4) (hW : LM l yl_poke rml_poke D (tysO ca cO) [.ref (gm 0), .int y1, .int y2, .long (lvl y3 y4)] (wO gm ca st o cO f) (XI k) (wO gm ca st' o cO f)) (hM : LM l ym_poke rmm_poke D (tysM cq) [.ref (gq 0), .int y1, .int y2, .long (lvl y3 y4)] (wM gq cq ms) (XV) (wM gq cq ms')) (hce : cells + 4 ≤ 601024) (hsl : slots + 24 ≤ 7293000) (hL : LWd D A (wL gm ca gq cq o cO st ms f) s.heap H locs) (hl : lv_has ls 8 (lvL b gm gq o i))
    (kk : ∀ (H : Heap) (locs : List Loc) (ls : Array Slot), LWd D A (wL gm ca gq cq o cO st' ms' f) s.heap H locs → lv_has ls 8 (lvL b gm gq o i) → W p l e room_1 s m args below meth c H locs (cells + 4) (slots + 24) Q (F0 m 784 ls [])) : W p l e room_1 s m args below meth c H locs cells slots Q (F0 m 609 ls []) := by
  obtain ⟨hx, hb, hml, hown, hts, hkO, hkM, hZ, hA, hX, hbl, hbA⟩ := id hC
  refine lv_aload_n hx hb dw_609 rfl (lv_at hl 1 rfl) ?_
  refine lv_aload_n hx hb dw_610 rfl (lv_at hl 0 rfl) ?_
  refine lv_iload hx hb dw_611 (lv_at hl 4 rfl) ?_
  refine lv_iconst (v := 1) hx hb dw_613 rfl ?_
  refine lv_iadd hx hb dw_614 ?_
  refine va_sld hx hb hX hbl hbA hL.2.2 v1 dw_615 ?_
  rw [e1]
  refine lv_aload_n hx hb dw_616 rfl (lv_at hl 0 rfl) ?_
  refine lv_iload hx hb dw_617 (lv_at hl 4 rfl) ?_
  refine lv_iconst (v := 2) hx hb dw_619 rfl ?_
  refine lv_iadd hx hb dw_620 ?_
  refine va_sld hx hb hX hbl hbA hL.2.2 v2 dw_621 ?_
  rw [e2]
  refine lv_aload_n hx hb dw_622 rfl (lv_at hl 0 rfl) ?_
  refine lv_iload hx hb dw_623 (lv_at hl 4 rfl) ?_
  refine lv_iconst (v := 3) hx hb dw_625 rfl ?_
  refine lv_iadd hx hb dw_626 ?_
  refine va_sld hx hb hX hbl hbA hL.2.2 v3 dw_627 ?_
  rw [e3]
  refine lv_i2l hx hb dw_628 rfl ?_
  refine lv_bipush (v := 32) hx hb dw_629 (by decide) ?_
  refine lv_lshl hx hb dw_631 rfl ?_
  refine lv_aload_n hx hb dw_632 rfl (lv_at hl 0 rfl) ?_
  refine lv_iload hx hb dw_633 (lv_at hl 4 rfl) ?_
  refine lv_iconst (v := 4) hx hb dw_635 rfl ?_
  refine lv_iadd hx hb dw_636 ?_
  refine va_sld hx hb hX hbl hbA hL.2.2 v4 dw_637 ?_
  rw [e4]
  refine lv_i2l hx hb dw_638 rfl ?_
  refine lv_ldc2 hx hb hown (kcl_76 hts) dw_639 ?_
  refine lv_land hx hb dw_642 ?_
  refine lv_lor hx hb dw_643 ?_
  refine lm_v (wr := wM gq cq ms) (lm_runSW (n := 4) hW ⟨by decide, by decide⟩ mcl_poke inl_law (by decide +kernel) ll_poke ls_poke hx hb hml hown hts hkO hZ hL (List.Perm.refl _) hl.1 rfl rfl (lv_room (Nat.le_of_ble_eq_true rfl)) dw_644 ⟨by show cells + 2 ≤ 601024; omega, by show slots + 12 ≤ 7293000; omega⟩) hA hL (List.Perm.refl _) (List.Perm.refl _) ?_
  intro H locs hL
  change LWd D A (wL gm ca gq cq o cO st' ms f) s.heap H locs at hL
  refine lv_istore (i := 5) (nL := 8) hx hb dw_647 hl (by decide) rfl ?_
  intro ls hl
  refine lv_aload_n hx hb dw_649 rfl (lv_at hl 3 rfl) ?_
  refine lv_aload_n hx hb dw_650 rfl (lv_at hl 1 rfl) ?_
  refine lv_iload hx hb dw_651 (lv_at hl 5 rfl) ?_
  refine lv_iconst (v := 1) hx hb dw_653 rfl ?_
  refine lv_iadd hx hb dw_654 ?_
  refine va_sld hx hb hX hbl hbA hL.2.2 v1 dw_655 ?_
  rw [e1]
  refine lv_aload_n hx hb dw_656 rfl (lv_at hl 1 rfl) ?_
  refine lv_iload hx hb dw_657 (lv_at hl 5 rfl) ?_
  refine lv_iconst (v := 2) hx hb dw_659 rfl ?_
  refine lv_iadd hx hb dw_660 ?_
  refine va_sld hx hb hX hbl hbA hL.2.2 v2 dw_661 ?_
  rw [e2]
  refine lv_aload_n hx hb dw_662 rfl (lv_at hl 1 rfl) ?_
  refine lv_iload hx hb dw_663 (lv_at hl 5 rfl) ?_
  refine lv_iconst (v := 3) hx hb dw_665 rfl ?_
  refine lv_iadd hx hb dw_666 ?_
  refine va_sld hx hb hX hbl hbA hL.2.2 v3 dw_667 ?_
  rw [e3]
  refine lv_i2l hx hb dw_668 rfl ?_
  refine lv_bipush (v := 32) hx hb dw_669 (by decide) ?_
  refine lv_lshl hx hb dw_671 rfl ?_
  refine lv_aload_n hx hb dw_672 rfl (lv_at hl 1 rfl) ?_
  refine lv_iload hx hb dw_673 (lv_at hl 5 rfl) ?_
  refine lv_iconst (v := 4) hx hb dw_675 rfl ?_
  refine lv_iadd hx hb dw_676 ?_
  refine va_sld hx hb hX hbl hbA hL.2.2 v4 dw_677 ?_
  rw [e4]
  refine lv_i2l hx hb dw_678 rfl ?_
  refine lv_ldc2 hx hb hown (kcl_76 hts) dw_679 ?_
  refine lv_land hx hb dw_682 ?_
  refine lv_lor hx hb dw_683 ?_
  refine lm_v (wr := wO gm ca st' o cO f) (lm_runV (q0 := 0) (ci := 1) hM (cw_lm_poke hts ⟨by decide, by decide⟩) hx hb hml hown hts hkM hZ hL List.perm_append_comm rfl rfl hl.1 rfl rfl (lv_room (Nat.le_of_ble_eq_true rfl)) dw_684 ⟨by show cells + 2 + 0 ≤ 601024; omega, by show slots + 12 + 0 ≤ 7293000; omega⟩) hA hL List.perm_append_comm List.perm_append_comm ?_
  intro H locs hL
  change LWd D A (wL gm ca gq cq o cO st' ms' f) s.heap H locs at hL
  refine lv_goto (tgt := 784) hx hb dw_687 (by decide) ?_
  refine W.widen (k := cells + 4) (n := slots + 24) (by show cells + 2 + 0 ≤ cells + 4; omega) (by show slots + 12 + 0 ≤ slots + 24; omega) ?_
  exact kk _ _ _ hL (lv_sub hl [1, 2, 3, 4, 5] rfl)
theorem wl_case14 {p : Program} {l : Launch} {e : Env} {s : State} {m : MethodId} {args : Array Value} {below : List Frame} {meth : Method} {c : Code} {H : Heap} {locs : List Loc} {cells slots : Nat} {Q : State → Prop} {ls : Array Slot} {D : va_G} {A : Nat → Prop} {b L : Nat} {xs : Nat → Int32} {gm gq : Nat → Nat} {ca cq : Nat → ClassId} {o : Nat} {cO : ClassId} {st st' : BSt} {ms ms' : MSt} {f : Nat → Int64} {i k : Int32} {y1 y2 y3 y4 : Int32} (hC : LC p s m args c D A b L xs ca cq cO) (v1 : vp_in (i + 1) L) (e1 : xs (i + 1).toNatClampNeg = y1) (v2 : vp_in (i + 2) L) (e2 : xs (i + 2).toNatClampNeg = y2) (v3 : vp_in (i + 3) L) (e3 : xs (i + 3).toNatClampNeg = y3) (v4 : vp_in (i + 4) L) (e4 : xs (i + 4).toNatClampNeg = y4) (hW : LM l yl_pokeRoot rml_pokeRoot D (tysO ca cO) [.ref (gm 0), .int y1, .int y2, .long (lvl y3 y4)] (wO gm ca st o cO f) (XI k) (wO gm ca st' o cO f)) (hM : LM l ym_pokeRoot rmm_pokeRoot D (tysM cq) [.ref (gq 0), .int y1, .int y2, .long (lvl y3 y4)] (wM gq cq ms) (XV) (wM gq cq ms')) (hce : cells + 4 ≤ 601024) (hsl : slots + 24 ≤ 7293000) (hL : LWd D A (wL gm ca gq cq o cO st ms f) s.heap H locs) (hl : lv_has ls 8 (lvL b gm gq o i))
    (kk : ∀ (H : Heap) (locs : List Loc) (ls : Array Slot), LWd D A (wL gm ca gq cq o cO st' ms' f) s.heap H locs → lv_has ls 8 (lvL b gm gq o i) → W p l e room_1 s m args below meth c H locs (cells + 4) (slots + 24) Q (F0 m 784 ls [])) : W p l e room_1 s m args below meth c H locs cells slots Q (F0 m 690 ls []) := by
  obtain ⟨hx, hb, hml, hown, hts, hkO, hkM, hZ, hA, hX, hbl, hbA⟩ := id hC
  refine lv_aload_n hx hb dw_690 rfl (lv_at hl 1 rfl) ?_
  refine lv_aload_n hx hb dw_691 rfl (lv_at hl 0 rfl) ?_
  refine lv_iload hx hb dw_692 (lv_at hl 4 rfl) ?_
  refine lv_iconst (v := 1) hx hb dw_694 rfl ?_
  refine lv_iadd hx hb dw_695 ?_
  refine va_sld hx hb hX hbl hbA hL.2.2 v1 dw_696 ?_
  rw [e1]
  refine lv_aload_n hx hb dw_697 rfl (lv_at hl 0 rfl) ?_
  refine lv_iload hx hb dw_698 (lv_at hl 4 rfl) ?_
  refine lv_iconst (v := 2) hx hb dw_700 rfl ?_
  refine lv_iadd hx hb dw_701 ?_
  refine va_sld hx hb hX hbl hbA hL.2.2 v2 dw_702 ?_
  rw [e2]
  refine lv_aload_n hx hb dw_703 rfl (lv_at hl 0 rfl) ?_
  refine lv_iload hx hb dw_704 (lv_at hl 4 rfl) ?_
  refine lv_iconst (v := 3) hx hb dw_706 rfl ?_
  refine lv_iadd hx hb dw_707 ?_
  refine va_sld hx hb hX hbl hbA hL.2.2 v3 dw_708 ?_
  rw [e3]
  refine lv_i2l hx hb dw_709 rfl ?_
  refine lv_bipush (v := 32) hx hb dw_710 (by decide) ?_
  refine lv_lshl hx hb dw_712 rfl ?_
  refine lv_aload_n hx hb dw_713 rfl (lv_at hl 0 rfl) ?_
  refine lv_iload hx hb dw_714 (lv_at hl 4 rfl) ?_
  refine lv_iconst (v := 4) hx hb dw_716 rfl ?_
  refine lv_iadd hx hb dw_717 ?_
  refine va_sld hx hb hX hbl hbA hL.2.2 v4 dw_718 ?_
  rw [e4]
  refine lv_i2l hx hb dw_719 rfl ?_
  refine lv_ldc2 hx hb hown (kcl_76 hts) dw_720 ?_
  refine lv_land hx hb dw_723 ?_
  refine lv_lor hx hb dw_724 ?_
  refine lm_v (wr := wM gq cq ms) (lm_runSW (n := 4) hW ⟨by decide, by decide⟩ mcl_pokeRoot inl_law (by decide +kernel) ll_pokeRoot ls_pokeRoot hx hb hml hown hts hkO hZ hL (List.Perm.refl _) hl.1 rfl rfl (lv_room (Nat.le_of_ble_eq_true rfl)) dw_725 ⟨by show cells + 2 ≤ 601024; omega, by show slots + 12 ≤ 7293000; omega⟩) hA hL (List.Perm.refl _) (List.Perm.refl _) ?_
  intro H locs hL
  change LWd D A (wL gm ca gq cq o cO st' ms f) s.heap H locs at hL
  refine lv_istore (i := 5) (nL := 8) hx hb dw_728 hl (by decide) rfl ?_
  intro ls hl
  refine lv_aload_n hx hb dw_730 rfl (lv_at hl 3 rfl) ?_
  refine lv_aload_n hx hb dw_731 rfl (lv_at hl 1 rfl) ?_
  refine lv_iload hx hb dw_732 (lv_at hl 5 rfl) ?_
  refine lv_iconst (v := 1) hx hb dw_734 rfl ?_
  refine lv_iadd hx hb dw_735 ?_
  refine va_sld hx hb hX hbl hbA hL.2.2 v1 dw_736 ?_
  rw [e1]
  refine lv_aload_n hx hb dw_737 rfl (lv_at hl 1 rfl) ?_
  refine lv_iload hx hb dw_738 (lv_at hl 5 rfl) ?_
  refine lv_iconst (v := 2) hx hb dw_740 rfl ?_
  refine lv_iadd hx hb dw_741 ?_
  refine va_sld hx hb hX hbl hbA hL.2.2 v2 dw_742 ?_
  rw [e2]
  refine lv_aload_n hx hb dw_743 rfl (lv_at hl 1 rfl) ?_
  refine lv_iload hx hb dw_744 (lv_at hl 5 rfl) ?_
  refine lv_iconst (v := 3) hx hb dw_746 rfl ?_
  refine lv_iadd hx hb dw_747 ?_
  refine va_sld hx hb hX hbl hbA hL.2.2 v3 dw_748 ?_
  rw [e3]
  refine lv_i2l hx hb dw_749 rfl ?_
  refine lv_bipush (v := 32) hx hb dw_750 (by decide) ?_
  refine lv_lshl hx hb dw_752 rfl ?_
  refine lv_aload_n hx hb dw_753 rfl (lv_at hl 1 rfl) ?_
  refine lv_iload hx hb dw_754 (lv_at hl 5 rfl) ?_
  refine lv_iconst (v := 4) hx hb dw_756 rfl ?_
  refine lv_iadd hx hb dw_757 ?_
  refine va_sld hx hb hX hbl hbA hL.2.2 v4 dw_758 ?_
  rw [e4]
  refine lv_i2l hx hb dw_759 rfl ?_
  refine lv_ldc2 hx hb hown (kcl_76 hts) dw_760 ?_
  refine lv_land hx hb dw_763 ?_
  refine lv_lor hx hb dw_764 ?_
  refine lm_v (wr := wO gm ca st' o cO f) (lm_runV (q0 := 0) (ci := 1) hM (cw_lm_pokeRoot hts ⟨by decide, by decide⟩) hx hb hml hown hts hkM hZ hL List.perm_append_comm rfl rfl hl.1 rfl rfl (lv_room (Nat.le_of_ble_eq_true rfl)) dw_765 ⟨by show cells + 2 + 0 ≤ 601024; omega, by show slots + 12 + 0 ≤ 7293000; omega⟩) hA hL List.perm_append_comm List.perm_append_comm ?_
  intro H locs hL
  change LWd D A (wL gm ca gq cq o cO st' ms' f) s.heap H locs at hL
  refine lv_goto (tgt := 784) hx hb dw_768 (by decide) ?_
  refine W.widen (k := cells + 4) (n := slots + 24) (by show cells + 2 + 0 ≤ cells + 4; omega) (by show slots + 12 + 0 ≤ slots + 24; omega) ?_
  exact kk _ _ _ hL (lv_sub hl [1, 2, 3, 4, 5] rfl)
theorem wl_case15 {p : Program} {l : Launch} {e : Env} {s : State} {m : MethodId} {args : Array Value} {below : List Frame} {meth : Method} {c : Code} {H : Heap} {locs : List Loc} {cells slots : Nat} {Q : State → Prop} {ls : Array Slot} {D : va_G} {A : Nat → Prop} {b L : Nat} {xs : Nat → Int32} {gm gq : Nat → Nat} {ca cq : Nat → ClassId} {o : Nat} {cO : ClassId} {st st' : BSt} {ms ms' : MSt} {f : Nat → Int64} {i : Int32} {z z2 : Int32} (hC : LC p s m args c D A b L xs ca cq cO)  (hW : LM l yb_badAt rmb_badAt D (tysB ca) [.ref (gm 0)] (wB gm ca st) (XI z) (wB gm ca st')) (hM : LM l ym_badAt rmm_badAt D (tysM cq) [.ref (gq 0)] (wM gq cq ms) (XI z2) (wM gq cq ms')) (hce : cells + 4 ≤ 601024) (hsl : slots + 24 ≤ 7293000) (hL : LWd D A (wL gm ca gq cq o cO st ms f) s.heap H locs) (hl : lv_has ls 8 (lvL b gm gq o i))
    (kk : ∀ (H : Heap) (locs : List Loc) (ls : Array Slot), LWd D A (wL gm ca gq cq o cO st' ms' f) s.heap H locs → lv_has ls 8 (lvL b gm gq o i) → W p l e room_1 s m args below meth c H locs (cells + 4) (slots + 24) Q (F0 m 784 ls [])) : W p l e room_1 s m args below meth c H locs cells slots Q (F0 m 771 ls []) := by
  obtain ⟨hx, hb, hml, hown, hts, hkO, hkM, hZ, hA, hX, hbl, hbA⟩ := id hC
  refine lv_aload_n hx hb dw_771 rfl (lv_at hl 1 rfl) ?_
  refine lm_v (wr := wM gq cq ms ++ [eO o cO f]) (lm_runV (q0 := 0) (ci := 0) hW (cw_l_badAt hts ⟨by decide, by decide⟩) hx hb hml hown hts hkO.tail hZ hL wL_b rfl rfl hl.1 rfl rfl (lv_room (Nat.le_of_ble_eq_true rfl)) dw_772 ⟨by show cells + 0 ≤ 601024; omega, by show slots + 0 ≤ 7293000; omega⟩) hA hL wL_b wL_b.symm ?_
  intro H locs hL
  refine lv_pop hx hb dw_775 rfl ?_
  refine lv_aload_n hx hb dw_776 rfl (lv_at hl 2 rfl) ?_
  refine lm_v (wr := wO gm ca st' o cO f) (lm_runV (q0 := 0) (ci := 1) hM (cw_lm_badAt hts ⟨by decide, by decide⟩) hx hb hml hown hts hkM hZ hL List.perm_append_comm rfl rfl hl.1 rfl rfl (lv_room (Nat.le_of_ble_eq_true rfl)) dw_777 ⟨by show cells + 0 + 0 ≤ 601024; omega, by show slots + 0 + 0 ≤ 7293000; omega⟩) hA hL List.perm_append_comm List.perm_append_comm ?_
  intro H locs hL
  change LWd D A (wL gm ca gq cq o cO st' ms' f) s.heap H locs at hL
  refine lv_pop hx hb dw_780 rfl ?_
  refine lv_goto (tgt := 784) hx hb dw_781 (by decide) ?_
  refine W.widen (k := cells + 4) (n := slots + 24) (by show cells + 0 + 0 ≤ cells + 4; omega) (by show slots + 0 + 0 ≤ slots + 24; omega) ?_
  exact kk _ _ _ hL (lv_sub hl [0, 1, 2, 3, 4] rfl)
