theorem wl_case0 {p : Program} {l : Launch} {e : Env} {s : State} {m : MethodId} {args : Array Value} {below : List Frame} {meth : Method} {c : Code} {H : Heap} {locs : List Loc} {cells slots : Nat} {Q : State → Prop} {ls : Array Slot} {D : va_G} {A : Nat → Prop} {b L : Nat} {xs : Nat → Int32} {gm gq : Nat → Nat} {ca cq : Nat → ClassId} {o : Nat} {cO : ClassId} {st st' : BSt} {ms ms' : MSt} {f f' : Nat → Int64} {i k : Int32} {y1 y2 y3 : Int32} {z : Int32} (hC : LC p s m args c D A b L xs ca cq cO) (v1 : vp_in (i + 1) L) (e1 : xs (i + 1).toNatClampNeg = y1) (v2 : vp_in (i + 2) L) (e2 : xs (i + 2).toNatClampNeg = y2) (v3 : vp_in (i + 3) L) (e3 : xs (i + 3).toNatClampNeg = y3) (hW : LM l yl_put rml_put D (tysO ca cO) [.ref (gm 0), .int y1, .long (lvl y2 y3), .ref o] (wO gm ca st o cO f) (XI k) (wO gm ca st' o cO f')) (hM : LM l ym_put rmm_put D (tysM cq) [.ref (gq 0), .int y1, .long (lvl y2 y3)] (wM gq cq ms) (XI z) (wM gq cq ms')) (hT : LM l ym_thrown rmm_thrown D (tysM cq) [.ref (gq 0)] (wM gq cq ms') (XI k) (wM gq cq ms')) (hE : k = 0 → f' 0 = z.toInt64) (hce : cells + 4 ≤ 601024) (hsl : slots + 24 ≤ 7293000) (hL : LWd D A (wL gm ca gq cq o cO st ms f) s.heap H locs) (hl : lv_has ls 8 (lvL b gm gq o i))
    (kk : ∀ (H : Heap) (locs : List Loc) (ls : Array Slot), LWd D A (wL gm ca gq cq o cO st' ms' f') s.heap H locs → lv_has ls 8 (lvL b gm gq o i) → W p l e room_1 s m args below meth c H locs (cells + 4) (slots + 24) Q (F0 m 1125 ls [])) : W p l e room_1 s m args below meth c H locs cells slots Q (F0 m 128 ls []) := by
  obtain ⟨hx, hb, hml, hown, hts, hkO, hkM, hZ, hA, hX, hbl, hbA⟩ := id hC
  refine lv_aload_n hx hb dw_128 rfl (lv_at hl 1 rfl) ?_
  refine lv_aload_n hx hb dw_129 rfl (lv_at hl 0 rfl) ?_
  refine lv_iload hx hb dw_130 (lv_at hl 4 rfl) ?_
  refine lv_iconst (v := 1) hx hb dw_132 rfl ?_
  refine lv_iadd hx hb dw_133 ?_
  refine va_sld hx hb hX hbl hbA hL.2.2 v1 dw_134 ?_
  rw [e1]
  refine lv_aload_n hx hb dw_135 rfl (lv_at hl 0 rfl) ?_
  refine lv_iload hx hb dw_136 (lv_at hl 4 rfl) ?_
  refine lv_iconst (v := 2) hx hb dw_138 rfl ?_
  refine lv_iadd hx hb dw_139 ?_
  refine va_sld hx hb hX hbl hbA hL.2.2 v2 dw_140 ?_
  rw [e2]
  refine lv_i2l hx hb dw_141 rfl ?_
  refine lv_bipush (v := 32) hx hb dw_142 (by decide) ?_
  refine lv_lshl hx hb dw_144 rfl ?_
  refine lv_aload_n hx hb dw_145 rfl (lv_at hl 0 rfl) ?_
  refine lv_iload hx hb dw_146 (lv_at hl 4 rfl) ?_
  refine lv_iconst (v := 3) hx hb dw_148 rfl ?_
  refine lv_iadd hx hb dw_149 ?_
  refine va_sld hx hb hX hbl hbA hL.2.2 v3 dw_150 ?_
  rw [e3]
  refine lv_i2l hx hb dw_151 rfl ?_
  refine lv_ldc2 hx hb hown (kcl_76 hts) dw_152 ?_
  refine lv_land hx hb dw_155 ?_
  refine lv_lor hx hb dw_156 ?_
  refine lv_aload_n hx hb dw_157 rfl (lv_at hl 3 rfl) ?_
  refine lm_v (wr := wM gq cq ms) (lm_runSW (n := 4) hW ⟨by decide, by decide⟩ mcl_put inl_law (by decide +kernel) ll_put ls_put hx hb hml hown hts hkO hZ hL (List.Perm.refl _) hl.1 rfl rfl (lv_room (Nat.le_of_ble_eq_true rfl)) dw_158 ⟨by show cells + 4 ≤ 601024; omega, by show slots + 24 ≤ 7293000; omega⟩) hA hL (List.Perm.refl _) (List.Perm.refl _) ?_
  intro H locs hL
  change LWd D A (wL gm ca gq cq o cO st' ms f') s.heap H locs at hL
  refine lv_istore (i := 5) (nL := 8) hx hb dw_161 hl (by decide) rfl ?_
  intro ls hl
  refine lv_aload_n hx hb dw_163 rfl (lv_at hl 3 rfl) ?_
  refine lv_aload_n hx hb dw_164 rfl (lv_at hl 1 rfl) ?_
  refine lv_iload hx hb dw_165 (lv_at hl 5 rfl) ?_
  refine lv_iconst (v := 1) hx hb dw_167 rfl ?_
  refine lv_iadd hx hb dw_168 ?_
  refine va_sld hx hb hX hbl hbA hL.2.2 v1 dw_169 ?_
  rw [e1]
  refine lv_aload_n hx hb dw_170 rfl (lv_at hl 1 rfl) ?_
  refine lv_iload hx hb dw_171 (lv_at hl 5 rfl) ?_
  refine lv_iconst (v := 2) hx hb dw_173 rfl ?_
  refine lv_iadd hx hb dw_174 ?_
  refine va_sld hx hb hX hbl hbA hL.2.2 v2 dw_175 ?_
  rw [e2]
  refine lv_i2l hx hb dw_176 rfl ?_
  refine lv_bipush (v := 32) hx hb dw_177 (by decide) ?_
  refine lv_lshl hx hb dw_179 rfl ?_
  refine lv_aload_n hx hb dw_180 rfl (lv_at hl 1 rfl) ?_
  refine lv_iload hx hb dw_181 (lv_at hl 5 rfl) ?_
  refine lv_iconst (v := 3) hx hb dw_183 rfl ?_
  refine lv_iadd hx hb dw_184 ?_
  refine va_sld hx hb hX hbl hbA hL.2.2 v3 dw_185 ?_
  rw [e3]
  refine lv_i2l hx hb dw_186 rfl ?_
  refine lv_ldc2 hx hb hown (kcl_76 hts) dw_187 ?_
  refine lv_land hx hb dw_190 ?_
  refine lv_lor hx hb dw_191 ?_
  refine lm_v (wr := wO gm ca st' o cO f') (lm_runV (q0 := 0) (ci := 1) hM (cw_lm_put hts ⟨by decide, by decide⟩) hx hb hml hown hts hkM hZ hL List.perm_append_comm rfl rfl hl.1 rfl rfl (lv_room (Nat.le_of_ble_eq_true rfl)) dw_192 ⟨by show cells + 4 + 0 ≤ 601024; omega, by show slots + 24 + 0 ≤ 7293000; omega⟩) hA hL List.perm_append_comm List.perm_append_comm ?_
  intro H locs hL
  change LWd D A (wL gm ca gq cq o cO st' ms' f') s.heap H locs at hL
  refine lv_istore (i := 6) (nL := 8) hx hb dw_195 hl (by decide) rfl ?_
  intro ls hl
  refine lv_aload_n hx hb dw_197 rfl (lv_at hl 4 rfl) ?_
  refine lm_v (wr := wO gm ca st' o cO f') (lm_runV (q0 := 0) (ci := 1) hT (cw_lm_thrown hts ⟨by decide, by decide⟩) hx hb hml hown hts hkM hZ hL List.perm_append_comm rfl rfl hl.1 rfl rfl (lv_room (Nat.le_of_ble_eq_true rfl)) dw_198 ⟨by show cells + 4 + 0 + 0 ≤ 601024; omega, by show slots + 24 + 0 + 0 ≤ 7293000; omega⟩) hA hL List.perm_append_comm List.perm_append_comm ?_
  intro H locs hL
  change LWd D A (wL gm ca gq cq o cO st' ms' f') s.heap H locs at hL
  refine lv_iload hx hb dw_201 (lv_at hl 1 rfl) ?_
  refine lv_icmp_eq (tgt := 208) hx hb dw_203 (by decide) (fun _ => ?_) (fun c0 => absurd rfl c0)
  refine lv_iload hx hb dw_208 (lv_at hl 1 rfl) ?_
  refine lv_if_ne (tgt := 225) hx hb dw_210 (by decide) (fun c1 => ?_) (fun c1 => ?_)
  ·
    refine lv_goto (tgt := 1125) hx hb dw_225 (by decide) ?_
    refine W.widen (k := cells + 4) (n := slots + 24) (by show cells + 4 + 0 + 0 ≤ cells + 4; omega) (by show slots + 24 + 0 + 0 ≤ slots + 24; omega) ?_
    exact kk _ _ _ hL (lv_sub hl [2, 3, 4, 5, 6] rfl)
  ·
    refine lv_aload_n hx hb dw_213 rfl (lv_at hl 5 rfl) ?_
    refine lv_iconst (v := 0) hx hb dw_214 rfl ?_
    refine va_lald hx hb hkO.1 hL.1 0 0 rfl rfl (by unfold vp_in; decide) dw_215 ?_
    refine lv_iload hx hb dw_216 (lv_at hl 0 rfl) ?_
    refine lv_i2l hx hb dw_218 rfl ?_
    refine W.lcmp hx hb dw_219 ?_
    refine lv_if_eq (tgt := 225) hx hb dw_220 (by decide) (fun _ => ?_) (fun c0 => absurd (lgc_eq.mpr (hE c1)) c0)
    refine lv_goto (tgt := 1125) hx hb dw_225 (by decide) ?_
    refine W.widen (k := cells + 4) (n := slots + 24) (by show cells + 4 + 0 + 0 ≤ cells + 4; omega) (by show slots + 24 + 0 + 0 ≤ slots + 24; omega) ?_
    exact kk _ _ _ hL (lv_sub hl [2, 3, 4, 5, 6] rfl)
theorem wl_case10 {p : Program} {l : Launch} {e : Env} {s : State} {m : MethodId} {args : Array Value} {below : List Frame} {meth : Method} {c : Code} {H : Heap} {locs : List Loc} {cells slots : Nat} {Q : State → Prop} {ls : Array Slot} {D : va_G} {A : Nat → Prop} {b L : Nat} {xs : Nat → Int32} {gm gq : Nat → Nat} {ca cq : Nat → ClassId} {o : Nat} {cO : ClassId} {st st' : BSt} {ms ms' : MSt} {f : Nat → Int64} {i : Int32} {z : Int32} (hC : LC p s m args c D A b L xs ca cq cO)  (hW : LM l yb_reopen rmb_reopen D (tysB ca) [.ref (gm 0)] (wB gm ca st) (XI z) (wB gm ca st')) (hM : LM l ym_reopen rmm_reopen D (tysM cq) [.ref (gq 0)] (wM gq cq ms) (XI z) (wM gq cq ms')) (hce : cells + 4 ≤ 601024) (hsl : slots + 24 ≤ 7293000) (hL : LWd D A (wL gm ca gq cq o cO st ms f) s.heap H locs) (hl : lv_has ls 8 (lvL b gm gq o i))
    (kk : ∀ (H : Heap) (locs : List Loc) (ls : Array Slot), LWd D A (wL gm ca gq cq o cO st' ms' f) s.heap H locs → lv_has ls 8 (lvL b gm gq o i) → W p l e room_1 s m args below meth c H locs (cells + 4) (slots + 24) Q (F0 m 1125 ls [])) : W p l e room_1 s m args below meth c H locs cells slots Q (F0 m 781 ls []) := by
  obtain ⟨hx, hb, hml, hown, hts, hkO, hkM, hZ, hA, hX, hbl, hbA⟩ := id hC
  refine lv_aload_n hx hb dw_781 rfl (lv_at hl 1 rfl) ?_
  refine lm_v (wr := wM gq cq ms ++ [eO o cO f]) (lm_runV (q0 := 0) (ci := 0) hW (cw_l_reopen hts ⟨by decide, by decide⟩) hx hb hml hown hts hkO.tail hZ hL wL_b rfl rfl hl.1 rfl rfl (lv_room (Nat.le_of_ble_eq_true rfl)) dw_782 ⟨by show cells + 0 ≤ 601024; omega, by show slots + 0 ≤ 7293000; omega⟩) hA hL wL_b wL_b.symm ?_
  intro H locs hL
  refine lv_aload_n hx hb dw_785 rfl (lv_at hl 2 rfl) ?_
  refine lm_v (wr := wO gm ca st' o cO f) (lm_runV (q0 := 0) (ci := 1) hM (cw_lm_reopen hts ⟨by decide, by decide⟩) hx hb hml hown hts hkM hZ hL List.perm_append_comm rfl rfl hl.1 rfl rfl (lv_room (Nat.le_of_ble_eq_true rfl)) dw_786 ⟨by show cells + 0 + 0 ≤ 601024; omega, by show slots + 0 + 0 ≤ 7293000; omega⟩) hA hL List.perm_append_comm List.perm_append_comm ?_
  intro H locs hL
  change LWd D A (wL gm ca gq cq o cO st' ms' f) s.heap H locs at hL
  refine lv_icmp_eq (tgt := 1125) hx hb dw_789 (by decide) (fun _ => ?_) (fun c0 => absurd rfl c0)
  refine W.widen (k := cells + 4) (n := slots + 24) (by show cells + 0 + 0 ≤ cells + 4; omega) (by show slots + 0 + 0 ≤ slots + 24; omega) ?_
  exact kk _ _ _ hL (lv_sub hl [0, 1, 2, 3, 4] rfl)
