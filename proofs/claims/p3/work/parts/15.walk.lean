set_option maxRecDepth 100000 in
set_option maxHeartbeats 4000000 in
theorem wb_writeRoot_143 {p : Program} {l : Launch} {e : Env} {s : State} {m : MethodId} {args : Array Value} {below : List Frame} {meth : Method} {c : Code} {D : va_G} {gm : Nat → Nat} {ca : Nat → ClassId} {A : Nat → Prop} (hX : BX p l e rmb_writeRoot s m args meth c D ca A kb_writeRoot 9 (none)) (n : Nat) :∀ (k : Nat), ∀ (st : BSt) (x1 : Int32) (x3 : Int32) (x4 : Int32) (x6 : Int32) (x7 : Int32) (x8 : Int32) {st' : BSt} (ls : Array Slot) (H : Heap) (locs : List Loc), BWd D gm ca A s.heap st H locs → lv_has ls 9 [(0, .ref (gm 0)), (1, .int x1), (3, .int x3), (4, .int x4), (6, .int x6), (7, .int x7), (8, .int x8)] → fb_writeRoot_143 n k st x1 x3 x4 x6 x7 x8 = some st' → W p l e rmb_writeRoot s m args below meth c H locs 0 0 (MQX below (mm_Q D gm ca A (XV) st') args s 0 0 A) (F0 m 143 ls []) := by
  obtain ⟨hx, hb, hml, hr, hlk, hown, hts, hK, htr, hZ, hnh, hA, hfl⟩ := id hX
  intro k
  induction k with
  | zero =>
    intro st x1 x3 x4 x6 x7 x8 st' ls H locs hB hl hf
    rw [fb_writeRoot_143] at hf
    cases hf
  | succ k ih =>
    intro st x1 x3 x4 x6 x7 x8 st' ls H locs hB hl hf
    rw [fb_writeRoot_143] at hf
    refine lv_iload hx hb db_writeRoot_143 (lv_at hl 6 rfl) ?_
    refine lv_iload hx hb db_writeRoot_145 (lv_at hl 4 rfl) ?_
    refine lv_icmp_ge (tgt := 178) hx hb db_writeRoot_147 (by decide) (fun c1 => ?_) (fun c1 => ?_)
    · have hf := ifp c1 hf
      refine lv_aload_n hx hb db_writeRoot_178 rfl (lv_at hl 0 rfl) ?_
      refine bg_roots hx hb hown hts hK hB.1 db_writeRoot_179 ?_
      refine lv_iload_n hx hb db_writeRoot_182 rfl (lv_at hl 2 rfl) ?_
      refine lv_aload_n hx hb db_writeRoot_183 rfl (lv_at hl 0 rfl) ?_
      refine bg_newest hx hb hown hts hK hB.1 db_writeRoot_184 ?_
      refine lv_iconst (v := 1) hx hb db_writeRoot_187 (by decide) ?_
      refine lv_iadd hx hb db_writeRoot_188 ?_
      refine lv_i2l hx hb db_writeRoot_189 rfl ?_
      obtain ⟨a2, ea2, ia2, hf⟩ := wrL_some hf
      refine bt_roots hx hb hK hB ia2 ea2 db_writeRoot_190 (fun H locs hB => ?_)
      refine lv_aload_n hx hb db_writeRoot_191 rfl (lv_at hl 0 rfl) ?_
      refine bg_roots hx hb hown hts hK hB.1 db_writeRoot_192 ?_
      refine lv_iload_n hx hb db_writeRoot_195 rfl (lv_at hl 2 rfl) ?_
      refine lv_iconst (v := 1) hx hb db_writeRoot_196 (by decide) ?_
      refine lv_iadd hx hb db_writeRoot_197 ?_
      refine lv_iload hx hb db_writeRoot_198 (lv_at hl 5 rfl) ?_
      refine lv_i2l hx hb db_writeRoot_200 rfl ?_
      obtain ⟨a3, ea3, ia3, hf⟩ := wrL_some hf
      refine bt_roots hx hb hK hB ia3 ea3 db_writeRoot_201 (fun H locs hB => ?_)
      refine lv_aload_n hx hb db_writeRoot_202 rfl (lv_at hl 0 rfl) ?_
      refine bg_roots hx hb hown hts hK hB.1 db_writeRoot_203 ?_
      refine lv_iload_n hx hb db_writeRoot_206 rfl (lv_at hl 2 rfl) ?_
      refine lv_bipush (v := 18) hx hb db_writeRoot_207 (by decide) ?_
      refine lv_iadd hx hb db_writeRoot_209 ?_
      refine lv_aload_n hx hb db_writeRoot_210 rfl (lv_at hl 0 rfl) ?_
      refine lv_iload_n hx hb db_writeRoot_211 rfl (lv_at hl 1 rfl) ?_
      obtain ⟨r4, h5, hf⟩ := obs hf
      refine rmI (cb_entriesOfRoot (l := l) (hfl := hfl) h5) (cw_entriesOfRoot hts ⟨by decide, by decide⟩) hx hb hml hown hts hK hB.1 hB.2.2 hZ hl.1 rfl rfl (lv_room (Nat.le_of_ble_eq_true rfl)) db_writeRoot_212 ⟨by decide, by decide⟩ ?_
      refine lv_iload hx hb db_writeRoot_215 (lv_at hl 3 rfl) ?_
      refine lv_isub hx hb db_writeRoot_217 ?_
      refine lv_aload_n hx hb db_writeRoot_218 rfl (lv_at hl 0 rfl) ?_
      refine bg_draftCount hx hb hown hts hK hB.1 db_writeRoot_219 ?_
      refine lv_iadd hx hb db_writeRoot_222 ?_
      refine lv_i2l hx hb db_writeRoot_223 rfl ?_
      obtain ⟨a6, ea6, ia6, hf⟩ := wrL_some hf
      refine bt_roots hx hb hK hB ia6 ea6 db_writeRoot_224 (fun H locs hB => ?_)
      refine lv_aload_n hx hb db_writeRoot_225 rfl (lv_at hl 0 rfl) ?_
      refine bg_roots hx hb hown hts hK hB.1 db_writeRoot_226 ?_
      refine lv_iload_n hx hb db_writeRoot_229 rfl (lv_at hl 2 rfl) ?_
      refine lv_bipush (v := 19) hx hb db_writeRoot_230 (by decide) ?_
      refine lv_iadd hx hb db_writeRoot_232 ?_
      refine lv_aload_n hx hb db_writeRoot_233 rfl (lv_at hl 0 rfl) ?_
      refine bg_roots hx hb hown hts hK hB.1 db_writeRoot_234 ?_
      refine lv_iload_n hx hb db_writeRoot_237 rfl (lv_at hl 2 rfl) ?_
      refine lv_bipush (v := 19) hx hb db_writeRoot_238 (by decide) ?_
      obtain ⟨r7, h8, hf⟩ := obs hf
      refine saL (cb_sumOf (l := l) (hfl := hfl) h8) (cw_sumOf hts ⟨by decide, by decide⟩) hx hb hml hown hts hK hB.1 2 1 rfl rfl hl.1 rfl rfl (lv_room (Nat.le_of_ble_eq_true rfl)) db_writeRoot_240 ⟨by decide, by decide⟩ ?_
      obtain ⟨a9, ea9, ia9, hf⟩ := wrL_some hf
      refine bt_roots hx hb hK hB ia9 ea9 db_writeRoot_243 (fun H locs hB => ?_)
      cases hf
      exact em_v hx hb hr hlk hB db_writeRoot_244
    · have hf := ifn c1 hf
      refine lv_aload_n hx hb db_writeRoot_150 rfl (lv_at hl 0 rfl) ?_
      refine bg_roots hx hb hown hts hK hB.1 db_writeRoot_151 ?_
      refine lv_iload_n hx hb db_writeRoot_154 rfl (lv_at hl 2 rfl) ?_
      refine lv_iconst (v := 2) hx hb db_writeRoot_155 (by decide) ?_
      refine lv_iadd hx hb db_writeRoot_156 ?_
      refine lv_iload hx hb db_writeRoot_157 (lv_at hl 5 rfl) ?_
      refine lv_iadd hx hb db_writeRoot_159 ?_
      refine lv_aload_n hx hb db_writeRoot_160 rfl (lv_at hl 0 rfl) ?_
      refine lv_iload_n hx hb db_writeRoot_161 rfl (lv_at hl 1 rfl) ?_
      refine lv_iload hx hb db_writeRoot_162 (lv_at hl 6 rfl) ?_
      obtain ⟨r10, h11, hf⟩ := obs hf
      refine rmI (cb_pageOf (l := l) (hfl := hfl) h11) (cw_pageOf hts ⟨by decide, by decide⟩) hx hb hml hown hts hK hB.1 hB.2.2 hZ hl.1 rfl rfl (lv_room (Nat.le_of_ble_eq_true rfl)) db_writeRoot_164 ⟨by decide, by decide⟩ ?_
      refine lv_i2l hx hb db_writeRoot_167 rfl ?_
      obtain ⟨a12, ea12, ia12, hf⟩ := wrL_some hf
      refine bt_roots hx hb hK hB ia12 ea12 db_writeRoot_168 (fun H locs hB => ?_)
      refine lv_iinc (v := (x7 + 1)) (lv' := [(7, .int (x7 + 1)), (0, .ref (gm 0)), (1, .int x1), (3, .int x3), (4, .int x4), (6, .int x6), (8, .int x8)]) hx hb db_writeRoot_169 hl (k := 5) rfl rfl (by decide) rfl (fun ls hl => ?_)
      refine lv_iinc (v := (x8 + 1)) (lv' := [(8, .int (x8 + 1)), (7, .int (x7 + 1)), (0, .ref (gm 0)), (1, .int x1), (3, .int x3), (4, .int x4), (6, .int x6)]) hx hb db_writeRoot_172 hl (k := 6) rfl rfl (by decide) rfl (fun ls hl => ?_)
      refine lv_goto (tgt := 143) hx hb db_writeRoot_175 (by decide) ?_
      exact ih _ _ _ _ _ _ _ _ _ _ hB (lv_sub hl [2, 3, 4, 5, 6, 1, 0] rfl) hf
set_option maxRecDepth 100000 in
set_option maxHeartbeats 4000000 in
theorem wb_writeRoot_100 {p : Program} {l : Launch} {e : Env} {s : State} {m : MethodId} {args : Array Value} {below : List Frame} {meth : Method} {c : Code} {D : va_G} {gm : Nat → Nat} {ca : Nat → ClassId} {A : Nat → Prop} (hX : BX p l e rmb_writeRoot s m args meth c D ca A kb_writeRoot 9 (none)) (n : Nat) :∀ (k : Nat), ∀ (st : BSt) (x1 : Int32) (x3 : Int32) (x4 : Int32) (x5 : Int32) (x6 : Int32) (x7 : Int32) (x8 : Int32) {st' : BSt} (ls : Array Slot) (H : Heap) (locs : List Loc), BWd D gm ca A s.heap st H locs → lv_has ls 9 [(0, .ref (gm 0)), (1, .int x1), (3, .int x3), (4, .int x4), (5, .int x5), (6, .int x6), (7, .int x7), (8, .int x8)] → fb_writeRoot_100 n k st x1 x3 x4 x5 x6 x7 x8 = some st' → W p l e rmb_writeRoot s m args below meth c H locs 0 0 (MQX below (mm_Q D gm ca A (XV) st') args s 0 0 A) (F0 m 100 ls []) := by
  obtain ⟨hx, hb, hml, hr, hlk, hown, hts, hK, htr, hZ, hnh, hA, hfl⟩ := id hX
  intro k
  induction k with
  | zero =>
    intro st x1 x3 x4 x5 x6 x7 x8 st' ls H locs hB hl hf
    rw [fb_writeRoot_100] at hf
    cases hf
  | succ k ih =>
    intro st x1 x3 x4 x5 x6 x7 x8 st' ls H locs hB hl hf
    rw [fb_writeRoot_100] at hf
    refine lv_iload hx hb db_writeRoot_100 (lv_at hl 7 rfl) ?_
    refine lv_aload_n hx hb db_writeRoot_102 rfl (lv_at hl 0 rfl) ?_
    refine bg_takenCount hx hb hown hts hK hB.1 db_writeRoot_103 ?_
    refine lv_icmp_ge (tgt := 137) hx hb db_writeRoot_106 (by decide) (fun c1 => ?_) (fun c1 => ?_)
    · have hf := ifp c1 hf
      refine lv_iload hx hb db_writeRoot_137 (lv_at hl 4 rfl) ?_
      refine lv_iconst (v := 1) hx hb db_writeRoot_139 (by decide) ?_
      refine lv_iadd hx hb db_writeRoot_140 ?_
      refine lv_istore (lv' := [(8, .int (x5 + 1)), (0, .ref (gm 0)), (1, .int x1), (3, .int x3), (4, .int x4), (5, .int x5), (6, .int x6), (7, .int x7)]) hx hb db_writeRoot_141 hl (by decide) rfl (fun ls hl => ?_)
      exact wb_writeRoot_143 hX n n _ _ _ _ _ _ _ _ _ _ hB (lv_sub hl [1, 2, 3, 4, 6, 7, 0] rfl) hf
    · have hf := ifn c1 hf
      refine lv_aload_n hx hb db_writeRoot_109 rfl (lv_at hl 0 rfl) ?_
      refine bg_roots hx hb hown hts hK hB.1 db_writeRoot_110 ?_
      refine lv_iload_n hx hb db_writeRoot_113 rfl (lv_at hl 2 rfl) ?_
      refine lv_iconst (v := 2) hx hb db_writeRoot_114 (by decide) ?_
      refine lv_iadd hx hb db_writeRoot_115 ?_
      refine lv_iload hx hb db_writeRoot_116 (lv_at hl 6 rfl) ?_
      refine lv_iadd hx hb db_writeRoot_118 ?_
      refine lv_aload_n hx hb db_writeRoot_119 rfl (lv_at hl 0 rfl) ?_
      refine bg_takenPages hx hb hown hts hK hB.1 db_writeRoot_120 ?_
      refine lv_iload hx hb db_writeRoot_123 (lv_at hl 7 rfl) ?_
      obtain ⟨r2, er2, ir2, hf⟩ := rdI_some hf
      refine bl_takenPages hx hb hK hB.1 ir2 er2 db_writeRoot_125 ?_
      refine lv_i2l hx hb db_writeRoot_126 rfl ?_
      obtain ⟨a3, ea3, ia3, hf⟩ := wrL_some hf
      refine bt_roots hx hb hK hB ia3 ea3 db_writeRoot_127 (fun H locs hB => ?_)
      refine lv_iinc (v := (x7 + 1)) (lv' := [(7, .int (x7 + 1)), (0, .ref (gm 0)), (1, .int x1), (3, .int x3), (4, .int x4), (5, .int x5), (6, .int x6), (8, .int x8)]) hx hb db_writeRoot_128 hl (k := 6) rfl rfl (by decide) rfl (fun ls hl => ?_)
      refine lv_iinc (v := (x8 + 1)) (lv' := [(8, .int (x8 + 1)), (7, .int (x7 + 1)), (0, .ref (gm 0)), (1, .int x1), (3, .int x3), (4, .int x4), (5, .int x5), (6, .int x6)]) hx hb db_writeRoot_131 hl (k := 7) rfl rfl (by decide) rfl (fun ls hl => ?_)
      refine lv_goto (tgt := 100) hx hb db_writeRoot_134 (by decide) ?_
      exact ih _ _ _ _ _ _ _ _ _ _ _ hB (lv_sub hl [2, 3, 4, 5, 6, 7, 1, 0] rfl) hf
set_option maxRecDepth 100000 in
set_option maxHeartbeats 4000000 in
theorem wb_writeRoot_62 {p : Program} {l : Launch} {e : Env} {s : State} {m : MethodId} {args : Array Value} {below : List Frame} {meth : Method} {c : Code} {D : va_G} {gm : Nat → Nat} {ca : Nat → ClassId} {A : Nat → Prop} (hX : BX p l e rmb_writeRoot s m args meth c D ca A kb_writeRoot 9 (none)) (n : Nat) :∀ (k : Nat), ∀ (st : BSt) (x1 : Int32) (x3 : Int32) (x4 : Int32) (x5 : Int32) (x6 : Int32) (x7 : Int32) (x8 : Int32) {st' : BSt} (ls : Array Slot) (H : Heap) (locs : List Loc), BWd D gm ca A s.heap st H locs → lv_has ls 9 [(0, .ref (gm 0)), (1, .int x1), (3, .int x3), (4, .int x4), (5, .int x5), (6, .int x6), (7, .int x7), (8, .int x8)] → fb_writeRoot_62 n k st x1 x3 x4 x5 x6 x7 x8 = some st' → W p l e rmb_writeRoot s m args below meth c H locs 0 0 (MQX below (mm_Q D gm ca A (XV) st') args s 0 0 A) (F0 m 62 ls []) := by
  obtain ⟨hx, hb, hml, hr, hlk, hown, hts, hK, htr, hZ, hnh, hA, hfl⟩ := id hX
  intro k
  induction k with
  | zero =>
    intro st x1 x3 x4 x5 x6 x7 x8 st' ls H locs hB hl hf
    rw [fb_writeRoot_62] at hf
    cases hf
  | succ k ih =>
    intro st x1 x3 x4 x5 x6 x7 x8 st' ls H locs hB hl hf
    rw [fb_writeRoot_62] at hf
    refine lv_iload hx hb db_writeRoot_62 (lv_at hl 7 rfl) ?_
    refine lv_iload hx hb db_writeRoot_64 (lv_at hl 4 rfl) ?_
    refine lv_icmp_ge (tgt := 97) hx hb db_writeRoot_66 (by decide) (fun c1 => ?_) (fun c1 => ?_)
    · have hf := ifp c1 hf
      refine lv_iconst (v := 0) hx hb db_writeRoot_97 (by decide) ?_
      refine lv_istore (lv' := [(8, .int 0), (0, .ref (gm 0)), (1, .int x1), (3, .int x3), (4, .int x4), (5, .int x5), (6, .int x6), (7, .int x7)]) hx hb db_writeRoot_98 hl (by decide) rfl (fun ls hl => ?_)
      exact wb_writeRoot_100 hX n n _ _ _ _ _ _ _ _ _ _ _ hB (lv_sub hl [1, 2, 3, 4, 5, 6, 7, 0] rfl) hf
    · have hf := ifn c1 hf
      refine lv_aload_n hx hb db_writeRoot_69 rfl (lv_at hl 0 rfl) ?_
      refine bg_roots hx hb hown hts hK hB.1 db_writeRoot_70 ?_
      refine lv_iload_n hx hb db_writeRoot_73 rfl (lv_at hl 2 rfl) ?_
      refine lv_iconst (v := 2) hx hb db_writeRoot_74 (by decide) ?_
      refine lv_iadd hx hb db_writeRoot_75 ?_
      refine lv_iload hx hb db_writeRoot_76 (lv_at hl 6 rfl) ?_
      refine lv_iadd hx hb db_writeRoot_78 ?_
      refine lv_aload_n hx hb db_writeRoot_79 rfl (lv_at hl 0 rfl) ?_
      refine lv_iload_n hx hb db_writeRoot_80 rfl (lv_at hl 1 rfl) ?_
      refine lv_iload hx hb db_writeRoot_81 (lv_at hl 7 rfl) ?_
      obtain ⟨r2, h3, hf⟩ := obs hf
      refine rmI (cb_pageOf (l := l) (hfl := hfl) h3) (cw_pageOf hts ⟨by decide, by decide⟩) hx hb hml hown hts hK hB.1 hB.2.2 hZ hl.1 rfl rfl (lv_room (Nat.le_of_ble_eq_true rfl)) db_writeRoot_83 ⟨by decide, by decide⟩ ?_
      refine lv_i2l hx hb db_writeRoot_86 rfl ?_
      obtain ⟨a4, ea4, ia4, hf⟩ := wrL_some hf
      refine bt_roots hx hb hK hB ia4 ea4 db_writeRoot_87 (fun H locs hB => ?_)
      refine lv_iinc (v := (x7 + 1)) (lv' := [(7, .int (x7 + 1)), (0, .ref (gm 0)), (1, .int x1), (3, .int x3), (4, .int x4), (5, .int x5), (6, .int x6), (8, .int x8)]) hx hb db_writeRoot_88 hl (k := 6) rfl rfl (by decide) rfl (fun ls hl => ?_)
      refine lv_iinc (v := (x8 + 1)) (lv' := [(8, .int (x8 + 1)), (7, .int (x7 + 1)), (0, .ref (gm 0)), (1, .int x1), (3, .int x3), (4, .int x4), (5, .int x5), (6, .int x6)]) hx hb db_writeRoot_91 hl (k := 7) rfl rfl (by decide) rfl (fun ls hl => ?_)
      refine lv_goto (tgt := 62) hx hb db_writeRoot_94 (by decide) ?_
      exact ih _ _ _ _ _ _ _ _ _ _ _ hB (lv_sub hl [2, 3, 4, 5, 6, 7, 1, 0] rfl) hf
set_option maxRecDepth 100000 in
set_option maxHeartbeats 4000000 in
theorem wb_writeRoot_27 {p : Program} {l : Launch} {e : Env} {s : State} {m : MethodId} {args : Array Value} {below : List Frame} {meth : Method} {c : Code} {D : va_G} {gm : Nat → Nat} {ca : Nat → ClassId} {A : Nat → Prop} {st : BSt} (hX : BX p l e rmb_writeRoot s m args meth c D ca A kb_writeRoot 9 (none)) (hB : BWd D gm ca A s.heap st s.heap []) (n : Nat) : ∀ (x1 : Int32) (x2 : Int32) (x3 : Int32) (y0 : Int32) {st' : BSt} (ls : Array Slot), lv_has ls 9 [(0, .ref (gm 0)), (1, .int x1), (2, .int x2), (3, .int x3)] → fb_writeRoot_27 n st x1 x2 x3 y0 = some st' → W p l e rmb_writeRoot s m args below meth c s.heap [] 0 0 (MQX below (mm_Q D gm ca A (XV) st') args s 0 0 A) (F0 m 27 ls [.int y0]) := by
  obtain ⟨hx, hb, hml, hr, hlk, hown, hts, hK, htr, hZ, hnh, hA, hfl⟩ := id hX
  intro x1 x2 x3 y0 st' ls hl hf
  rw [fb_writeRoot_27] at hf
  refine lv_istore (lv' := [(4, .int y0), (0, .ref (gm 0)), (1, .int x1), (2, .int x2), (3, .int x3)]) hx hb db_writeRoot_27 hl (by decide) rfl (fun ls hl => ?_)
  refine lv_iload_n hx hb db_writeRoot_29 rfl (lv_at hl 3 rfl) ?_
  refine lv_iconst (v := (-1)) hx hb db_writeRoot_30 (by decide) ?_
  refine lv_icmp_ne (tgt := 38) hx hb db_writeRoot_31 (by decide) (fun c1 => ?_) (fun c1 => ?_)
  · have hf := ifn c1 hf
    refine lv_iload_n hx hb db_writeRoot_38 rfl (lv_at hl 3 rfl) ?_
    refine lv_istore (lv' := [(5, .int x2), (4, .int y0), (0, .ref (gm 0)), (1, .int x1), (2, .int x2), (3, .int x3)]) hx hb db_writeRoot_39 hl (by decide) rfl (fun ls hl => ?_)
    refine lv_aload_n hx hb db_writeRoot_41 rfl (lv_at hl 2 rfl) ?_
    refine lv_iload_n hx hb db_writeRoot_42 rfl (lv_at hl 3 rfl) ?_
    obtain ⟨r2, h3, hf⟩ := obs hf
    refine rmI (cb_leavesOf (l := l) (hfl := hfl) h3) (cw_leavesOf hts ⟨by decide, by decide⟩) hx hb hml hown hts hK hB.1 hB.2.2 hZ hl.1 rfl rfl (lv_room (Nat.le_of_ble_eq_true rfl)) db_writeRoot_43 ⟨by decide, by decide⟩ ?_
    refine lv_istore (lv' := [(6, .int r2), (5, .int x2), (4, .int y0), (0, .ref (gm 0)), (1, .int x1), (2, .int x2), (3, .int x3)]) hx hb db_writeRoot_46 hl (by decide) rfl (fun ls hl => ?_)
    refine lv_aload_n hx hb db_writeRoot_48 rfl (lv_at hl 3 rfl) ?_
    refine lv_aload_n hx hb db_writeRoot_49 rfl (lv_at hl 3 rfl) ?_
    refine bg_writtenRoot hx hb hown hts hK hB.1 db_writeRoot_50 ?_
    obtain ⟨st4, h5, hf⟩ := obs hf
    refine mmV (cb_clearRoot (l := l) (hfl := hfl) h5) (cw_clearRoot hts ⟨by decide, by decide⟩) hx hb hml hown hts hK hB hZ hA hl.1 rfl rfl (lv_room (Nat.le_of_ble_eq_true rfl)) db_writeRoot_53 ⟨by decide, by decide⟩ (fun H locs hB => ?_)
    refine lv_iconst (v := 0) hx hb db_writeRoot_56 (by decide) ?_
    refine lv_istore (lv' := [(7, .int 0), (6, .int r2), (5, .int x2), (4, .int y0), (0, .ref (gm 0)), (1, .int x1), (2, .int x2), (3, .int x3)]) hx hb db_writeRoot_57 hl (by decide) rfl (fun ls hl => ?_)
    refine lv_iconst (v := 0) hx hb db_writeRoot_59 (by decide) ?_
    refine lv_istore (lv' := [(8, .int 0), (7, .int 0), (6, .int r2), (5, .int x2), (4, .int y0), (0, .ref (gm 0)), (1, .int x1), (2, .int x2), (3, .int x3)]) hx hb db_writeRoot_60 hl (by decide) rfl (fun ls hl => ?_)
    exact wb_writeRoot_62 hX n n _ _ _ _ _ _ _ _ _ _ _ hB (lv_sub hl [5, 6, 8, 4, 3, 2, 1, 0] rfl) hf
  · have hf := ifp c1 hf
    refine lv_iconst (v := 0) hx hb db_writeRoot_34 (by decide) ?_
    refine lv_goto (tgt := 39) hx hb db_writeRoot_35 (by decide) ?_
    refine lv_istore (lv' := [(5, .int 0), (4, .int y0), (0, .ref (gm 0)), (1, .int x1), (2, .int x2), (3, .int x3)]) hx hb db_writeRoot_39 hl (by decide) rfl (fun ls hl => ?_)
    refine lv_aload_n hx hb db_writeRoot_41 rfl (lv_at hl 2 rfl) ?_
    refine lv_iload_n hx hb db_writeRoot_42 rfl (lv_at hl 3 rfl) ?_
    obtain ⟨r6, h7, hf⟩ := obs hf
    refine rmI (cb_leavesOf (l := l) (hfl := hfl) h7) (cw_leavesOf hts ⟨by decide, by decide⟩) hx hb hml hown hts hK hB.1 hB.2.2 hZ hl.1 rfl rfl (lv_room (Nat.le_of_ble_eq_true rfl)) db_writeRoot_43 ⟨by decide, by decide⟩ ?_
    refine lv_istore (lv' := [(6, .int r6), (5, .int 0), (4, .int y0), (0, .ref (gm 0)), (1, .int x1), (2, .int x2), (3, .int x3)]) hx hb db_writeRoot_46 hl (by decide) rfl (fun ls hl => ?_)
    refine lv_aload_n hx hb db_writeRoot_48 rfl (lv_at hl 3 rfl) ?_
    refine lv_aload_n hx hb db_writeRoot_49 rfl (lv_at hl 3 rfl) ?_
    refine bg_writtenRoot hx hb hown hts hK hB.1 db_writeRoot_50 ?_
    obtain ⟨st8, h9, hf⟩ := obs hf
    refine mmV (cb_clearRoot (l := l) (hfl := hfl) h9) (cw_clearRoot hts ⟨by decide, by decide⟩) hx hb hml hown hts hK hB hZ hA hl.1 rfl rfl (lv_room (Nat.le_of_ble_eq_true rfl)) db_writeRoot_53 ⟨by decide, by decide⟩ (fun H locs hB => ?_)
    refine lv_iconst (v := 0) hx hb db_writeRoot_56 (by decide) ?_
    refine lv_istore (lv' := [(7, .int 0), (6, .int r6), (5, .int 0), (4, .int y0), (0, .ref (gm 0)), (1, .int x1), (2, .int x2), (3, .int x3)]) hx hb db_writeRoot_57 hl (by decide) rfl (fun ls hl => ?_)
    refine lv_iconst (v := 0) hx hb db_writeRoot_59 (by decide) ?_
    refine lv_istore (lv' := [(8, .int 0), (7, .int 0), (6, .int r6), (5, .int 0), (4, .int y0), (0, .ref (gm 0)), (1, .int x1), (2, .int x2), (3, .int x3)]) hx hb db_writeRoot_60 hl (by decide) rfl (fun ls hl => ?_)
    exact wb_writeRoot_62 hX n n _ _ _ _ _ _ _ _ _ _ _ hB (lv_sub hl [5, 6, 8, 4, 3, 2, 1, 0] rfl) hf
set_option maxRecDepth 100000 in
set_option maxHeartbeats 4000000 in
theorem wb_writeRoot_0 {p : Program} {l : Launch} {e : Env} {s : State} {m : MethodId} {args : Array Value} {below : List Frame} {meth : Method} {c : Code} {D : va_G} {gm : Nat → Nat} {ca : Nat → ClassId} {A : Nat → Prop} {st : BSt} (hX : BX p l e rmb_writeRoot s m args meth c D ca A kb_writeRoot 9 (none)) (hB : BWd D gm ca A s.heap st s.heap []) (n : Nat) : ∀ (x1 : Int32) (x2 : Int32) {st' : BSt} (ls : Array Slot), lv_has ls 9 [(0, .ref (gm 0)), (1, .int x1), (2, .int x2)] → fb_writeRoot n st x1 x2 = some st' → W p l e rmb_writeRoot s m args below meth c s.heap [] 0 0 (MQX below (mm_Q D gm ca A (XV) st') args s 0 0 A) (F0 m 0 ls []) := by
  obtain ⟨hx, hb, hml, hr, hlk, hown, hts, hK, htr, hZ, hnh, hA, hfl⟩ := id hX
  intro x1 x2 st' ls hl hf
  rw [fb_writeRoot] at hf
  refine lv_aload_n hx hb db_writeRoot_0 rfl (lv_at hl 0 rfl) ?_
  refine bg_writtenRoot hx hb hown hts hK hB.1 db_writeRoot_1 ?_
  refine lv_bipush (v := 20) hx hb db_writeRoot_4 (by decide) ?_
  refine lv_imul hx hb db_writeRoot_6 ?_
  refine lv_istore_n (lv' := [(3, .int ((bs_writtenRoot st) * 20)), (0, .ref (gm 0)), (1, .int x1), (2, .int x2)]) hx hb db_writeRoot_7 rfl hl (by decide) rfl (fun ls hl => ?_)
  refine lv_iload_n hx hb db_writeRoot_8 rfl (lv_at hl 3 rfl) ?_
  refine lv_iconst (v := (-1)) hx hb db_writeRoot_9 (by decide) ?_
  refine lv_icmp_ne (tgt := 17) hx hb db_writeRoot_10 (by decide) (fun c1 => ?_) (fun c1 => ?_)
  · have hf := ifn c1 hf
    refine lv_aload_n hx hb db_writeRoot_17 rfl (lv_at hl 1 rfl) ?_
    refine lv_aload_n hx hb db_writeRoot_18 rfl (lv_at hl 1 rfl) ?_
    refine lv_iload_n hx hb db_writeRoot_19 rfl (lv_at hl 2 rfl) ?_
    refine lv_iload_n hx hb db_writeRoot_20 rfl (lv_at hl 3 rfl) ?_
    obtain ⟨r2, h3, hf⟩ := obs hf
    refine rmI (cb_pageOf (l := l) (hfl := hfl) h3) (cw_pageOf hts ⟨by decide, by decide⟩) hx hb hml hown hts hK hB.1 hB.2.2 hZ hl.1 rfl rfl (lv_room (Nat.le_of_ble_eq_true rfl)) db_writeRoot_21 ⟨by decide, by decide⟩ ?_
    obtain ⟨r4, h5, hf⟩ := obs hf
    refine rmI (cb_entriesOf (l := l) (hfl := hfl) h5) (cw_entriesOf hts ⟨by decide, by decide⟩) hx hb hml hown hts hK hB.1 hB.2.2 hZ hl.1 rfl rfl (lv_room (Nat.le_of_ble_eq_true rfl)) db_writeRoot_24 ⟨by decide, by decide⟩ ?_
    exact wb_writeRoot_27 hX hB n _ _ _ _ _ (lv_sub hl [1, 2, 3, 0] rfl) hf
  · have hf := ifp c1 hf
    refine lv_iconst (v := 0) hx hb db_writeRoot_13 (by decide) ?_
    refine lv_goto (tgt := 27) hx hb db_writeRoot_14 (by decide) ?_
    exact wb_writeRoot_27 hX hB n _ _ _ _ _ (lv_sub hl [1, 2, 3, 0] rfl) hf
set_option maxRecDepth 100000 in
set_option maxHeartbeats 4000000 in
theorem cb_writeRoot {l : Launch} (hfl : l.flags = flags0) {D : va_G} {gm : Nat → Nat} {ca : Nat → ClassId} {st : BSt} {n : Nat} {x1 : Int32} {x2 : Int32} {st' : BSt} (hf : fb_writeRoot n st x1 x2 = some st') : MM l yb_writeRoot rmb_writeRoot D gm ca [.int x1, .int x2] st (XV) st' :=
  MM.of hfl (by decide +kernel) rfl mcb_writeRoot (fun p e s m below meth c A _ hX hB => wb_writeRoot_0 hX hB n _ _ _ (lv_entry _ (Nat.le_of_ble_eq_true rfl)) hf)
set_option maxRecDepth 100000 in
set_option maxHeartbeats 4000000 in
theorem wb_act_111 {p : Program} {l : Launch} {e : Env} {s : State} {m : MethodId} {args : Array Value} {below : List Frame} {meth : Method} {c : Code} {D : va_G} {gm : Nat → Nat} {ca : Nat → ClassId} {A : Nat → Prop} {st : BSt} (hX : BX p l e rmb_act s m args meth c D ca A kb_act 9 (some .int)) (hB : BWd D gm ca A s.heap st s.heap []) (n : Nat) : ∀ (x1 : Int32) (x2 : Int32) (x3 : Int32) (x7 : Int32) (y0 : Int32) {r : Int32 ⊕ Nat} {st' : BSt} (ls : Array Slot), lv_has ls 9 [(0, .ref (gm 0)), (1, .int x1), (2, .int x2), (3, .int x3), (7, .int x7)] → fb_act_111 n st x1 x2 x3 x7 y0 = some (r, st') → W p l e rmb_act s m args below meth c s.heap [] 0 0 (MQX below (mm_Q D gm ca A (xi r) st') args s 1 6 A) (F0 m 111 ls [.int y0]) := by
  obtain ⟨hx, hb, hml, hr, hlk, hown, hts, hK, htr, hZ, hnh, hA, hfl⟩ := id hX
  intro x1 x2 x3 x7 y0 r st' ls hl hf
  rw [fb_act_111] at hf
  refine lv_istore (lv' := [(8, .int y0), (0, .ref (gm 0)), (1, .int x1), (2, .int x2), (3, .int x3), (7, .int x7)]) hx hb db_act_111 hl (by decide) rfl (fun ls hl => ?_)
  refine lv_iload hx hb db_act_113 (lv_at hl 5 rfl) ?_
  refine lv_iconst (v := (-1)) hx hb db_act_115 (by decide) ?_
  refine lv_icmp_eq (tgt := 125) hx hb db_act_116 (by decide) (fun c1 => ?_) (fun c1 => ?_)
  · have hf := ifp c1 hf
    cases hf
    exact mt_throw th_0_248 hX hl.1 db_act_125 db_act_128 db_act_129 db_act_131 db_act_134 ⟨by decide, by decide⟩ ⟨by decide, by decide⟩ hB
  · have hf := ifn c1 hf
    refine lv_iload hx hb db_act_119 (lv_at hl 0 rfl) ?_
    refine lv_iconst (v := (-1)) hx hb db_act_121 (by decide) ?_
    refine lv_icmp_ne (tgt := 135) hx hb db_act_122 (by decide) (fun c2 => ?_) (fun c2 => ?_)
    · have hf := ifn c2 hf
      refine lv_aload_n hx hb db_act_135 rfl (lv_at hl 1 rfl) ?_
      refine bg_takenPages hx hb hown hts hK hB.1 db_act_136 ?_
      refine lv_iconst (v := 0) hx hb db_act_139 (by decide) ?_
      refine lv_iload hx hb db_act_140 (lv_at hl 5 rfl) ?_
      obtain ⟨a3, ea3, ia3, hf⟩ := wrI_some hf
      refine bt_takenPages hx hb hK hB ia3 ea3 db_act_142 (fun H locs hB => ?_)
      refine lv_aload_n hx hb db_act_143 rfl (lv_at hl 1 rfl) ?_
      refine bg_takenPages hx hb hown hts hK hB.1 db_act_144 ?_
      refine lv_iconst (v := 1) hx hb db_act_147 (by decide) ?_
      refine lv_iload hx hb db_act_148 (lv_at hl 0 rfl) ?_
      obtain ⟨a4, ea4, ia4, hf⟩ := wrI_some hf
      refine bt_takenPages hx hb hK hB ia4 ea4 db_act_150 (fun H locs hB => ?_)
      refine lv_aload_n hx hb db_act_151 rfl (lv_at hl 1 rfl) ?_
      refine lv_iload_n hx hb db_act_152 rfl (lv_at hl 4 rfl) ?_
      refine bp_takenCount hx hb hown hts hK hB db_act_153 (fun H locs hB => ?_)
      refine lv_aload_n hx hb db_act_156 rfl (lv_at hl 1 rfl) ?_
      refine lv_aload_n hx hb db_act_157 rfl (lv_at hl 1 rfl) ?_
      refine bg_newest hx hb hown hts hK hB.1 db_act_158 ?_
      refine lv_iconst (v := 1) hx hb db_act_161 (by decide) ?_
      refine lv_iadd hx hb db_act_162 ?_
      obtain ⟨r5, h6, hf⟩ := obs hf
      refine smI (cb_rootOf (l := l) (hfl := hfl) h6) (cw_rootOf hts ⟨by decide, by decide⟩) hx hb hml hown hts hl.1 rfl rfl (lv_room (Nat.le_of_ble_eq_true rfl)) db_act_163 ⟨by decide, by decide⟩ ?_
      refine bp_writtenRoot hx hb hown hts hK hB db_act_166 (fun H locs hB => ?_)
      refine lv_aload_n hx hb db_act_169 rfl (lv_at hl 1 rfl) ?_
      obtain ⟨st7, h8, hf⟩ := obs hf
      refine mmV (cb_saveWordsBefore (l := l) (hfl := hfl) h8) (cw_saveWordsBefore hts ⟨by decide, by decide⟩) hx hb hml hown hts hK hB hZ hA hl.1 rfl rfl (lv_room (Nat.le_of_ble_eq_true rfl)) db_act_170 ⟨by decide, by decide⟩ (fun H locs hB => ?_)
      refine lv_aload_n hx hb db_act_173 rfl (lv_at hl 1 rfl) ?_
      obtain ⟨st9, h10, hf⟩ := obs hf
      refine mmV (cb_writeLeaves (l := l) (hfl := hfl) h10) (cw_writeLeaves hts ⟨by decide, by decide⟩) hx hb hml hown hts hK hB hZ hA hl.1 rfl rfl (lv_room (Nat.le_of_ble_eq_true rfl)) db_act_174 ⟨by decide, by decide⟩ (fun H locs hB => ?_)
      refine lv_aload_n hx hb db_act_177 rfl (lv_at hl 1 rfl) ?_
      refine lv_iload_n hx hb db_act_178 rfl (lv_at hl 2 rfl) ?_
      refine lv_iload_n hx hb db_act_179 rfl (lv_at hl 3 rfl) ?_
      obtain ⟨st11, h12, hf⟩ := obs hf
      refine mmV (cb_writeRoot (l := l) (hfl := hfl) h12) (cw_writeRoot hts ⟨by decide, by decide⟩) hx hb hml hown hts hK hB hZ hA hl.1 rfl rfl (lv_room (Nat.le_of_ble_eq_true rfl)) db_act_180 ⟨by decide, by decide⟩ (fun H locs hB => ?_)
      refine lv_aload_n hx hb db_act_183 rfl (lv_at hl 1 rfl) ?_
      refine lv_dup hx hb db_act_184 rfl ?_
      refine bg_newest hx hb hown hts hK hB.1 db_act_185 ?_
      refine lv_iconst (v := 1) hx hb db_act_188 (by decide) ?_
      refine lv_iadd hx hb db_act_189 ?_
      refine bp_newest hx hb hown hts hK hB db_act_190 (fun H locs hB => ?_)
      refine lv_aload_n hx hb db_act_193 rfl (lv_at hl 1 rfl) ?_
      refine lv_iconst (v := 1) hx hb db_act_194 (by decide) ?_
      refine bp_canBeCut hx hb hown hts hK hB rfl rfl db_act_195 (fun H locs hB => ?_)
      refine lv_aload_n hx hb db_act_198 rfl (lv_at hl 1 rfl) ?_
      refine bg_newest hx hb hown hts hK hB.1 db_act_199 ?_
      cases hf
      refine W.widen (k := 1) (n := 6) (by decide) (by decide) ?_
      exact em_i hx hb hr hlk hB db_act_202
    · have hf := ifp c2 hf
      cases hf
      exact mt_throw th_0_248 hX hl.1 db_act_125 db_act_128 db_act_129 db_act_131 db_act_134 ⟨by decide, by decide⟩ ⟨by decide, by decide⟩ hB
set_option maxRecDepth 100000 in
set_option maxHeartbeats 4000000 in
theorem wb_act_84 {p : Program} {l : Launch} {e : Env} {s : State} {m : MethodId} {args : Array Value} {below : List Frame} {meth : Method} {c : Code} {D : va_G} {gm : Nat → Nat} {ca : Nat → ClassId} {A : Nat → Prop} {st : BSt} (hX : BX p l e rmb_act s m args meth c D ca A kb_act 9 (some .int)) (hB : BWd D gm ca A s.heap st s.heap []) (n : Nat) : ∀ (x1 : Int32) (x2 : Int32) (x3 : Int32) (x5 : Int64) (y0 : Int32) {r : Int32 ⊕ Nat} {st' : BSt} (ls : Array Slot), lv_has ls 9 [(0, .ref (gm 0)), (1, .int x1), (2, .int x2), (3, .int x3), (5, .long x5)] → fb_act_84 n st x1 x2 x3 x5 y0 = some (r, st') → W p l e rmb_act s m args below meth c s.heap [] 0 0 (MQX below (mm_Q D gm ca A (xi r) st') args s 1 6 A) (F0 m 84 ls [.int y0]) := by
  obtain ⟨hx, hb, hml, hr, hlk, hown, hts, hK, htr, hZ, hnh, hA, hfl⟩ := id hX
  intro x1 x2 x3 x5 y0 r st' ls hl hf
  rw [fb_act_84] at hf
  refine lv_istore (lv' := [(7, .int y0), (0, .ref (gm 0)), (1, .int x1), (2, .int x2), (3, .int x3), (5, .long x5)]) hx hb db_act_84 hl (by decide) rfl (fun ls hl => ?_)
  refine lv_iload_n hx hb db_act_86 rfl (lv_at hl 4 rfl) ?_
  refine lv_iconst (v := 1) hx hb db_act_87 (by decide) ?_
  refine lv_icmp_le (tgt := 110) hx hb db_act_88 (by decide) (fun c1 => ?_) (fun c1 => ?_)
  · have hf := ifp c1 hf
    refine lv_iconst (v := 0) hx hb db_act_110 (by decide) ?_
    exact wb_act_111 hX hB n _ _ _ _ _ _ (lv_sub hl [1, 2, 3, 4, 0] rfl) hf
  · have hf := ifn c1 hf
    refine lv_iload hx hb db_act_91 (lv_at hl 0 rfl) ?_
    refine lv_iconst (v := (-1)) hx hb db_act_93 (by decide) ?_
    refine lv_icmp_eq (tgt := 110) hx hb db_act_94 (by decide) (fun c2 => ?_) (fun c2 => ?_)
    · have hf := ifp c2 hf
      refine lv_iconst (v := 0) hx hb db_act_110 (by decide) ?_
      exact wb_act_111 hX hB n _ _ _ _ _ _ (lv_sub hl [1, 2, 3, 4, 0] rfl) hf
    · have hf := ifn c2 hf
      refine lv_aload_n hx hb db_act_97 rfl (lv_at hl 1 rfl) ?_
      refine lv_lload hx hb db_act_98 (lv_at hl 5 rfl) ?_
      refine lv_iload hx hb db_act_100 (lv_at hl 0 rfl) ?_
      refine lv_iconst (v := 1) hx hb db_act_102 (by decide) ?_
      refine lv_iadd hx hb db_act_103 ?_
      obtain ⟨r3, h4, hf⟩ := obs hf
      refine rmI (cb_pageNotIn (l := l) (hfl := hfl) h4) (cw_pageNotIn hts ⟨by decide, by decide⟩) hx hb hml hown hts hK hB.1 hB.2.2 hZ hl.1 rfl rfl (lv_room (Nat.le_of_ble_eq_true rfl)) db_act_104 ⟨by decide, by decide⟩ ?_
      refine lv_goto (tgt := 111) hx hb db_act_107 (by decide) ?_
      exact wb_act_111 hX hB n _ _ _ _ _ _ (lv_sub hl [1, 2, 3, 4, 0] rfl) hf
set_option maxRecDepth 100000 in
set_option maxHeartbeats 4000000 in
theorem wb_act_36 {p : Program} {l : Launch} {e : Env} {s : State} {m : MethodId} {args : Array Value} {below : List Frame} {meth : Method} {c : Code} {D : va_G} {gm : Nat → Nat} {ca : Nat → ClassId} {A : Nat → Prop} {st : BSt} (hX : BX p l e rmb_act s m args meth c D ca A kb_act 9 (some .int)) (hB : BWd D gm ca A s.heap st s.heap []) (n : Nat) : ∀ (x1 : Int32) (x2 : Int32) (x3 : Int32) (y0 : Int32) {r : Int32 ⊕ Nat} {st' : BSt} (ls : Array Slot), lv_has ls 9 [(0, .ref (gm 0)), (1, .int x1), (2, .int x2), (3, .int x3)] → fb_act_36 n st x1 x2 x3 y0 = some (r, st') → W p l e rmb_act s m args below meth c s.heap [] 0 0 (MQX below (mm_Q D gm ca A (xi r) st') args s 1 6 A) (F0 m 36 ls [.int y0]) := by
  obtain ⟨hx, hb, hml, hr, hlk, hown, hts, hK, htr, hZ, hnh, hA, hfl⟩ := id hX
  intro x1 x2 x3 y0 r st' ls hl hf
  rw [fb_act_36] at hf
  refine lv_istore (lv' := [(4, .int y0), (0, .ref (gm 0)), (1, .int x1), (2, .int x2), (3, .int x3)]) hx hb db_act_36 hl (by decide) rfl (fun ls hl => ?_)
  refine lv_aload_n hx hb db_act_38 rfl (lv_at hl 1 rfl) ?_
  refine lv_iload_n hx hb db_act_39 rfl (lv_at hl 2 rfl) ?_
  obtain ⟨r1, h2, hf⟩ := obs hf
  refine rmI (cb_leavesOf (l := l) (hfl := hfl) h2) (cw_leavesOf hts ⟨by decide, by decide⟩) hx hb hml hown hts hK hB.1 hB.2.2 hZ hl.1 rfl rfl (lv_room (Nat.le_of_ble_eq_true rfl)) db_act_40 ⟨by decide, by decide⟩ ?_
  refine lv_iload hx hb db_act_43 (lv_at hl 0 rfl) ?_
  refine lv_isub hx hb db_act_45 ?_
  refine lv_iload_n hx hb db_act_46 rfl (lv_at hl 4 rfl) ?_
  refine lv_iadd hx hb db_act_47 ?_
  refine lv_bipush (v := 16) hx hb db_act_48 (by decide) ?_
  refine lv_icmp_le (tgt := 63) hx hb db_act_50 (by decide) (fun c3 => ?_) (fun c3 => ?_)
  · have hf := ifp c3 hf
    refine lv_aload_n hx hb db_act_63 rfl (lv_at hl 1 rfl) ?_
    obtain ⟨r4, h5, hf⟩ := obs hf
    refine rmL (cb_heldPages (l := l) (hfl := hfl) h5) (cw_heldPages hts ⟨by decide, by decide⟩) hx hb hml hown hts hK hB.1 hB.2.2 hZ hl.1 rfl rfl (lv_room (Nat.le_of_ble_eq_true rfl)) db_act_64 ⟨by decide, by decide⟩ ?_
    refine lv_lstore (lv' := [(5, .long r4), (4, .int y0), (0, .ref (gm 0)), (1, .int x1), (2, .int x2), (3, .int x3)]) hx hb db_act_67 hl (by decide) rfl (fun ls hl => ?_)
    refine lv_iload_n hx hb db_act_69 rfl (lv_at hl 5 rfl) ?_
    refine lv_if_le (tgt := 83) hx hb db_act_70 (by decide) (fun c6 => ?_) (fun c6 => ?_)
    · have hf := ifp c6 hf
      refine lv_iconst (v := 0) hx hb db_act_83 (by decide) ?_
      exact wb_act_84 hX hB n _ _ _ _ _ _ (lv_sub hl [2, 3, 4, 5, 0] rfl) hf
    · have hf := ifn c6 hf
      refine lv_aload_n hx hb db_act_73 rfl (lv_at hl 2 rfl) ?_
      refine lv_lload hx hb db_act_74 (lv_at hl 0 rfl) ?_
      refine lv_iconst (v := 0) hx hb db_act_76 (by decide) ?_
      obtain ⟨r7, h8, hf⟩ := obs hf
      refine rmI (cb_pageNotIn (l := l) (hfl := hfl) h8) (cw_pageNotIn hts ⟨by decide, by decide⟩) hx hb hml hown hts hK hB.1 hB.2.2 hZ hl.1 rfl rfl (lv_room (Nat.le_of_ble_eq_true rfl)) db_act_77 ⟨by decide, by decide⟩ ?_
      refine lv_goto (tgt := 84) hx hb db_act_80 (by decide) ?_
      exact wb_act_84 hX hB n _ _ _ _ _ _ (lv_sub hl [2, 3, 4, 5, 0] rfl) hf
  · have hf := ifn c3 hf
    cases hf
    exact mt_throw th_0_242 hX hl.1 db_act_53 db_act_56 db_act_57 db_act_59 db_act_62 ⟨by decide, by decide⟩ ⟨by decide, by decide⟩ hB
set_option maxRecDepth 100000 in
set_option maxHeartbeats 4000000 in
theorem wb_act_0 {p : Program} {l : Launch} {e : Env} {s : State} {m : MethodId} {args : Array Value} {below : List Frame} {meth : Method} {c : Code} {D : va_G} {gm : Nat → Nat} {ca : Nat → ClassId} {A : Nat → Prop} {st : BSt} (hX : BX p l e rmb_act s m args meth c D ca A kb_act 9 (some .int)) (hB : BWd D gm ca A s.heap st s.heap []) (n : Nat) : ∀ (x1 : Int32) (x2 : Int32) {r : Int32 ⊕ Nat} {st' : BSt} (ls : Array Slot), lv_has ls 9 [(0, .ref (gm 0)), (1, .int x1), (2, .int x2)] → fb_act n st x1 x2 = some (r, st') → W p l e rmb_act s m args below meth c s.heap [] 0 0 (MQX below (mm_Q D gm ca A (xi r) st') args s 1 6 A) (F0 m 0 ls []) := by
  obtain ⟨hx, hb, hml, hr, hlk, hown, hts, hK, htr, hZ, hnh, hA, hfl⟩ := id hX
  intro x1 x2 r st' ls hl hf
  rw [fb_act] at hf
  refine lv_aload_n hx hb db_act_0 rfl (lv_at hl 0 rfl) ?_
  refine bg_draftCount hx hb hown hts hK hB.1 db_act_1 ?_
  refine lv_bipush (v := 7) hx hb db_act_4 (by decide) ?_
  refine lv_icmp_le (tgt := 13) hx hb db_act_6 (by decide) (fun c1 => ?_) (fun c1 => ?_)
  · have hf := ifp c1 hf
    refine lv_aload_n hx hb db_act_13 rfl (lv_at hl 0 rfl) ?_
    refine bg_draftCount hx hb hown hts hK hB.1 db_act_14 ?_
    refine lv_if_le (tgt := 24) hx hb db_act_17 (by decide) (fun c2 => ?_) (fun c2 => ?_)
    · have hf := ifp c2 hf
      refine lv_iconst (v := 0) hx hb db_act_24 (by decide) ?_
      refine lv_istore_n (lv' := [(3, .int 0), (0, .ref (gm 0)), (1, .int x1), (2, .int x2)]) hx hb db_act_25 rfl hl (by decide) rfl (fun ls hl => ?_)
      refine lv_iload_n hx hb db_act_26 rfl (lv_at hl 3 rfl) ?_
      refine lv_iconst (v := (-1)) hx hb db_act_27 (by decide) ?_
      refine lv_icmp_ne (tgt := 35) hx hb db_act_28 (by decide) (fun c3 => ?_) (fun c3 => ?_)
      · have hf := ifn c3 hf
        refine lv_iconst (v := 1) hx hb db_act_35 (by decide) ?_
        exact wb_act_36 hX hB n _ _ _ _ _ (lv_sub hl [1, 2, 3, 0] rfl) hf
      · have hf := ifp c3 hf
        refine lv_iconst (v := 0) hx hb db_act_31 (by decide) ?_
        refine lv_goto (tgt := 36) hx hb db_act_32 (by decide) ?_
        exact wb_act_36 hX hB n _ _ _ _ _ (lv_sub hl [1, 2, 3, 0] rfl) hf
    · have hf := ifn c2 hf
      refine lv_iconst (v := 1) hx hb db_act_20 (by decide) ?_
      refine lv_goto (tgt := 25) hx hb db_act_21 (by decide) ?_
      refine lv_istore_n (lv' := [(3, .int 1), (0, .ref (gm 0)), (1, .int x1), (2, .int x2)]) hx hb db_act_25 rfl hl (by decide) rfl (fun ls hl => ?_)
      refine lv_iload_n hx hb db_act_26 rfl (lv_at hl 3 rfl) ?_
      refine lv_iconst (v := (-1)) hx hb db_act_27 (by decide) ?_
      refine lv_icmp_ne (tgt := 35) hx hb db_act_28 (by decide) (fun c4 => ?_) (fun c4 => ?_)
      · have hf := ifn c4 hf
        refine lv_iconst (v := 1) hx hb db_act_35 (by decide) ?_
        exact wb_act_36 hX hB n _ _ _ _ _ (lv_sub hl [1, 2, 3, 0] rfl) hf
      · have hf := ifp c4 hf
        refine lv_iconst (v := 0) hx hb db_act_31 (by decide) ?_
        refine lv_goto (tgt := 36) hx hb db_act_32 (by decide) ?_
        exact wb_act_36 hX hB n _ _ _ _ _ (lv_sub hl [1, 2, 3, 0] rfl) hf
  · have hf := ifn c1 hf
    refine lv_iconst (v := 2) hx hb db_act_9 (by decide) ?_
    refine lv_goto (tgt := 25) hx hb db_act_10 (by decide) ?_
    refine lv_istore_n (lv' := [(3, .int 2), (0, .ref (gm 0)), (1, .int x1), (2, .int x2)]) hx hb db_act_25 rfl hl (by decide) rfl (fun ls hl => ?_)
    refine lv_iload_n hx hb db_act_26 rfl (lv_at hl 3 rfl) ?_
    refine lv_iconst (v := (-1)) hx hb db_act_27 (by decide) ?_
    refine lv_icmp_ne (tgt := 35) hx hb db_act_28 (by decide) (fun c5 => ?_) (fun c5 => ?_)
    · have hf := ifn c5 hf
      refine lv_iconst (v := 1) hx hb db_act_35 (by decide) ?_
      exact wb_act_36 hX hB n _ _ _ _ _ (lv_sub hl [1, 2, 3, 0] rfl) hf
    · have hf := ifp c5 hf
      refine lv_iconst (v := 0) hx hb db_act_31 (by decide) ?_
      refine lv_goto (tgt := 36) hx hb db_act_32 (by decide) ?_
      exact wb_act_36 hX hB n _ _ _ _ _ (lv_sub hl [1, 2, 3, 0] rfl) hf
set_option maxRecDepth 100000 in
set_option maxHeartbeats 4000000 in
theorem cb_act {l : Launch} (hfl : l.flags = flags0) {D : va_G} {gm : Nat → Nat} {ca : Nat → ClassId} {st : BSt} {n : Nat} {x1 : Int32} {x2 : Int32} {r : Int32 ⊕ Nat} {st' : BSt} (hf : fb_act n st x1 x2 = some (r, st')) : MM l yb_act rmb_act D gm ca [.int x1, .int x2] st (xi r) st' :=
  MM.of hfl (by decide +kernel) rfl mcb_act (fun p e s m below meth c A _ hX hB => wb_act_0 hX hB n _ _ _ (lv_entry _ (Nat.le_of_ble_eq_true rfl)) hf)
set_option maxRecDepth 100000 in
set_option maxHeartbeats 4000000 in
theorem wb_put_0 {p : Program} {l : Launch} {e : Env} {s : State} {m : MethodId} {args : Array Value} {below : List Frame} {meth : Method} {c : Code} {D : va_G} {gm : Nat → Nat} {ca : Nat → ClassId} {A : Nat → Prop} {st : BSt} (hX : BX p l e rmb_put s m args meth c D ca A kb_put 6 (some .int)) (hB : BWd D gm ca A s.heap st s.heap []) (n : Nat) : ∀ (x1 : Int32) (x2 : Int64) {r : Int32 ⊕ Nat} {st' : BSt} (ls : Array Slot), lv_has ls 6 [(0, .ref (gm 0)), (1, .int x1), (2, .long x2)] → fb_put n st x1 x2 = some (r, st') → W p l e rmb_put s m args below meth c s.heap [] 0 0 (MQX below (mm_Q D gm ca A (xi r) st') args s 4 24 A) (F0 m 0 ls []) := by
  obtain ⟨hx, hb, hml, hr, hlk, hown, hts, hK, htr, hZ, hnh, hA, hfl⟩ := id hX
  intro x1 x2 r st' ls hl hf
  rw [fb_put] at hf
  refine lv_aload_n hx hb db_put_0 rfl (lv_at hl 0 rfl) ?_
  rcases thnS_some hf with ⟨r1, h2, hf⟩ | ⟨k3, h2, hf⟩
  rotate_left 1
  · cases hf
    refine rmT (cb_requireWritable (l := l) (hfl := hfl) h2) (cw_requireWritable hts ⟨by decide, by decide⟩) hx hb hml hown hts hK hB.1 hB.2.2 hZ hl.1 rfl rfl (lv_room (Nat.le_of_ble_eq_true rfl)) db_put_1 ⟨by decide, by decide⟩ (fun x t h1 h2 h3 h4 h5 => ?_)
    refine WT.widen (k := 4) (n := 24) (by decide) (by decide) ?_
    exact mt_outR hX hB h1 h2 h3 h4 h5
  refine rmV (cb_requireWritable (l := l) (hfl := hfl) h2) (cw_requireWritable hts ⟨by decide, by decide⟩) hx hb hml hown hts hK hB.1 hB.2.2 hZ hl.1 rfl rfl (lv_room (Nat.le_of_ble_eq_true rfl)) db_put_1 ⟨by decide, by decide⟩ ?_
  refine lv_aload_n hx hb db_put_4 rfl (lv_at hl 0 rfl) ?_
  refine lv_iload_n hx hb db_put_5 rfl (lv_at hl 1 rfl) ?_
  rcases thnS_some hf with ⟨r4, h5, hf⟩ | ⟨k6, h5, hf⟩
  rotate_left 1
  · cases hf
    refine rmT (cb_requireKey (l := l) (hfl := hfl) h5) (cw_requireKey hts ⟨by decide, by decide⟩) hx hb hml hown hts hK hB.1 hB.2.2 hZ hl.1 rfl rfl (lv_room (Nat.le_of_ble_eq_true rfl)) db_put_6 ⟨by decide, by decide⟩ (fun x t h1 h2 h3 h4 h5 => ?_)
    refine WT.widen (k := 4) (n := 24) (by decide) (by decide) ?_
    exact mt_outR hX hB h1 h2 h3 h4 h5
  refine rmV (cb_requireKey (l := l) (hfl := hfl) h5) (cw_requireKey hts ⟨by decide, by decide⟩) hx hb hml hown hts hK hB.1 hB.2.2 hZ hl.1 rfl rfl (lv_room (Nat.le_of_ble_eq_true rfl)) db_put_6 ⟨by decide, by decide⟩ ?_
  refine lv_aload_n hx hb db_put_9 rfl (lv_at hl 0 rfl) ?_
  refine bg_newest hx hb hown hts hK hB.1 db_put_10 ?_
  obtain ⟨r7, h8, hf⟩ := obs hf
  refine smI (cb_rootOf (l := l) (hfl := hfl) h8) (cw_rootOf hts ⟨by decide, by decide⟩) hx hb hml hown hts hl.1 rfl rfl (lv_room (Nat.le_of_ble_eq_true rfl)) db_put_13 ⟨by decide, by decide⟩ ?_
  refine lv_istore (lv' := [(4, .int r7), (0, .ref (gm 0)), (1, .int x1), (2, .long x2)]) hx hb db_put_16 hl (by decide) rfl (fun ls hl => ?_)
  refine lv_aload_n hx hb db_put_18 rfl (lv_at hl 1 rfl) ?_
  refine lv_iload hx hb db_put_19 (lv_at hl 0 rfl) ?_
  refine lv_iload_n hx hb db_put_21 rfl (lv_at hl 2 rfl) ?_
  obtain ⟨r9, h10, hf⟩ := obs hf
  refine rmI (cb_leafFor (l := l) (hfl := hfl) h10) (cw_leafFor hts ⟨by decide, by decide⟩) hx hb hml hown hts hK hB.1 hB.2.2 hZ hl.1 rfl rfl (lv_room (Nat.le_of_ble_eq_true rfl)) db_put_22 ⟨by decide, by decide⟩ ?_
  refine lv_istore (lv' := [(5, .int r9), (4, .int r7), (0, .ref (gm 0)), (1, .int x1), (2, .long x2)]) hx hb db_put_25 hl (by decide) rfl (fun ls hl => ?_)
  refine lv_aload_n hx hb db_put_27 rfl (lv_at hl 2 rfl) ?_
  refine lv_iload hx hb db_put_28 (lv_at hl 1 rfl) ?_
  refine lv_iload hx hb db_put_30 (lv_at hl 0 rfl) ?_
  obtain ⟨st11, h12, hf⟩ := obs hf
  refine mmV (cb_loadDraft (l := l) (hfl := hfl) h12) (cw_loadDraft hts ⟨by decide, by decide⟩) hx hb hml hown hts hK hB hZ hA hl.1 rfl rfl (lv_room (Nat.le_of_ble_eq_true rfl)) db_put_32 ⟨by decide, by decide⟩ (fun H locs hB => ?_)
  refine lv_aload_n hx hb db_put_35 rfl (lv_at hl 2 rfl) ?_
  refine lv_iload_n hx hb db_put_36 rfl (lv_at hl 3 rfl) ?_
  refine lv_lload_n hx hb db_put_37 rfl (lv_at hl 4 rfl) ?_
  obtain ⟨st13, h14, hf⟩ := obs hf
  refine mmV (cb_putInDraft (l := l) (hfl := hfl) h14) (cw_putInDraft hts ⟨by decide, by decide⟩) hx hb hml hown hts hK hB hZ hA hl.1 rfl rfl (lv_room (Nat.le_of_ble_eq_true rfl)) db_put_38 ⟨by decide, by decide⟩ (fun H locs hB => ?_)
  refine lv_aload_n hx hb db_put_41 rfl (lv_at hl 2 rfl) ?_
  refine lv_iload hx hb db_put_42 (lv_at hl 1 rfl) ?_
  refine lv_iload hx hb db_put_44 (lv_at hl 0 rfl) ?_
  rcases thnM_some hf with ⟨r15, st16, h17, hf⟩ | ⟨k18, st16, h17, hf⟩
  rotate_left 1
  · cases hf
    refine mmT (cb_act (l := l) (hfl := hfl) h17) (cw_act hts ⟨by decide, by decide⟩) hx hb hml hown hts hK hB hZ hA hl.1 rfl rfl (lv_room (Nat.le_of_ble_eq_true rfl)) db_put_46 ⟨by decide, by decide⟩ (fun H locs x t ht h1 h5 h4 hB => ?_)
    exact mt_outM hX ht h1 h5 h4 hB
  refine mmI (cb_act (l := l) (hfl := hfl) h17) (cw_act hts ⟨by decide, by decide⟩) hx hb hml hown hts hK hB hZ hA hl.1 rfl rfl (lv_room (Nat.le_of_ble_eq_true rfl)) db_put_46 ⟨by decide, by decide⟩ (fun H locs hB => ?_)
  cases hf
  exact em_i hx hb hr hlk hB db_put_49
set_option maxRecDepth 100000 in
set_option maxHeartbeats 4000000 in
theorem cb_put {l : Launch} (hfl : l.flags = flags0) {D : va_G} {gm : Nat → Nat} {ca : Nat → ClassId} {st : BSt} {n : Nat} {x1 : Int32} {x2 : Int64} {r : Int32 ⊕ Nat} {st' : BSt} (hf : fb_put n st x1 x2 = some (r, st')) : MM l yb_put rmb_put D gm ca [.int x1, .long x2] st (xi r) st' :=
  MM.of hfl (by decide +kernel) rfl mcb_put (fun p e s m below meth c A _ hX hB => wb_put_0 hX hB n _ _ _ (lv_entry _ (Nat.le_of_ble_eq_true rfl)) hf)
set_option maxRecDepth 100000 in
set_option maxHeartbeats 4000000 in
theorem wb_dropFromDraft_29 {p : Program} {l : Launch} {e : Env} {s : State} {m : MethodId} {args : Array Value} {below : List Frame} {meth : Method} {c : Code} {D : va_G} {gm : Nat → Nat} {ca : Nat → ClassId} {A : Nat → Prop} (hX : BX p l e rmb_dropFromDraft s m args meth c D ca A kb_dropFromDraft 4 (some .boolean)) (n : Nat) :∀ (k : Nat), ∀ (st : BSt) (x3 : Int32) {r : Int32} {st' : BSt} (ls : Array Slot) (H : Heap) (locs : List Loc), BWd D gm ca A s.heap st H locs → lv_has ls 4 [(0, .ref (gm 0)), (3, .int x3)] → fb_dropFromDraft_29 n k st x3 = some (r, st') → W p l e rmb_dropFromDraft s m args below meth c H locs 0 0 (MQX below (mm_Q D gm ca A (XI r) st') args s 0 0 A) (F0 m 29 ls []) := by
  obtain ⟨hx, hb, hml, hr, hlk, hown, hts, hK, htr, hZ, hnh, hA, hfl⟩ := id hX
  intro k
  induction k with
  | zero =>
    intro st x3 r st' ls H locs hB hl hf
    rw [fb_dropFromDraft_29] at hf
    cases hf
  | succ k ih =>
    intro st x3 r st' ls H locs hB hl hf
    rw [fb_dropFromDraft_29] at hf
    refine lv_iload_n hx hb db_dropFromDraft_29 rfl (lv_at hl 1 rfl) ?_
    refine lv_aload_n hx hb db_dropFromDraft_30 rfl (lv_at hl 0 rfl) ?_
    refine bg_draftCount hx hb hown hts hK hB.1 db_dropFromDraft_31 ?_
    refine lv_icmp_ge (tgt := 71) hx hb db_dropFromDraft_34 (by decide) (fun c1 => ?_) (fun c1 => ?_)
    · have hf := ifp c1 hf
      refine lv_iconst (v := 1) hx hb db_dropFromDraft_71 (by decide) ?_
      cases hf
      exact em_z hx hb hr hlk hB rfl db_dropFromDraft_72
    · have hf := ifn c1 hf
      refine lv_aload_n hx hb db_dropFromDraft_37 rfl (lv_at hl 0 rfl) ?_
      refine bg_draftKeys hx hb hown hts hK hB.1 db_dropFromDraft_38 ?_
      refine lv_iload_n hx hb db_dropFromDraft_41 rfl (lv_at hl 1 rfl) ?_
      refine lv_aload_n hx hb db_dropFromDraft_42 rfl (lv_at hl 0 rfl) ?_
      refine bg_draftKeys hx hb hown hts hK hB.1 db_dropFromDraft_43 ?_
      refine lv_iload_n hx hb db_dropFromDraft_46 rfl (lv_at hl 1 rfl) ?_
      refine lv_iconst (v := 1) hx hb db_dropFromDraft_47 (by decide) ?_
      refine lv_iadd hx hb db_dropFromDraft_48 ?_
      obtain ⟨r2, er2, ir2, hf⟩ := rdL_some hf
      refine bl_draftKeys hx hb hK hB.1 ir2 er2 db_dropFromDraft_49 ?_
      obtain ⟨a3, ea3, ia3, hf⟩ := wrL_some hf
      refine bt_draftKeys hx hb hK hB ia3 ea3 db_dropFromDraft_50 (fun H locs hB => ?_)
      refine lv_aload_n hx hb db_dropFromDraft_51 rfl (lv_at hl 0 rfl) ?_
      refine bg_draftValues hx hb hown hts hK hB.1 db_dropFromDraft_52 ?_
      refine lv_iload_n hx hb db_dropFromDraft_55 rfl (lv_at hl 1 rfl) ?_
      refine lv_aload_n hx hb db_dropFromDraft_56 rfl (lv_at hl 0 rfl) ?_
      refine bg_draftValues hx hb hown hts hK hB.1 db_dropFromDraft_57 ?_
      refine lv_iload_n hx hb db_dropFromDraft_60 rfl (lv_at hl 1 rfl) ?_
      refine lv_iconst (v := 1) hx hb db_dropFromDraft_61 (by decide) ?_
      refine lv_iadd hx hb db_dropFromDraft_62 ?_
      obtain ⟨r4, er4, ir4, hf⟩ := rdL_some hf
      refine bl_draftValues hx hb hK hB.1 ir4 er4 db_dropFromDraft_63 ?_
      obtain ⟨a5, ea5, ia5, hf⟩ := wrL_some hf
      refine bt_draftValues hx hb hK hB ia5 ea5 db_dropFromDraft_64 (fun H locs hB => ?_)
      refine lv_iinc (v := (x3 + 1)) (lv' := [(3, .int (x3 + 1)), (0, .ref (gm 0))]) hx hb db_dropFromDraft_65 hl (k := 1) rfl rfl (by decide) rfl (fun ls hl => ?_)
      refine lv_goto (tgt := 29) hx hb db_dropFromDraft_68 (by decide) ?_
      exact ih _ _ _ _ _ hB (lv_sub hl [1, 0] rfl) hf
set_option maxRecDepth 100000 in
set_option maxHeartbeats 4000000 in
theorem wb_dropFromDraft_0 {p : Program} {l : Launch} {e : Env} {s : State} {m : MethodId} {args : Array Value} {below : List Frame} {meth : Method} {c : Code} {D : va_G} {gm : Nat → Nat} {ca : Nat → ClassId} {A : Nat → Prop} {st : BSt} (hX : BX p l e rmb_dropFromDraft s m args meth c D ca A kb_dropFromDraft 4 (some .boolean)) (hB : BWd D gm ca A s.heap st s.heap []) (n : Nat) : ∀ (x1 : Int32) {r : Int32} {st' : BSt} (ls : Array Slot), lv_has ls 4 [(0, .ref (gm 0)), (1, .int x1)] → fb_dropFromDraft n st x1 = some (r, st') → W p l e rmb_dropFromDraft s m args below meth c s.heap [] 0 0 (MQX below (mm_Q D gm ca A (XI r) st') args s 0 0 A) (F0 m 0 ls []) := by
  obtain ⟨hx, hb, hml, hr, hlk, hown, hts, hK, htr, hZ, hnh, hA, hfl⟩ := id hX
  intro x1 r st' ls hl hf
  rw [fb_dropFromDraft] at hf
  refine lv_aload_n hx hb db_dropFromDraft_0 rfl (lv_at hl 0 rfl) ?_
  refine lv_iload_n hx hb db_dropFromDraft_1 rfl (lv_at hl 1 rfl) ?_
  obtain ⟨r1, h2, hf⟩ := obs hf
  refine rmI (cb_placeInDraft (l := l) (hfl := hfl) h2) (cw_placeInDraft hts ⟨by decide, by decide⟩) hx hb hml hown hts hK hB.1 hB.2.2 hZ hl.1 rfl rfl (lv_room (Nat.le_of_ble_eq_true rfl)) db_dropFromDraft_2 ⟨by decide, by decide⟩ ?_
  refine lv_istore_n (lv' := [(2, .int r1), (0, .ref (gm 0)), (1, .int x1)]) hx hb db_dropFromDraft_5 rfl hl (by decide) rfl (fun ls hl => ?_)
  refine lv_aload_n hx hb db_dropFromDraft_6 rfl (lv_at hl 1 rfl) ?_
  refine lv_iload_n hx hb db_dropFromDraft_7 rfl (lv_at hl 0 rfl) ?_
  refine lv_iload_n hx hb db_dropFromDraft_8 rfl (lv_at hl 2 rfl) ?_
  obtain ⟨r3, h4, hf⟩ := obs hf
  refine rmI (cb_draftHasAt (l := l) (hfl := hfl) h4) (cw_draftHasAt hts ⟨by decide, by decide⟩) hx hb hml hown hts hK hB.1 hB.2.2 hZ hl.1 rfl rfl (lv_room (Nat.le_of_ble_eq_true rfl)) db_dropFromDraft_9 ⟨by decide, by decide⟩ ?_
  refine lv_if_ne (tgt := 17) hx hb db_dropFromDraft_12 (by decide) (fun c5 => ?_) (fun c5 => ?_)
  · have hf := ifn c5 hf
    refine lv_aload_n hx hb db_dropFromDraft_17 rfl (lv_at hl 1 rfl) ?_
    refine lv_dup hx hb db_dropFromDraft_18 rfl ?_
    refine bg_draftCount hx hb hown hts hK hB.1 db_dropFromDraft_19 ?_
    refine lv_iconst (v := 1) hx hb db_dropFromDraft_22 (by decide) ?_
    refine lv_isub hx hb db_dropFromDraft_23 ?_
    refine bp_draftCount hx hb hown hts hK hB db_dropFromDraft_24 (fun H locs hB => ?_)
    refine lv_iload_n hx hb db_dropFromDraft_27 rfl (lv_at hl 0 rfl) ?_
    refine lv_istore_n (lv' := [(3, .int r1), (2, .int r1), (0, .ref (gm 0)), (1, .int x1)]) hx hb db_dropFromDraft_28 rfl hl (by decide) rfl (fun ls hl => ?_)
    exact wb_dropFromDraft_29 hX n n _ _ _ _ _ hB (lv_sub hl [2, 0] rfl) hf
  · have hf := ifp c5 hf
    refine lv_iconst (v := 0) hx hb db_dropFromDraft_15 (by decide) ?_
    cases hf
    exact em_z hx hb hr hlk hB rfl db_dropFromDraft_16
set_option maxRecDepth 100000 in
set_option maxHeartbeats 4000000 in
theorem cb_dropFromDraft {l : Launch} (hfl : l.flags = flags0) {D : va_G} {gm : Nat → Nat} {ca : Nat → ClassId} {st : BSt} {n : Nat} {x1 : Int32} {r : Int32} {st' : BSt} (hf : fb_dropFromDraft n st x1 = some (r, st')) : MM l yb_dropFromDraft rmb_dropFromDraft D gm ca [.int x1] st (XI r) st' :=
  MM.of hfl (by decide +kernel) rfl mcb_dropFromDraft (fun p e s m below meth c A _ hX hB => wb_dropFromDraft_0 hX hB n _ _ (lv_entry _ (Nat.le_of_ble_eq_true rfl)) hf)
