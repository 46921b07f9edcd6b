set_option maxRecDepth 100000 in
set_option maxHeartbeats 4000000 in
theorem wb_heldPages_4 {p : Program} {l : Launch} {e : Env} {s : State} {m : MethodId} {args : Array Value} {below : List Frame} {meth : Method} {c : Code} {D : va_G} {gm : Nat → Nat} {ca : Nat → ClassId} {A : Nat → Prop} {st : BSt} (hX : BX p l e rmb_heldPages s m args meth c D ca A kb_heldPages 4 (some .long)) (hP : va_P D vwCl (wB gm ca st) s.heap) (n : Nat) :∀ (k : Nat), ∀ (x1 : Int64) (x3 : Int32) {r : Int64} (ls : Array Slot), lv_has ls 4 [(0, .ref (gm 0)), (1, .long x1), (3, .int x3)] → fb_heldPages_4 n k st x1 x3 = some r → W p l e rmb_heldPages s m args below meth c s.heap [] 0 0 (MQX below (xx_Q (XL r)) args s 0 0 (fun _ => False)) (F0 m 4 ls []) := by
  obtain ⟨hx, hb, hml, hr, hlk, hown, hts, hK, htr, hZ, hnh, hA, hfl⟩ := id hX
  intro k
  induction k with
  | zero =>
    intro x1 x3 r ls hl hf
    rw [fb_heldPages_4] at hf
    cases hf
  | succ k ih =>
    intro x1 x3 r ls hl hf
    rw [fb_heldPages_4] at hf
    refine lv_iload_n hx hb db_heldPages_4 rfl (lv_at hl 2 rfl) ?_
    refine lv_bipush (v := 8) hx hb db_heldPages_5 (by decide) ?_
    refine lv_icmp_ge (tgt := 50) hx hb db_heldPages_7 (by decide) (fun c1 => ?_) (fun c1 => ?_)
    · have hf := ifp c1 hf
      refine lv_lload_n hx hb db_heldPages_50 rfl (lv_at hl 1 rfl) ?_
      cases hf
      exact er_l hx hb hr hlk db_heldPages_51
    · have hf := ifn c1 hf
      refine lv_aload_n hx hb db_heldPages_10 rfl (lv_at hl 0 rfl) ?_
      refine bg_roots hx hb hown hts hK hP db_heldPages_11 ?_
      refine lv_iload_n hx hb db_heldPages_14 rfl (lv_at hl 2 rfl) ?_
      refine lv_bipush (v := 20) hx hb db_heldPages_15 (by decide) ?_
      refine lv_imul hx hb db_heldPages_17 ?_
      obtain ⟨r2, er2, ir2, hf⟩ := rdL_some hf
      refine bl_roots hx hb hK hP ir2 er2 db_heldPages_18 ?_
      refine lv_aload_n hx hb db_heldPages_19 rfl (lv_at hl 0 rfl) ?_
      refine bg_newest hx hb hown hts hK hP db_heldPages_20 ?_
      refine lv_i2l hx hb db_heldPages_23 rfl ?_
      refine W.lcmp hx hb db_heldPages_24 ?_
      refine lv_if_gt (tgt := 44) hx hb db_heldPages_25 (by decide) (fun c3 => ?_) (fun c3 => ?_)
      · have hf := ifp c3 hf
        refine lv_iinc (v := (x3 + 1)) (lv' := [(3, .int (x3 + 1)), (0, .ref (gm 0)), (1, .long x1)]) hx hb db_heldPages_44 hl (k := 2) rfl rfl (by decide) rfl (fun ls hl => ?_)
        refine lv_goto (tgt := 4) hx hb db_heldPages_47 (by decide) ?_
        exact ih _ _ _ (lv_sub hl [1, 2, 0] rfl) hf
      · have hf := ifn c3 hf
        refine lv_aload_n hx hb db_heldPages_28 rfl (lv_at hl 0 rfl) ?_
        refine lv_iload_n hx hb db_heldPages_29 rfl (lv_at hl 2 rfl) ?_
        obtain ⟨r4, h5, hf⟩ := obs hf
        refine rmI (cb_isSound (l := l) (hfl := hfl) h5) (cw_isSound hts ⟨by decide, by decide⟩) hx hb hml hown hts hK hP va_S.rf hZ hl.1 rfl rfl (lv_room (Nat.le_of_ble_eq_true rfl)) db_heldPages_30 ⟨by decide, by decide⟩ ?_
        refine lv_if_eq (tgt := 44) hx hb db_heldPages_33 (by decide) (fun c6 => ?_) (fun c6 => ?_)
        · have hf := ifp c6 hf
          refine lv_iinc (v := (x3 + 1)) (lv' := [(3, .int (x3 + 1)), (0, .ref (gm 0)), (1, .long x1)]) hx hb db_heldPages_44 hl (k := 2) rfl rfl (by decide) rfl (fun ls hl => ?_)
          refine lv_goto (tgt := 4) hx hb db_heldPages_47 (by decide) ?_
          exact ih _ _ _ (lv_sub hl [1, 2, 0] rfl) hf
        · have hf := ifn c6 hf
          refine lv_lload_n hx hb db_heldPages_36 rfl (lv_at hl 1 rfl) ?_
          refine lv_aload_n hx hb db_heldPages_37 rfl (lv_at hl 0 rfl) ?_
          refine lv_iload_n hx hb db_heldPages_38 rfl (lv_at hl 2 rfl) ?_
          obtain ⟨r7, h8, hf⟩ := obs hf
          refine rmL (cb_pagesOf (l := l) (hfl := hfl) h8) (cw_pagesOf hts ⟨by decide, by decide⟩) hx hb hml hown hts hK hP va_S.rf hZ hl.1 rfl rfl (lv_room (Nat.le_of_ble_eq_true rfl)) db_heldPages_39 ⟨by decide, by decide⟩ ?_
          refine lv_lor hx hb db_heldPages_42 ?_
          refine lv_lstore_n (lv' := [(1, .long (x1 ||| r7)), (0, .ref (gm 0)), (3, .int x3)]) hx hb db_heldPages_43 rfl hl (by decide) rfl (fun ls hl => ?_)
          refine lv_iinc (v := (x3 + 1)) (lv' := [(3, .int (x3 + 1)), (1, .long (x1 ||| r7)), (0, .ref (gm 0))]) hx hb db_heldPages_44 hl (k := 2) rfl rfl (by decide) rfl (fun ls hl => ?_)
          refine lv_goto (tgt := 4) hx hb db_heldPages_47 (by decide) ?_
          exact ih _ _ _ (lv_sub hl [2, 1, 0] rfl) hf
set_option maxRecDepth 100000 in
set_option maxHeartbeats 4000000 in
theorem wb_heldPages_0 {p : Program} {l : Launch} {e : Env} {s : State} {m : MethodId} {args : Array Value} {below : List Frame} {meth : Method} {c : Code} {D : va_G} {gm : Nat → Nat} {ca : Nat → ClassId} {A : Nat → Prop} {st : BSt} (hX : BX p l e rmb_heldPages s m args meth c D ca A kb_heldPages 4 (some .long)) (hP : va_P D vwCl (wB gm ca st) s.heap) (n : Nat) : ∀ {r : Int64} (ls : Array Slot), lv_has ls 4 [(0, .ref (gm 0))] → fb_heldPages n st = some r → W p l e rmb_heldPages s m args below meth c s.heap [] 0 0 (MQX below (xx_Q (XL r)) args s 0 0 (fun _ => False)) (F0 m 0 ls []) := by
  obtain ⟨hx, hb, hml, hr, hlk, hown, hts, hK, htr, hZ, hnh, hA, hfl⟩ := id hX
  intro r ls hl hf
  rw [fb_heldPages] at hf
  refine lv_lconst (v := 0) hx hb db_heldPages_0 (by decide) ?_
  refine lv_lstore_n (lv' := [(1, .long 0), (0, .ref (gm 0))]) hx hb db_heldPages_1 rfl hl (by decide) rfl (fun ls hl => ?_)
  refine lv_iconst (v := 0) hx hb db_heldPages_2 (by decide) ?_
  refine lv_istore_n (lv' := [(3, .int 0), (1, .long 0), (0, .ref (gm 0))]) hx hb db_heldPages_3 rfl hl (by decide) rfl (fun ls hl => ?_)
  exact wb_heldPages_4 hX hP n n _ _ _ (lv_sub hl [2, 1, 0] rfl) hf
set_option maxRecDepth 100000 in
set_option maxHeartbeats 4000000 in
theorem cb_heldPages {l : Launch} (hfl : l.flags = flags0) {D : va_G} {gm : Nat → Nat} {ca : Nat → ClassId} {st : BSt} {n : Nat} {r : Int64} (hf : fb_heldPages n st = some r) : RM l yb_heldPages rmb_heldPages D gm ca [] st (XL r) :=
  RM.of hfl (by decide +kernel) rfl mcb_heldPages (fun p e s m below meth c hX hP => wb_heldPages_0 hX hP n _ (lv_entry _ (Nat.le_of_ble_eq_true rfl)) hf)
set_option maxRecDepth 100000 in
set_option maxHeartbeats 4000000 in
theorem wb_isIn_0 {p : Program} {l : Launch} {e : Env} {s : State} {m : MethodId} {args : Array Value} {below : List Frame} {meth : Method} {c : Code} (hX : p.tables.exec = Jvm.exec ∧ c.code = kb_isIn ∧ c.maxLocals = 3 ∧ meth.sig.returnType = some .boolean ∧ meth.locks = false ∧ s.vm.findClass RB = some m.cls ∧ (∀ w ∈ lw_g, w.before args s = true) ∧ l.flags = flags0) (n : Nat) : ∀ (x0 : Int64) (x2 : Int32) {r : Int32} (ls : Array Slot), lv_has ls 3 [(0, .long x0), (2, .int x2)] → fb_isIn n x0 x2 = some r → W p l e rmb_isIn s m args below meth c s.heap [] 0 0 (MQX below (xx_Q (XI r)) args s 0 0 (fun _ => False)) (F0 m 0 ls []) := by
  obtain ⟨hx, hb, hml, hr, hlk, hown, hts, hfl⟩ := id hX
  intro x0 x2 r ls hl hf
  rw [fb_isIn] at hf
  refine lv_lload_n hx hb db_isIn_0 rfl (lv_at hl 0 rfl) ?_
  refine lv_iload_n hx hb db_isIn_1 rfl (lv_at hl 1 rfl) ?_
  refine lv_lushr hx hb db_isIn_2 rfl ?_
  refine lv_lconst (v := 1) hx hb db_isIn_3 (by decide) ?_
  refine lv_land hx hb db_isIn_4 ?_
  refine lv_lconst (v := 0) hx hb db_isIn_5 (by decide) ?_
  refine W.lcmp hx hb db_isIn_6 ?_
  refine lv_if_eq (tgt := 14) hx hb db_isIn_7 (by decide) (fun c1 => ?_) (fun c1 => ?_)
  · have hf := ifp c1 hf
    refine lv_iconst (v := 0) hx hb db_isIn_14 (by decide) ?_
    cases hf
    exact er_z hx hb hr hlk rfl db_isIn_15
  · have hf := ifn c1 hf
    refine lv_iconst (v := 1) hx hb db_isIn_10 (by decide) ?_
    refine lv_goto (tgt := 15) hx hb db_isIn_11 (by decide) ?_
    cases hf
    exact er_z hx hb hr hlk rfl db_isIn_15
set_option maxRecDepth 100000 in
set_option maxHeartbeats 4000000 in
theorem cb_isIn {l : Launch} (hfl : l.flags = flags0) {n : Nat} {x0 : Int64} {x2 : Int32} {r : Int32} (hf : fb_isIn n x0 x2 = some r) : SM l yb_isIn rmb_isIn [.long x0, .int x2] (XI r) :=
  SM.of hfl (by decide +kernel) rfl mcb_isIn (fun p e s m below meth c h1 h2 h3 h4 h5 h6 h7 => wb_isIn_0 ⟨h1, h2, h3, h4, h5, h6, h7, hfl⟩ n _ _ _ (lv_entry _ (Nat.le_of_ble_eq_true rfl)) hf)
set_option maxRecDepth 100000 in
set_option maxHeartbeats 4000000 in
theorem wb_pageNotIn_3 {p : Program} {l : Launch} {e : Env} {s : State} {m : MethodId} {args : Array Value} {below : List Frame} {meth : Method} {c : Code} {D : va_G} {gm : Nat → Nat} {ca : Nat → ClassId} {A : Nat → Prop} {st : BSt} (hX : BX p l e rmb_pageNotIn s m args meth c D ca A kb_pageNotIn 5 (some .int)) (hP : va_P D vwCl (wB gm ca st) s.heap) (n : Nat) :∀ (k : Nat), ∀ (x1 : Int64) (x4 : Int32) {r : Int32} (ls : Array Slot), lv_has ls 5 [(0, .ref (gm 0)), (1, .long x1), (4, .int x4)] → fb_pageNotIn_3 n k st x1 x4 = some r → W p l e rmb_pageNotIn s m args below meth c s.heap [] 0 0 (MQX below (xx_Q (XI r)) args s 0 0 (fun _ => False)) (F0 m 3 ls []) := by
  obtain ⟨hx, hb, hml, hr, hlk, hown, hts, hK, htr, hZ, hnh, hA, hfl⟩ := id hX
  intro k
  induction k with
  | zero =>
    intro x1 x4 r ls hl hf
    rw [fb_pageNotIn_3] at hf
    cases hf
  | succ k ih =>
    intro x1 x4 r ls hl hf
    rw [fb_pageNotIn_3] at hf
    refine lv_iload hx hb db_pageNotIn_3 (lv_at hl 2 rfl) ?_
    refine lv_aload_n hx hb db_pageNotIn_5 rfl (lv_at hl 0 rfl) ?_
    refine bg_pageCount hx hb hown hts hK hP db_pageNotIn_6 ?_
    refine lv_icmp_ge (tgt := 30) hx hb db_pageNotIn_9 (by decide) (fun c1 => ?_) (fun c1 => ?_)
    · have hf := ifp c1 hf
      refine lv_iconst (v := (-1)) hx hb db_pageNotIn_30 (by decide) ?_
      cases hf
      exact er_i hx hb hr hlk db_pageNotIn_31
    · have hf := ifn c1 hf
      refine lv_lload_n hx hb db_pageNotIn_12 rfl (lv_at hl 1 rfl) ?_
      refine lv_iload hx hb db_pageNotIn_13 (lv_at hl 2 rfl) ?_
      obtain ⟨r2, h3, hf⟩ := obs hf
      refine smI (cb_isIn (l := l) (hfl := hfl) h3) (cw_isIn hts ⟨by decide, by decide⟩) hx hb hml hown hts hl.1 rfl rfl (lv_room (Nat.le_of_ble_eq_true rfl)) db_pageNotIn_15 ⟨by decide, by decide⟩ ?_
      refine lv_if_ne (tgt := 24) hx hb db_pageNotIn_18 (by decide) (fun c4 => ?_) (fun c4 => ?_)
      · have hf := ifn c4 hf
        refine lv_iinc (v := (x4 + 1)) (lv' := [(4, .int (x4 + 1)), (0, .ref (gm 0)), (1, .long x1)]) hx hb db_pageNotIn_24 hl (k := 2) rfl rfl (by decide) rfl (fun ls hl => ?_)
        refine lv_goto (tgt := 3) hx hb db_pageNotIn_27 (by decide) ?_
        exact ih _ _ _ (lv_sub hl [1, 2, 0] rfl) hf
      · have hf := ifp c4 hf
        refine lv_iload hx hb db_pageNotIn_21 (lv_at hl 2 rfl) ?_
        cases hf
        exact er_i hx hb hr hlk db_pageNotIn_23
set_option maxRecDepth 100000 in
set_option maxHeartbeats 4000000 in
theorem wb_pageNotIn_0 {p : Program} {l : Launch} {e : Env} {s : State} {m : MethodId} {args : Array Value} {below : List Frame} {meth : Method} {c : Code} {D : va_G} {gm : Nat → Nat} {ca : Nat → ClassId} {A : Nat → Prop} {st : BSt} (hX : BX p l e rmb_pageNotIn s m args meth c D ca A kb_pageNotIn 5 (some .int)) (hP : va_P D vwCl (wB gm ca st) s.heap) (n : Nat) : ∀ (x1 : Int64) (x3 : Int32) {r : Int32} (ls : Array Slot), lv_has ls 5 [(0, .ref (gm 0)), (1, .long x1), (3, .int x3)] → fb_pageNotIn n st x1 x3 = some r → W p l e rmb_pageNotIn s m args below meth c s.heap [] 0 0 (MQX below (xx_Q (XI r)) args s 0 0 (fun _ => False)) (F0 m 0 ls []) := by
  obtain ⟨hx, hb, hml, hr, hlk, hown, hts, hK, htr, hZ, hnh, hA, hfl⟩ := id hX
  intro x1 x3 r ls hl hf
  rw [fb_pageNotIn] at hf
  refine lv_iload_n hx hb db_pageNotIn_0 rfl (lv_at hl 2 rfl) ?_
  refine lv_istore (lv' := [(4, .int x3), (0, .ref (gm 0)), (1, .long x1), (3, .int x3)]) hx hb db_pageNotIn_1 hl (by decide) rfl (fun ls hl => ?_)
  exact wb_pageNotIn_3 hX hP n n _ _ _ (lv_sub hl [1, 2, 0] rfl) hf
set_option maxRecDepth 100000 in
set_option maxHeartbeats 4000000 in
theorem cb_pageNotIn {l : Launch} (hfl : l.flags = flags0) {D : va_G} {gm : Nat → Nat} {ca : Nat → ClassId} {st : BSt} {n : Nat} {x1 : Int64} {x3 : Int32} {r : Int32} (hf : fb_pageNotIn n st x1 x3 = some r) : RM l yb_pageNotIn rmb_pageNotIn D gm ca [.long x1, .int x3] st (XI r) :=
  RM.of hfl (by decide +kernel) rfl mcb_pageNotIn (fun p e s m below meth c hX hP => wb_pageNotIn_0 hX hP n _ _ _ (lv_entry _ (Nat.le_of_ble_eq_true rfl)) hf)
set_option maxRecDepth 100000 in
set_option maxHeartbeats 4000000 in
theorem wb_saveWordsBefore_2 {p : Program} {l : Launch} {e : Env} {s : State} {m : MethodId} {args : Array Value} {below : List Frame} {meth : Method} {c : Code} {D : va_G} {gm : Nat → Nat} {ca : Nat → ClassId} {A : Nat → Prop} (hX : BX p l e rmb_saveWordsBefore s m args meth c D ca A kb_saveWordsBefore 2 (none)) (n : Nat) :∀ (k : Nat), ∀ (st : BSt) (x1 : Int32) {st' : BSt} (ls : Array Slot) (H : Heap) (locs : List Loc), BWd D gm ca A s.heap st H locs → lv_has ls 2 [(0, .ref (gm 0)), (1, .int x1)] → fb_saveWordsBefore_2 n k st x1 = some st' → W p l e rmb_saveWordsBefore s m args below meth c H locs 0 0 (MQX below (mm_Q D gm ca A (XV) st') args s 0 0 A) (F0 m 2 ls []) := by
  obtain ⟨hx, hb, hml, hr, hlk, hown, hts, hK, htr, hZ, hnh, hA, hfl⟩ := id hX
  intro k
  induction k with
  | zero =>
    intro st x1 st' ls H locs hB hl hf
    rw [fb_saveWordsBefore_2] at hf
    cases hf
  | succ k ih =>
    intro st x1 st' ls H locs hB hl hf
    rw [fb_saveWordsBefore_2] at hf
    refine lv_iload_n hx hb db_saveWordsBefore_2 rfl (lv_at hl 1 rfl) ?_
    refine lv_aload_n hx hb db_saveWordsBefore_3 rfl (lv_at hl 0 rfl) ?_
    refine bg_takenCount hx hb hown hts hK hB.1 db_saveWordsBefore_4 ?_
    refine lv_icmp_ge (tgt := 42) hx hb db_saveWordsBefore_7 (by decide) (fun c1 => ?_) (fun c1 => ?_)
    · have hf := ifp c1 hf
      refine lv_aload_n hx hb db_saveWordsBefore_42 rfl (lv_at hl 0 rfl) ?_
      refine bg_roots hx hb hown hts hK hB.1 db_saveWordsBefore_43 ?_
      refine lv_aload_n hx hb db_saveWordsBefore_46 rfl (lv_at hl 0 rfl) ?_
      refine bg_writtenRoot hx hb hown hts hK hB.1 db_saveWordsBefore_47 ?_
      refine lv_bipush (v := 20) hx hb db_saveWordsBefore_50 (by decide) ?_
      refine lv_imul hx hb db_saveWordsBefore_52 ?_
      refine lv_aload_n hx hb db_saveWordsBefore_53 rfl (lv_at hl 0 rfl) ?_
      refine bg_wordsBefore hx hb hown hts hK hB.1 db_saveWordsBefore_54 ?_
      refine lv_aload_n hx hb db_saveWordsBefore_57 rfl (lv_at hl 0 rfl) ?_
      refine bg_takenCount hx hb hown hts hK hB.1 db_saveWordsBefore_58 ?_
      refine lv_bipush (v := 16) hx hb db_saveWordsBefore_61 (by decide) ?_
      refine lv_imul hx hb db_saveWordsBefore_63 ?_
      refine lv_bipush (v := 20) hx hb db_saveWordsBefore_64 (by decide) ?_
      obtain ⟨a2, ea2, ia2, hf⟩ := cpL_some hf
      refine bc_roots_wordsBefore hx hb (hml.trans hl.1.symm) hown hts hK hB ia2 ea2 ⟨by decide, by decide +kernel⟩ db_saveWordsBefore_66 (fun H locs hB => ?_)
      cases hf
      exact em_v hx hb hr hlk hB db_saveWordsBefore_69
    · have hf := ifn c1 hf
      refine lv_aload_n hx hb db_saveWordsBefore_10 rfl (lv_at hl 0 rfl) ?_
      refine bg_pages hx hb hown hts hK hB.1 db_saveWordsBefore_11 ?_
      refine lv_aload_n hx hb db_saveWordsBefore_14 rfl (lv_at hl 0 rfl) ?_
      refine bg_takenPages hx hb hown hts hK hB.1 db_saveWordsBefore_15 ?_
      refine lv_iload_n hx hb db_saveWordsBefore_18 rfl (lv_at hl 1 rfl) ?_
      obtain ⟨r3, er3, ir3, hf⟩ := rdI_some hf
      refine bl_takenPages hx hb hK hB.1 ir3 er3 db_saveWordsBefore_19 ?_
      refine lv_bipush (v := 16) hx hb db_saveWordsBefore_20 (by decide) ?_
      refine lv_imul hx hb db_saveWordsBefore_22 ?_
      refine lv_aload_n hx hb db_saveWordsBefore_23 rfl (lv_at hl 0 rfl) ?_
      refine bg_wordsBefore hx hb hown hts hK hB.1 db_saveWordsBefore_24 ?_
      refine lv_iload_n hx hb db_saveWordsBefore_27 rfl (lv_at hl 1 rfl) ?_
      refine lv_bipush (v := 16) hx hb db_saveWordsBefore_28 (by decide) ?_
      refine lv_imul hx hb db_saveWordsBefore_30 ?_
      refine lv_bipush (v := 16) hx hb db_saveWordsBefore_31 (by decide) ?_
      obtain ⟨a4, ea4, ia4, hf⟩ := cpL_some hf
      refine bc_pages_wordsBefore hx hb (hml.trans hl.1.symm) hown hts hK hB ia4 ea4 ⟨by decide, by decide +kernel⟩ db_saveWordsBefore_33 (fun H locs hB => ?_)
      refine lv_iinc (v := (x1 + 1)) (lv' := [(1, .int (x1 + 1)), (0, .ref (gm 0))]) hx hb db_saveWordsBefore_36 hl (k := 1) rfl rfl (by decide) rfl (fun ls hl => ?_)
      refine lv_goto (tgt := 2) hx hb db_saveWordsBefore_39 (by decide) ?_
      exact ih _ _ _ _ _ hB (lv_sub hl [1, 0] rfl) hf
set_option maxRecDepth 100000 in
set_option maxHeartbeats 4000000 in
theorem wb_saveWordsBefore_0 {p : Program} {l : Launch} {e : Env} {s : State} {m : MethodId} {args : Array Value} {below : List Frame} {meth : Method} {c : Code} {D : va_G} {gm : Nat → Nat} {ca : Nat → ClassId} {A : Nat → Prop} {st : BSt} (hX : BX p l e rmb_saveWordsBefore s m args meth c D ca A kb_saveWordsBefore 2 (none)) (hB : BWd D gm ca A s.heap st s.heap []) (n : Nat) : ∀ {st' : BSt} (ls : Array Slot), lv_has ls 2 [(0, .ref (gm 0))] → fb_saveWordsBefore n st = some st' → W p l e rmb_saveWordsBefore s m args below meth c s.heap [] 0 0 (MQX below (mm_Q D gm ca A (XV) st') args s 0 0 A) (F0 m 0 ls []) := by
  obtain ⟨hx, hb, hml, hr, hlk, hown, hts, hK, htr, hZ, hnh, hA, hfl⟩ := id hX
  intro st' ls hl hf
  rw [fb_saveWordsBefore] at hf
  refine lv_iconst (v := 0) hx hb db_saveWordsBefore_0 (by decide) ?_
  refine lv_istore_n (lv' := [(1, .int 0), (0, .ref (gm 0))]) hx hb db_saveWordsBefore_1 rfl hl (by decide) rfl (fun ls hl => ?_)
  exact wb_saveWordsBefore_2 hX n n _ _ _ _ _ hB (lv_sub hl [1, 0] rfl) hf
set_option maxRecDepth 100000 in
set_option maxHeartbeats 4000000 in
theorem cb_saveWordsBefore {l : Launch} (hfl : l.flags = flags0) {D : va_G} {gm : Nat → Nat} {ca : Nat → ClassId} {st : BSt} {n : Nat} {st' : BSt} (hf : fb_saveWordsBefore n st = some st') : MM l yb_saveWordsBefore rmb_saveWordsBefore D gm ca [] st (XV) st' :=
  MM.of hfl (by decide +kernel) rfl mcb_saveWordsBefore (fun p e s m below meth c A _ hX hB => wb_saveWordsBefore_0 hX hB n _ (lv_entry _ (Nat.le_of_ble_eq_true rfl)) hf)
set_option maxRecDepth 100000 in
set_option maxHeartbeats 4000000 in
theorem wb_writeLeaf_47 {p : Program} {l : Launch} {e : Env} {s : State} {m : MethodId} {args : Array Value} {below : List Frame} {meth : Method} {c : Code} {D : va_G} {gm : Nat → Nat} {ca : Nat → ClassId} {A : Nat → Prop} (hX : BX p l e rmb_writeLeaf s m args meth c D ca A kb_writeLeaf 6 (none)) (n : Nat) :∀ (k : Nat), ∀ (st : BSt) (x1 : Int32) (x2 : Int32) (x3 : Int32) (x4 : Int32) (x5 : Int32) {st' : BSt} (ls : Array Slot) (H : Heap) (locs : List Loc), BWd D gm ca A s.heap st H locs → lv_has ls 6 [(0, .ref (gm 0)), (1, .int x1), (2, .int x2), (3, .int x3), (4, .int x4), (5, .int x5)] → fb_writeLeaf_47 n k st x1 x2 x3 x4 x5 = some st' → W p l e rmb_writeLeaf s m args below meth c H locs 0 0 (MQX below (mm_Q D gm ca A (XV) st') args s 0 0 A) (F0 m 47 ls []) := by
  obtain ⟨hx, hb, hml, hr, hlk, hown, hts, hK, htr, hZ, hnh, hA, hfl⟩ := id hX
  intro k
  induction k with
  | zero =>
    intro st x1 x2 x3 x4 x5 st' ls H locs hB hl hf
    rw [fb_writeLeaf_47] at hf
    cases hf
  | succ k ih =>
    intro st x1 x2 x3 x4 x5 st' ls H locs hB hl hf
    rw [fb_writeLeaf_47] at hf
    refine lv_iload hx hb db_writeLeaf_47 (lv_at hl 5 rfl) ?_
    refine lv_iload_n hx hb db_writeLeaf_49 rfl (lv_at hl 3 rfl) ?_
    refine lv_icmp_ge (tgt := 101) hx hb db_writeLeaf_50 (by decide) (fun c1 => ?_) (fun c1 => ?_)
    · have hf := ifp c1 hf
      refine lv_aload_n hx hb db_writeLeaf_101 rfl (lv_at hl 0 rfl) ?_
      refine bg_pages hx hb hown hts hK hB.1 db_writeLeaf_102 ?_
      refine lv_iload hx hb db_writeLeaf_105 (lv_at hl 4 rfl) ?_
      refine lv_bipush (v := 15) hx hb db_writeLeaf_107 (by decide) ?_
      refine lv_iadd hx hb db_writeLeaf_109 ?_
      refine lv_aload_n hx hb db_writeLeaf_110 rfl (lv_at hl 0 rfl) ?_
      refine bg_pages hx hb hown hts hK hB.1 db_writeLeaf_111 ?_
      refine lv_iload hx hb db_writeLeaf_114 (lv_at hl 4 rfl) ?_
      refine lv_bipush (v := 15) hx hb db_writeLeaf_116 (by decide) ?_
      obtain ⟨r2, h3, hf⟩ := obs hf
      refine saL (cb_sumOf (l := l) (hfl := hfl) h3) (cw_sumOf hts ⟨by decide, by decide⟩) hx hb hml hown hts hK hB.1 1 0 rfl rfl hl.1 rfl rfl (lv_room (Nat.le_of_ble_eq_true rfl)) db_writeLeaf_118 ⟨by decide, by decide⟩ ?_
      obtain ⟨a4, ea4, ia4, hf⟩ := wrL_some hf
      refine bt_pages hx hb hK hB ia4 ea4 db_writeLeaf_121 (fun H locs hB => ?_)
      cases hf
      exact em_v hx hb hr hlk hB db_writeLeaf_122
    · have hf := ifn c1 hf
      refine lv_aload_n hx hb db_writeLeaf_53 rfl (lv_at hl 0 rfl) ?_
      refine bg_pages hx hb hown hts hK hB.1 db_writeLeaf_54 ?_
      refine lv_iload_n hx hb db_writeLeaf_57 rfl (lv_at hl 1 rfl) ?_
      refine lv_iload hx hb db_writeLeaf_58 (lv_at hl 5 rfl) ?_
      refine lv_iload_n hx hb db_writeLeaf_60 rfl (lv_at hl 2 rfl) ?_
      refine lv_isub hx hb db_writeLeaf_61 ?_
      obtain ⟨r5, h6, hf⟩ := obs hf
      refine smI (cb_entryAt (l := l) (hfl := hfl) h6) (cw_entryAt hts ⟨by decide, by decide⟩) hx hb hml hown hts hl.1 rfl rfl (lv_room (Nat.le_of_ble_eq_true rfl)) db_writeLeaf_62 ⟨by decide, by decide⟩ ?_
      refine lv_aload_n hx hb db_writeLeaf_65 rfl (lv_at hl 0 rfl) ?_
      refine bg_draftKeys hx hb hown hts hK hB.1 db_writeLeaf_66 ?_
      refine lv_iload hx hb db_writeLeaf_69 (lv_at hl 5 rfl) ?_
      obtain ⟨r7, er7, ir7, hf⟩ := rdL_some hf
      refine bl_draftKeys hx hb hK hB.1 ir7 er7 db_writeLeaf_71 ?_
      obtain ⟨a8, ea8, ia8, hf⟩ := wrL_some hf
      refine bt_pages hx hb hK hB ia8 ea8 db_writeLeaf_72 (fun H locs hB => ?_)
      refine lv_aload_n hx hb db_writeLeaf_73 rfl (lv_at hl 0 rfl) ?_
      refine bg_pages hx hb hown hts hK hB.1 db_writeLeaf_74 ?_
      refine lv_iload_n hx hb db_writeLeaf_77 rfl (lv_at hl 1 rfl) ?_
      refine lv_iload hx hb db_writeLeaf_78 (lv_at hl 5 rfl) ?_
      refine lv_iload_n hx hb db_writeLeaf_80 rfl (lv_at hl 2 rfl) ?_
      refine lv_isub hx hb db_writeLeaf_81 ?_
      obtain ⟨r9, h10, hf⟩ := obs hf
      refine smI (cb_entryAt (l := l) (hfl := hfl) h10) (cw_entryAt hts ⟨by decide, by decide⟩) hx hb hml hown hts hl.1 rfl rfl (lv_room (Nat.le_of_ble_eq_true rfl)) db_writeLeaf_82 ⟨by decide, by decide⟩ ?_
      refine lv_iconst (v := 1) hx hb db_writeLeaf_85 (by decide) ?_
      refine lv_iadd hx hb db_writeLeaf_86 ?_
      refine lv_aload_n hx hb db_writeLeaf_87 rfl (lv_at hl 0 rfl) ?_
      refine bg_draftValues hx hb hown hts hK hB.1 db_writeLeaf_88 ?_
      refine lv_iload hx hb db_writeLeaf_91 (lv_at hl 5 rfl) ?_
      obtain ⟨r11, er11, ir11, hf⟩ := rdL_some hf
      refine bl_draftValues hx hb hK hB.1 ir11 er11 db_writeLeaf_93 ?_
      obtain ⟨a12, ea12, ia12, hf⟩ := wrL_some hf
      refine bt_pages hx hb hK hB ia12 ea12 db_writeLeaf_94 (fun H locs hB => ?_)
      refine lv_iinc (v := (x5 + 1)) (lv' := [(5, .int (x5 + 1)), (0, .ref (gm 0)), (1, .int x1), (2, .int x2), (3, .int x3), (4, .int x4)]) hx hb db_writeLeaf_95 hl (k := 5) rfl rfl (by decide) rfl (fun ls hl => ?_)
      refine lv_goto (tgt := 47) hx hb db_writeLeaf_98 (by decide) ?_
      exact ih _ _ _ _ _ _ _ _ _ hB (lv_sub hl [1, 2, 3, 4, 5, 0] rfl) hf
set_option maxRecDepth 100000 in
set_option maxHeartbeats 4000000 in
theorem wb_writeLeaf_9 {p : Program} {l : Launch} {e : Env} {s : State} {m : MethodId} {args : Array Value} {below : List Frame} {meth : Method} {c : Code} {D : va_G} {gm : Nat → Nat} {ca : Nat → ClassId} {A : Nat → Prop} (hX : BX p l e rmb_writeLeaf s m args meth c D ca A kb_writeLeaf 6 (none)) (n : Nat) :∀ (k : Nat), ∀ (st : BSt) (x1 : Int32) (x2 : Int32) (x3 : Int32) (x4 : Int32) (x5 : Int32) {st' : BSt} (ls : Array Slot) (H : Heap) (locs : List Loc), BWd D gm ca A s.heap st H locs → lv_has ls 6 [(0, .ref (gm 0)), (1, .int x1), (2, .int x2), (3, .int x3), (4, .int x4), (5, .int x5)] → fb_writeLeaf_9 n k st x1 x2 x3 x4 x5 = some st' → W p l e rmb_writeLeaf s m args below meth c H locs 0 0 (MQX below (mm_Q D gm ca A (XV) st') args s 0 0 A) (F0 m 9 ls []) := by
  obtain ⟨hx, hb, hml, hr, hlk, hown, hts, hK, htr, hZ, hnh, hA, hfl⟩ := id hX
  intro k
  induction k with
  | zero =>
    intro st x1 x2 x3 x4 x5 st' ls H locs hB hl hf
    rw [fb_writeLeaf_9] at hf
    cases hf
  | succ k ih =>
    intro st x1 x2 x3 x4 x5 st' ls H locs hB hl hf
    rw [fb_writeLeaf_9] at hf
    refine lv_iload hx hb db_writeLeaf_9 (lv_at hl 5 rfl) ?_
    refine lv_bipush (v := 16) hx hb db_writeLeaf_11 (by decide) ?_
    refine lv_icmp_ge (tgt := 33) hx hb db_writeLeaf_13 (by decide) (fun c1 => ?_) (fun c1 => ?_)
    · have hf := ifp c1 hf
      refine lv_aload_n hx hb db_writeLeaf_33 rfl (lv_at hl 0 rfl) ?_
      refine bg_pages hx hb hown hts hK hB.1 db_writeLeaf_34 ?_
      refine lv_iload hx hb db_writeLeaf_37 (lv_at hl 4 rfl) ?_
      refine lv_iload_n hx hb db_writeLeaf_39 rfl (lv_at hl 3 rfl) ?_
      refine lv_iload_n hx hb db_writeLeaf_40 rfl (lv_at hl 2 rfl) ?_
      refine lv_isub hx hb db_writeLeaf_41 ?_
      refine lv_i2l hx hb db_writeLeaf_42 rfl ?_
      obtain ⟨a2, ea2, ia2, hf⟩ := wrL_some hf
      refine bt_pages hx hb hK hB ia2 ea2 db_writeLeaf_43 (fun H locs hB => ?_)
      refine lv_iload_n hx hb db_writeLeaf_44 rfl (lv_at hl 2 rfl) ?_
      refine lv_istore (lv' := [(5, .int x2), (0, .ref (gm 0)), (1, .int x1), (2, .int x2), (3, .int x3), (4, .int x4)]) hx hb db_writeLeaf_45 hl (by decide) rfl (fun ls hl => ?_)
      exact wb_writeLeaf_47 hX n n _ _ _ _ _ _ _ _ _ hB (lv_sub hl [1, 2, 3, 4, 5, 0] rfl) hf
    · have hf := ifn c1 hf
      refine lv_aload_n hx hb db_writeLeaf_16 rfl (lv_at hl 0 rfl) ?_
      refine bg_pages hx hb hown hts hK hB.1 db_writeLeaf_17 ?_
      refine lv_iload hx hb db_writeLeaf_20 (lv_at hl 4 rfl) ?_
      refine lv_iload hx hb db_writeLeaf_22 (lv_at hl 5 rfl) ?_
      refine lv_iadd hx hb db_writeLeaf_24 ?_
      refine lv_lconst (v := 0) hx hb db_writeLeaf_25 (by decide) ?_
      obtain ⟨a3, ea3, ia3, hf⟩ := wrL_some hf
      refine bt_pages hx hb hK hB ia3 ea3 db_writeLeaf_26 (fun H locs hB => ?_)
      refine lv_iinc (v := (x5 + 1)) (lv' := [(5, .int (x5 + 1)), (0, .ref (gm 0)), (1, .int x1), (2, .int x2), (3, .int x3), (4, .int x4)]) hx hb db_writeLeaf_27 hl (k := 5) rfl rfl (by decide) rfl (fun ls hl => ?_)
      refine lv_goto (tgt := 9) hx hb db_writeLeaf_30 (by decide) ?_
      exact ih _ _ _ _ _ _ _ _ _ hB (lv_sub hl [1, 2, 3, 4, 5, 0] rfl) hf
set_option maxRecDepth 100000 in
set_option maxHeartbeats 4000000 in
theorem wb_writeLeaf_0 {p : Program} {l : Launch} {e : Env} {s : State} {m : MethodId} {args : Array Value} {below : List Frame} {meth : Method} {c : Code} {D : va_G} {gm : Nat → Nat} {ca : Nat → ClassId} {A : Nat → Prop} {st : BSt} (hX : BX p l e rmb_writeLeaf s m args meth c D ca A kb_writeLeaf 6 (none)) (hB : BWd D gm ca A s.heap st s.heap []) (n : Nat) : ∀ (x1 : Int32) (x2 : Int32) (x3 : Int32) {st' : BSt} (ls : Array Slot), lv_has ls 6 [(0, .ref (gm 0)), (1, .int x1), (2, .int x2), (3, .int x3)] → fb_writeLeaf n st x1 x2 x3 = some st' → W p l e rmb_writeLeaf s m args below meth c s.heap [] 0 0 (MQX below (mm_Q D gm ca A (XV) st') args s 0 0 A) (F0 m 0 ls []) := by
  obtain ⟨hx, hb, hml, hr, hlk, hown, hts, hK, htr, hZ, hnh, hA, hfl⟩ := id hX
  intro x1 x2 x3 st' ls hl hf
  rw [fb_writeLeaf] at hf
  refine lv_iload_n hx hb db_writeLeaf_0 rfl (lv_at hl 1 rfl) ?_
  refine lv_bipush (v := 16) hx hb db_writeLeaf_1 (by decide) ?_
  refine lv_imul hx hb db_writeLeaf_3 ?_
  refine lv_istore (lv' := [(4, .int (x1 * 16)), (0, .ref (gm 0)), (1, .int x1), (2, .int x2), (3, .int x3)]) hx hb db_writeLeaf_4 hl (by decide) rfl (fun ls hl => ?_)
  refine lv_iconst (v := 0) hx hb db_writeLeaf_6 (by decide) ?_
  refine lv_istore (lv' := [(5, .int 0), (4, .int (x1 * 16)), (0, .ref (gm 0)), (1, .int x1), (2, .int x2), (3, .int x3)]) hx hb db_writeLeaf_7 hl (by decide) rfl (fun ls hl => ?_)
  exact wb_writeLeaf_9 hX n n _ _ _ _ _ _ _ _ _ hB (lv_sub hl [2, 3, 4, 5, 1, 0] rfl) hf
set_option maxRecDepth 100000 in
set_option maxHeartbeats 4000000 in
theorem cb_writeLeaf {l : Launch} (hfl : l.flags = flags0) {D : va_G} {gm : Nat → Nat} {ca : Nat → ClassId} {st : BSt} {n : Nat} {x1 : Int32} {x2 : Int32} {x3 : Int32} {st' : BSt} (hf : fb_writeLeaf n st x1 x2 x3 = some st') : MM l yb_writeLeaf rmb_writeLeaf D gm ca [.int x1, .int x2, .int x3] st (XV) st' :=
  MM.of hfl (by decide +kernel) rfl mcb_writeLeaf (fun p e s m below meth c A _ hX hB => wb_writeLeaf_0 hX hB n _ _ _ _ (lv_entry _ (Nat.le_of_ble_eq_true rfl)) hf)
set_option maxRecDepth 100000 in
set_option maxHeartbeats 4000000 in
theorem wb_writeLeaves_23 {p : Program} {l : Launch} {e : Env} {s : State} {m : MethodId} {args : Array Value} {below : List Frame} {meth : Method} {c : Code} {D : va_G} {gm : Nat → Nat} {ca : Nat → ClassId} {A : Nat → Prop} (hX : BX p l e rmb_writeLeaves s m args meth c D ca A kb_writeLeaves 1 (none)) (n : Nat) : ∀ (st : BSt) {st' : BSt} (ls : Array Slot) (H : Heap) (locs : List Loc), BWd D gm ca A s.heap st H locs → lv_has ls 1 [(0, .ref (gm 0))] → fb_writeLeaves_23 n st = some st' → W p l e rmb_writeLeaves s m args below meth c H locs 0 0 (MQX below (mm_Q D gm ca A (XV) st') args s 0 0 A) (F0 m 23 ls []) := by
  obtain ⟨hx, hb, hml, hr, hlk, hown, hts, hK, htr, hZ, hnh, hA, hfl⟩ := id hX
  intro st st' ls H locs hB hl hf
  rw [fb_writeLeaves_23] at hf
  refine lv_aload_n hx hb db_writeLeaves_23 rfl (lv_at hl 0 rfl) ?_
  refine bg_takenCount hx hb hown hts hK hB.1 db_writeLeaves_24 ?_
  refine lv_iconst (v := 2) hx hb db_writeLeaves_27 (by decide) ?_
  refine lv_icmp_ne (tgt := 58) hx hb db_writeLeaves_28 (by decide) (fun c1 => ?_) (fun c1 => ?_)
  · have hf := ifn c1 hf
    cases hf
    exact em_v hx hb hr hlk hB db_writeLeaves_58
  · have hf := ifp c1 hf
    refine lv_aload_n hx hb db_writeLeaves_31 rfl (lv_at hl 0 rfl) ?_
    refine lv_aload_n hx hb db_writeLeaves_32 rfl (lv_at hl 0 rfl) ?_
    refine bg_takenPages hx hb hown hts hK hB.1 db_writeLeaves_33 ?_
    refine lv_iconst (v := 0) hx hb db_writeLeaves_36 (by decide) ?_
    obtain ⟨r2, er2, ir2, hf⟩ := rdI_some hf
    refine bl_takenPages hx hb hK hB.1 ir2 er2 db_writeLeaves_37 ?_
    refine lv_iconst (v := 0) hx hb db_writeLeaves_38 (by decide) ?_
    refine lv_iconst (v := 4) hx hb db_writeLeaves_39 (by decide) ?_
    obtain ⟨st3, h4, hf⟩ := obs hf
    refine mmV (cb_writeLeaf (l := l) (hfl := hfl) h4) (cw_writeLeaf hts ⟨by decide, by decide⟩) hx hb hml hown hts hK hB hZ hA hl.1 rfl rfl (lv_room (Nat.le_of_ble_eq_true rfl)) db_writeLeaves_40 ⟨by decide, by decide⟩ (fun H locs hB => ?_)
    refine lv_aload_n hx hb db_writeLeaves_43 rfl (lv_at hl 0 rfl) ?_
    refine lv_aload_n hx hb db_writeLeaves_44 rfl (lv_at hl 0 rfl) ?_
    refine bg_takenPages hx hb hown hts hK hB.1 db_writeLeaves_45 ?_
    refine lv_iconst (v := 1) hx hb db_writeLeaves_48 (by decide) ?_
    obtain ⟨r5, er5, ir5, hf⟩ := rdI_some hf
    refine bl_takenPages hx hb hK hB.1 ir5 er5 db_writeLeaves_49 ?_
    refine lv_iconst (v := 4) hx hb db_writeLeaves_50 (by decide) ?_
    refine lv_aload_n hx hb db_writeLeaves_51 rfl (lv_at hl 0 rfl) ?_
    refine bg_draftCount hx hb hown hts hK hB.1 db_writeLeaves_52 ?_
    obtain ⟨st6, h7, hf⟩ := obs hf
    refine mmV (cb_writeLeaf (l := l) (hfl := hfl) h7) (cw_writeLeaf hts ⟨by decide, by decide⟩) hx hb hml hown hts hK hB hZ hA hl.1 rfl rfl (lv_room (Nat.le_of_ble_eq_true rfl)) db_writeLeaves_55 ⟨by decide, by decide⟩ (fun H locs hB => ?_)
    cases hf
    exact em_v hx hb hr hlk hB db_writeLeaves_58
set_option maxRecDepth 100000 in
set_option maxHeartbeats 4000000 in
theorem wb_writeLeaves_0 {p : Program} {l : Launch} {e : Env} {s : State} {m : MethodId} {args : Array Value} {below : List Frame} {meth : Method} {c : Code} {D : va_G} {gm : Nat → Nat} {ca : Nat → ClassId} {A : Nat → Prop} {st : BSt} (hX : BX p l e rmb_writeLeaves s m args meth c D ca A kb_writeLeaves 1 (none)) (hB : BWd D gm ca A s.heap st s.heap []) (n : Nat) : ∀ {st' : BSt} (ls : Array Slot), lv_has ls 1 [(0, .ref (gm 0))] → fb_writeLeaves n st = some st' → W p l e rmb_writeLeaves s m args below meth c s.heap [] 0 0 (MQX below (mm_Q D gm ca A (XV) st') args s 0 0 A) (F0 m 0 ls []) := by
  obtain ⟨hx, hb, hml, hr, hlk, hown, hts, hK, htr, hZ, hnh, hA, hfl⟩ := id hX
  intro st' ls hl hf
  rw [fb_writeLeaves] at hf
  refine lv_aload_n hx hb db_writeLeaves_0 rfl (lv_at hl 0 rfl) ?_
  refine bg_takenCount hx hb hown hts hK hB.1 db_writeLeaves_1 ?_
  refine lv_iconst (v := 1) hx hb db_writeLeaves_4 (by decide) ?_
  refine lv_icmp_ne (tgt := 23) hx hb db_writeLeaves_5 (by decide) (fun c1 => ?_) (fun c1 => ?_)
  · have hf := ifn c1 hf
    exact wb_writeLeaves_23 hX n _ _ _ _ hB (lv_sub hl [0] rfl) hf
  · have hf := ifp c1 hf
    refine lv_aload_n hx hb db_writeLeaves_8 rfl (lv_at hl 0 rfl) ?_
    refine lv_aload_n hx hb db_writeLeaves_9 rfl (lv_at hl 0 rfl) ?_
    refine bg_takenPages hx hb hown hts hK hB.1 db_writeLeaves_10 ?_
    refine lv_iconst (v := 0) hx hb db_writeLeaves_13 (by decide) ?_
    obtain ⟨r2, er2, ir2, hf⟩ := rdI_some hf
    refine bl_takenPages hx hb hK hB.1 ir2 er2 db_writeLeaves_14 ?_
    refine lv_iconst (v := 0) hx hb db_writeLeaves_15 (by decide) ?_
    refine lv_aload_n hx hb db_writeLeaves_16 rfl (lv_at hl 0 rfl) ?_
    refine bg_draftCount hx hb hown hts hK hB.1 db_writeLeaves_17 ?_
    obtain ⟨st3, h4, hf⟩ := obs hf
    refine mmV (cb_writeLeaf (l := l) (hfl := hfl) h4) (cw_writeLeaf hts ⟨by decide, by decide⟩) hx hb hml hown hts hK hB hZ hA hl.1 rfl rfl (lv_room (Nat.le_of_ble_eq_true rfl)) db_writeLeaves_20 ⟨by decide, by decide⟩ (fun H locs hB => ?_)
    exact wb_writeLeaves_23 hX n _ _ _ _ hB (lv_sub hl [0] rfl) hf
set_option maxRecDepth 100000 in
set_option maxHeartbeats 4000000 in
theorem cb_writeLeaves {l : Launch} (hfl : l.flags = flags0) {D : va_G} {gm : Nat → Nat} {ca : Nat → ClassId} {st : BSt} {n : Nat} {st' : BSt} (hf : fb_writeLeaves n st = some st') : MM l yb_writeLeaves rmb_writeLeaves D gm ca [] st (XV) st' :=
  MM.of hfl (by decide +kernel) rfl mcb_writeLeaves (fun p e s m below meth c A _ hX hB => wb_writeLeaves_0 hX hB n _ (lv_entry _ (Nat.le_of_ble_eq_true rfl)) hf)
set_option maxRecDepth 100000 in
set_option maxHeartbeats 4000000 in
theorem wb_entriesOfRoot_0 {p : Program} {l : Launch} {e : Env} {s : State} {m : MethodId} {args : Array Value} {below : List Frame} {meth : Method} {c : Code} {D : va_G} {gm : Nat → Nat} {ca : Nat → ClassId} {A : Nat → Prop} {st : BSt} (hX : BX p l e rmb_entriesOfRoot s m args meth c D ca A kb_entriesOfRoot 2 (some .int)) (hP : va_P D vwCl (wB gm ca st) s.heap) (n : Nat) : ∀ (x1 : Int32) {r : Int32} (ls : Array Slot), lv_has ls 2 [(0, .ref (gm 0)), (1, .int x1)] → fb_entriesOfRoot n st x1 = some r → W p l e rmb_entriesOfRoot s m args below meth c s.heap [] 0 0 (MQX below (xx_Q (XI r)) args s 0 0 (fun _ => False)) (F0 m 0 ls []) := by
  obtain ⟨hx, hb, hml, hr, hlk, hown, hts, hK, htr, hZ, hnh, hA, hfl⟩ := id hX
  intro x1 r ls hl hf
  rw [fb_entriesOfRoot] at hf
  refine lv_aload_n hx hb db_entriesOfRoot_0 rfl (lv_at hl 0 rfl) ?_
  refine bg_roots hx hb hown hts hK hP db_entriesOfRoot_1 ?_
  refine lv_iload_n hx hb db_entriesOfRoot_4 rfl (lv_at hl 1 rfl) ?_
  refine lv_bipush (v := 20) hx hb db_entriesOfRoot_5 (by decide) ?_
  refine lv_imul hx hb db_entriesOfRoot_7 ?_
  refine lv_bipush (v := 18) hx hb db_entriesOfRoot_8 (by decide) ?_
  refine lv_iadd hx hb db_entriesOfRoot_10 ?_
  obtain ⟨r1, er1, ir1, hf⟩ := rdL_some hf
  refine bl_roots hx hb hK hP ir1 er1 db_entriesOfRoot_11 ?_
  refine lv_l2i hx hb db_entriesOfRoot_12 rfl ?_
  cases hf
  exact er_i hx hb hr hlk db_entriesOfRoot_13
set_option maxRecDepth 100000 in
set_option maxHeartbeats 4000000 in
theorem cb_entriesOfRoot {l : Launch} (hfl : l.flags = flags0) {D : va_G} {gm : Nat → Nat} {ca : Nat → ClassId} {st : BSt} {n : Nat} {x1 : Int32} {r : Int32} (hf : fb_entriesOfRoot n st x1 = some r) : RM l yb_entriesOfRoot rmb_entriesOfRoot D gm ca [.int x1] st (XI r) :=
  RM.of hfl (by decide +kernel) rfl mcb_entriesOfRoot (fun p e s m below meth c hX hP => wb_entriesOfRoot_0 hX hP n _ _ (lv_entry _ (Nat.le_of_ble_eq_true rfl)) hf)
