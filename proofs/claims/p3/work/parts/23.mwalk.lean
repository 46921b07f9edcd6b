set_option maxRecDepth 100000 in
set_option maxHeartbeats 4000000 in
theorem wm_sum_5 {p : Program} {l : Launch} {e : Env} {s : State} {m : MethodId} {args : Array Value} {below : List Frame} {meth : Method} {c : Code} {D : va_G} {gm : Nat → Nat} {ca : Nat → ClassId} {A : Nat → Prop} {st : MSt} (hX : MX p l e rmm_sum s m args meth c D ca A km_sum 8 (some .long)) (hP : va_P D vwCl (wM gm ca st) s.heap) (n : Nat) :∀ (k : Nat), ∀ (x1 : Int32) (x2 : Int32) (x3 : Int64) (x5 : Int32) {r : Int64} (ls : Array Slot), lv_has ls 8 [(0, .ref (gm 0)), (1, .int x1), (2, .int x2), (3, .long x3), (5, .int x5)] → fm_sum_5 n k st x1 x2 x3 x5 = some r → W p l e rmm_sum s m args below meth c s.heap [] 0 0 (MQX below (xx_Q (XL r)) args s 0 0 (fun _ => False)) (F0 m 5 ls []) := by
  obtain ⟨hx, hb, hml, hr, hlk, hown, hts, hK, htr, hZ, hnh, hA, hfl⟩ := id hX
  intro k
  induction k with
  | zero =>
    intro x1 x2 x3 x5 r ls hl hf
    rw [fm_sum_5] at hf
    cases hf
  | succ k ih =>
    intro x1 x2 x3 x5 r ls hl hf
    rw [fm_sum_5] at hf
    refine lv_iload hx hb dm_sum_5 (lv_at hl 4 rfl) ?_
    refine lv_iload_n hx hb dm_sum_7 rfl (lv_at hl 2 rfl) ?_
    refine lv_icmp_ge (tgt := 45) hx hb dm_sum_8 (by decide) (fun c1 => ?_) (fun c1 => ?_)
    · have hf := ifp c1 hf
      refine lv_lload_n hx hb dm_sum_45 rfl (lv_at hl 3 rfl) ?_
      refine lv_lconst (v := 1) hx hb dm_sum_46 (by decide) ?_
      refine lv_lxor hx hb dm_sum_47 ?_
      cases hf
      exact er_l hx hb hr hlk dm_sum_48
    · have hf := ifn c1 hf
      refine lv_lload_n hx hb dm_sum_11 rfl (lv_at hl 3 rfl) ?_
      refine lv_aload_n hx hb dm_sum_12 rfl (lv_at hl 0 rfl) ?_
      refine qbg_words hx hb hown hts hK hP dm_sum_13 ?_
      refine lv_iload_n hx hb dm_sum_16 rfl (lv_at hl 1 rfl) ?_
      refine lv_iload hx hb dm_sum_17 (lv_at hl 4 rfl) ?_
      refine lv_iadd hx hb dm_sum_19 ?_
      obtain ⟨r2, er2, ir2, hf⟩ := rdL_some hf
      refine qbl_words hx hb hK hP ir2 er2 dm_sum_20 ?_
      refine lv_lxor hx hb dm_sum_21 ?_
      refine lv_lstore (lv' := [(6, .long (x3 ^^^ r2)), (0, .ref (gm 0)), (1, .int x1), (2, .int x2), (3, .long x3), (5, .int x5)]) hx hb dm_sum_22 hl (by decide) rfl (fun ls hl => ?_)
      refine lv_lload hx hb dm_sum_24 (lv_at hl 0 rfl) ?_
      refine lv_iconst (v := 5) hx hb dm_sum_26 (by decide) ?_
      refine lv_lshl hx hb dm_sum_27 rfl ?_
      refine lv_lload hx hb dm_sum_28 (lv_at hl 0 rfl) ?_
      refine lv_bipush (v := 59) hx hb dm_sum_30 (by decide) ?_
      refine lv_lushr hx hb dm_sum_32 rfl ?_
      refine lv_lor hx hb dm_sum_33 ?_
      refine lv_ldc2 (v := (-7046029254386353131)) hx hb hown (kcm_47 hts) dm_sum_34 ?_
      refine lv_lmul hx hb dm_sum_37 ?_
      refine lv_lstore_n (lv' := [(3, .long ((((x3 ^^^ r2) <<< ((5 : Int32).toInt64 &&& 63)) ||| ((x3 ^^^ r2).toUInt64 >>> ((59 : Int32).toInt64.toUInt64 &&& Int64.toUInt64 63)).toInt64) * (-7046029254386353131))), (6, .long (x3 ^^^ r2)), (0, .ref (gm 0)), (1, .int x1), (2, .int x2), (5, .int x5)]) hx hb dm_sum_38 rfl hl (by decide) rfl (fun ls hl => ?_)
      refine lv_iinc (v := (x5 + 1)) (lv' := [(5, .int (x5 + 1)), (3, .long ((((x3 ^^^ r2) <<< ((5 : Int32).toInt64 &&& 63)) ||| ((x3 ^^^ r2).toUInt64 >>> ((59 : Int32).toInt64.toUInt64 &&& Int64.toUInt64 63)).toInt64) * (-7046029254386353131))), (6, .long (x3 ^^^ r2)), (0, .ref (gm 0)), (1, .int x1), (2, .int x2)]) hx hb dm_sum_39 hl (k := 5) rfl rfl (by decide) rfl (fun ls hl => ?_)
      refine lv_goto (tgt := 5) hx hb dm_sum_42 (by decide) ?_
      exact ih _ _ _ _ _ (lv_sub hl [3, 4, 5, 1, 0] rfl) hf
set_option maxRecDepth 100000 in
set_option maxHeartbeats 4000000 in
theorem wm_sum_0 {p : Program} {l : Launch} {e : Env} {s : State} {m : MethodId} {args : Array Value} {below : List Frame} {meth : Method} {c : Code} {D : va_G} {gm : Nat → Nat} {ca : Nat → ClassId} {A : Nat → Prop} {st : MSt} (hX : MX p l e rmm_sum s m args meth c D ca A km_sum 8 (some .long)) (hP : va_P D vwCl (wM gm ca st) s.heap) (n : Nat) : ∀ (x1 : Int32) (x2 : Int32) {r : Int64} (ls : Array Slot), lv_has ls 8 [(0, .ref (gm 0)), (1, .int x1), (2, .int x2)] → fm_sum n st x1 x2 = some r → W p l e rmm_sum s m args below meth c s.heap [] 0 0 (MQX below (xx_Q (XL r)) args s 0 0 (fun _ => False)) (F0 m 0 ls []) := by
  obtain ⟨hx, hb, hml, hr, hlk, hown, hts, hK, htr, hZ, hnh, hA, hfl⟩ := id hX
  intro x1 x2 r ls hl hf
  rw [fm_sum] at hf
  refine lv_lconst (v := 0) hx hb dm_sum_0 (by decide) ?_
  refine lv_lstore_n (lv' := [(3, .long 0), (0, .ref (gm 0)), (1, .int x1), (2, .int x2)]) hx hb dm_sum_1 rfl hl (by decide) rfl (fun ls hl => ?_)
  refine lv_iconst (v := 0) hx hb dm_sum_2 (by decide) ?_
  refine lv_istore (lv' := [(5, .int 0), (3, .long 0), (0, .ref (gm 0)), (1, .int x1), (2, .int x2)]) hx hb dm_sum_3 hl (by decide) rfl (fun ls hl => ?_)
  exact wm_sum_5 hX hP n n _ _ _ _ _ (lv_sub hl [2, 3, 4, 1, 0] rfl) hf
set_option maxRecDepth 100000 in
set_option maxHeartbeats 4000000 in
theorem cq_sum {l : Launch} (hfl : l.flags = flags0) {D : va_G} {gm : Nat → Nat} {ca : Nat → ClassId} {st : MSt} {n : Nat} {x1 : Int32} {x2 : Int32} {r : Int64} (hf : fm_sum n st x1 x2 = some r) : RMm l ym_sum rmm_sum D gm ca [.int x1, .int x2] st (XL r) :=
  RMm.of hfl (by decide +kernel) rfl mcm_sum (fun p e s m below meth c hX hP => wm_sum_0 hX hP n _ _ _ (lv_entry _ (Nat.le_of_ble_eq_true rfl)) hf)
set_option maxRecDepth 100000 in
set_option maxHeartbeats 4000000 in
theorem wm_thrown_0 {p : Program} {l : Launch} {e : Env} {s : State} {m : MethodId} {args : Array Value} {below : List Frame} {meth : Method} {c : Code} {D : va_G} {gm : Nat → Nat} {ca : Nat → ClassId} {A : Nat → Prop} {st : MSt} (hX : MX p l e rmm_thrown s m args meth c D ca A km_thrown 1 (some .int)) (hP : va_P D vwCl (wM gm ca st) s.heap) (n : Nat) : ∀ {r : Int32} (ls : Array Slot), lv_has ls 1 [(0, .ref (gm 0))] → fm_thrown n st = some r → W p l e rmm_thrown s m args below meth c s.heap [] 0 0 (MQX below (xx_Q (XI r)) args s 0 0 (fun _ => False)) (F0 m 0 ls []) := by
  obtain ⟨hx, hb, hml, hr, hlk, hown, hts, hK, htr, hZ, hnh, hA, hfl⟩ := id hX
  intro r ls hl hf
  rw [fm_thrown] at hf
  refine lv_aload_n hx hb dm_thrown_0 rfl (lv_at hl 0 rfl) ?_
  refine qbg_thrown hx hb hown hts hK hP dm_thrown_1 ?_
  cases hf
  exact er_i hx hb hr hlk dm_thrown_4
set_option maxRecDepth 100000 in
set_option maxHeartbeats 4000000 in
theorem cq_thrown {l : Launch} (hfl : l.flags = flags0) {D : va_G} {gm : Nat → Nat} {ca : Nat → ClassId} {st : MSt} {n : Nat} {r : Int32} (hf : fm_thrown n st = some r) : RMm l ym_thrown rmm_thrown D gm ca [] st (XI r) :=
  RMm.of hfl (by decide +kernel) rfl mcm_thrown (fun p e s m below meth c hX hP => wm_thrown_0 hX hP n _ (lv_entry _ (Nat.le_of_ble_eq_true rfl)) hf)
set_option maxRecDepth 100000 in
set_option maxHeartbeats 4000000 in
theorem wm_isIn_0 {p : Program} {l : Launch} {e : Env} {s : State} {m : MethodId} {args : Array Value} {below : List Frame} {meth : Method} {c : Code} (hX : p.tables.exec = Jvm.exec ∧ c.code = km_isIn ∧ c.maxLocals = 6 ∧ meth.sig.returnType = some .boolean ∧ meth.locks = false ∧ s.vm.findClass RMo = some m.cls ∧ (∀ w ∈ lw_g, w.before args s = true) ∧ l.flags = flags0) (n : Nat) : ∀ (x0 : Int64) (x2 : Int64) (x4 : Int64) {r : Int32} (ls : Array Slot), lv_has ls 6 [(0, .long x0), (2, .long x2), (4, .long x4)] → fm_isIn n x0 x2 x4 = some r → W p l e rmm_isIn s m args below meth c s.heap [] 0 0 (MQX below (xx_Q (XI r)) args s 0 0 (fun _ => False)) (F0 m 0 ls []) := by
  obtain ⟨hx, hb, hml, hr, hlk, hown, hts, hfl⟩ := id hX
  intro x0 x2 x4 r ls hl hf
  rw [fm_isIn] at hf
  refine lv_lload_n hx hb dm_isIn_0 rfl (lv_at hl 0 rfl) ?_
  refine lv_lload_n hx hb dm_isIn_1 rfl (lv_at hl 1 rfl) ?_
  refine W.lcmp hx hb dm_isIn_2 ?_
  refine lv_if_lt (tgt := 17) hx hb dm_isIn_3 (by decide) (fun c1 => ?_) (fun c1 => ?_)
  · have hf := ifp c1 hf
    refine lv_iconst (v := 0) hx hb dm_isIn_17 (by decide) ?_
    cases hf
    exact er_z hx hb hr hlk rfl dm_isIn_18
  · have hf := ifn c1 hf
    refine lv_lload_n hx hb dm_isIn_6 rfl (lv_at hl 0 rfl) ?_
    refine lv_lload hx hb dm_isIn_7 (lv_at hl 2 rfl) ?_
    refine W.lcmp hx hb dm_isIn_9 ?_
    refine lv_if_gt (tgt := 17) hx hb dm_isIn_10 (by decide) (fun c2 => ?_) (fun c2 => ?_)
    · have hf := ifp c2 hf
      refine lv_iconst (v := 0) hx hb dm_isIn_17 (by decide) ?_
      cases hf
      exact er_z hx hb hr hlk rfl dm_isIn_18
    · have hf := ifn c2 hf
      refine lv_iconst (v := 1) hx hb dm_isIn_13 (by decide) ?_
      refine lv_goto (tgt := 18) hx hb dm_isIn_14 (by decide) ?_
      cases hf
      exact er_z hx hb hr hlk rfl dm_isIn_18
set_option maxRecDepth 100000 in
set_option maxHeartbeats 4000000 in
theorem cq_isIn {l : Launch} (hfl : l.flags = flags0) {n : Nat} {x0 : Int64} {x2 : Int64} {x4 : Int64} {r : Int32} (hf : fm_isIn n x0 x2 x4 = some r) : SM l ym_isIn rmm_isIn [.long x0, .long x2, .long x4] (XI r) :=
  SM.of hfl (by decide +kernel) rfl mcm_isIn (fun p e s m below meth c h1 h2 h3 h4 h5 h6 h7 => wm_isIn_0 ⟨h1, h2, h3, h4, h5, h6, h7, hfl⟩ n _ _ _ _ (lv_entry _ (Nat.le_of_ble_eq_true rfl)) hf)
set_option maxRecDepth 100000 in
set_option maxHeartbeats 4000000 in
theorem wm_isRight_55 {p : Program} {l : Launch} {e : Env} {s : State} {m : MethodId} {args : Array Value} {below : List Frame} {meth : Method} {c : Code} {D : va_G} {gm : Nat → Nat} {ca : Nat → ClassId} {A : Nat → Prop} {st : MSt} (hX : MX p l e rmm_isRight s m args meth c D ca A km_isRight 9 (some .boolean)) (hP : va_P D vwCl (wM gm ca st) s.heap) (n : Nat) :∀ (k : Nat), ∀ (x2 : Int32) (x3 : Int32) (x4 : Int64) (x6 : Int32) {r : Int32} (ls : Array Slot), lv_has ls 9 [(0, .ref (gm 0)), (2, .int x2), (3, .int x3), (4, .long x4), (6, .int x6)] → fm_isRight_55 n k st x2 x3 x4 x6 = some r → W p l e rmm_isRight s m args below meth c s.heap [] 0 0 (MQX below (xx_Q (XI r)) args s 0 0 (fun _ => False)) (F0 m 55 ls []) := by
  obtain ⟨hx, hb, hml, hr, hlk, hown, hts, hK, htr, hZ, hnh, hA, hfl⟩ := id hX
  intro k
  induction k with
  | zero =>
    intro x2 x3 x4 x6 r ls hl hf
    rw [fm_isRight_55] at hf
    cases hf
  | succ k ih =>
    intro x2 x3 x4 x6 r ls hl hf
    rw [fm_isRight_55] at hf
    refine lv_iload_n hx hb dm_isRight_55 rfl (lv_at hl 2 rfl) ?_
    refine lv_if_eq (tgt := 120) hx hb dm_isRight_56 (by decide) (fun c1 => ?_) (fun c1 => ?_)
    · have hf := ifp c1 hf
      refine lv_iload_n hx hb dm_isRight_120 rfl (lv_at hl 2 rfl) ?_
      obtain ⟨_, hzb, hf⟩ := obs hf
      cases hf
      exact er_z hx hb hr hlk (zb_ok hzb) dm_isRight_121
    · have hf := ifn c1 hf
      refine lv_iload hx hb dm_isRight_59 (lv_at hl 4 rfl) ?_
      refine lv_i2l hx hb dm_isRight_61 rfl ?_
      refine lv_aload_n hx hb dm_isRight_62 rfl (lv_at hl 0 rfl) ?_
      refine qbg_words hx hb hown hts hK hP dm_isRight_63 ?_
      refine lv_iload_n hx hb dm_isRight_66 rfl (lv_at hl 1 rfl) ?_
      obtain ⟨r2, er2, ir2, hf⟩ := rdL_some hf
      refine qbl_words hx hb hK hP ir2 er2 dm_isRight_67 ?_
      refine W.lcmp hx hb dm_isRight_68 ?_
      refine lv_if_ge (tgt := 120) hx hb dm_isRight_69 (by decide) (fun c3 => ?_) (fun c3 => ?_)
      · have hf := ifp c3 hf
        refine lv_iload_n hx hb dm_isRight_120 rfl (lv_at hl 2 rfl) ?_
        obtain ⟨_, hzb, hf⟩ := obs hf
        cases hf
        exact er_z hx hb hr hlk (zb_ok hzb) dm_isRight_121
      · have hf := ifn c3 hf
        refine lv_aload_n hx hb dm_isRight_72 rfl (lv_at hl 0 rfl) ?_
        refine qbg_words hx hb hown hts hK hP dm_isRight_73 ?_
        refine lv_iload_n hx hb dm_isRight_76 rfl (lv_at hl 1 rfl) ?_
        refine lv_iconst (v := 1) hx hb dm_isRight_77 (by decide) ?_
        refine lv_iadd hx hb dm_isRight_78 ?_
        refine lv_iconst (v := 2) hx hb dm_isRight_79 (by decide) ?_
        refine lv_iload hx hb dm_isRight_80 (lv_at hl 4 rfl) ?_
        refine lv_imul hx hb dm_isRight_82 ?_
        refine lv_iadd hx hb dm_isRight_83 ?_
        obtain ⟨r4, er4, ir4, hf⟩ := rdL_some hf
        refine qbl_words hx hb hK hP ir4 er4 dm_isRight_84 ?_
        refine lv_lstore (lv' := [(7, .long r4), (0, .ref (gm 0)), (2, .int x2), (3, .int x3), (4, .long x4), (6, .int x6)]) hx hb dm_isRight_85 hl (by decide) rfl (fun ls hl => ?_)
        refine lv_lload hx hb dm_isRight_87 (lv_at hl 0 rfl) ?_
        refine lv_lload hx hb dm_isRight_89 (lv_at hl 4 rfl) ?_
        refine W.lcmp hx hb dm_isRight_91 ?_
        refine lv_if_le (tgt := 108) hx hb dm_isRight_92 (by decide) (fun c5 => ?_) (fun c5 => ?_)
        · have hf := ifp c5 hf
          refine lv_iconst (v := 0) hx hb dm_isRight_108 (by decide) ?_
          refine lv_istore_n (lv' := [(3, .int 0), (7, .long r4), (0, .ref (gm 0)), (2, .int x2), (4, .long x4), (6, .int x6)]) hx hb dm_isRight_109 rfl hl (by decide) rfl (fun ls hl => ?_)
          refine lv_lload hx hb dm_isRight_110 (lv_at hl 1 rfl) ?_
          refine lv_lstore (lv' := [(4, .long r4), (3, .int 0), (7, .long r4), (0, .ref (gm 0)), (2, .int x2), (6, .int x6)]) hx hb dm_isRight_112 hl (by decide) rfl (fun ls hl => ?_)
          refine lv_iinc (v := (x6 + 1)) (lv' := [(6, .int (x6 + 1)), (4, .long r4), (3, .int 0), (7, .long r4), (0, .ref (gm 0)), (2, .int x2)]) hx hb dm_isRight_114 hl (k := 5) rfl rfl (by decide) rfl (fun ls hl => ?_)
          refine lv_goto (tgt := 55) hx hb dm_isRight_117 (by decide) ?_
          exact ih _ _ _ _ _ (lv_sub hl [4, 5, 2, 1, 0] rfl) hf
        · have hf := ifn c5 hf
          refine lv_lload hx hb dm_isRight_95 (lv_at hl 0 rfl) ?_
          refine lv_ldc2 (v := 1000000) hx hb hown (kcm_57 hts) dm_isRight_97 ?_
          refine W.lcmp hx hb dm_isRight_100 ?_
          refine lv_if_gt (tgt := 108) hx hb dm_isRight_101 (by decide) (fun c6 => ?_) (fun c6 => ?_)
          · have hf := ifp c6 hf
            refine lv_iconst (v := 0) hx hb dm_isRight_108 (by decide) ?_
            refine lv_istore_n (lv' := [(3, .int 0), (7, .long r4), (0, .ref (gm 0)), (2, .int x2), (4, .long x4), (6, .int x6)]) hx hb dm_isRight_109 rfl hl (by decide) rfl (fun ls hl => ?_)
            refine lv_lload hx hb dm_isRight_110 (lv_at hl 1 rfl) ?_
            refine lv_lstore (lv' := [(4, .long r4), (3, .int 0), (7, .long r4), (0, .ref (gm 0)), (2, .int x2), (6, .int x6)]) hx hb dm_isRight_112 hl (by decide) rfl (fun ls hl => ?_)
            refine lv_iinc (v := (x6 + 1)) (lv' := [(6, .int (x6 + 1)), (4, .long r4), (3, .int 0), (7, .long r4), (0, .ref (gm 0)), (2, .int x2)]) hx hb dm_isRight_114 hl (k := 5) rfl rfl (by decide) rfl (fun ls hl => ?_)
            refine lv_goto (tgt := 55) hx hb dm_isRight_117 (by decide) ?_
            exact ih _ _ _ _ _ (lv_sub hl [4, 5, 2, 1, 0] rfl) hf
          · have hf := ifn c6 hf
            refine lv_iconst (v := 1) hx hb dm_isRight_104 (by decide) ?_
            refine lv_goto (tgt := 109) hx hb dm_isRight_105 (by decide) ?_
            refine lv_istore_n (lv' := [(3, .int 1), (7, .long r4), (0, .ref (gm 0)), (2, .int x2), (4, .long x4), (6, .int x6)]) hx hb dm_isRight_109 rfl hl (by decide) rfl (fun ls hl => ?_)
            refine lv_lload hx hb dm_isRight_110 (lv_at hl 1 rfl) ?_
            refine lv_lstore (lv' := [(4, .long r4), (3, .int 1), (7, .long r4), (0, .ref (gm 0)), (2, .int x2), (6, .int x6)]) hx hb dm_isRight_112 hl (by decide) rfl (fun ls hl => ?_)
            refine lv_iinc (v := (x6 + 1)) (lv' := [(6, .int (x6 + 1)), (4, .long r4), (3, .int 1), (7, .long r4), (0, .ref (gm 0)), (2, .int x2)]) hx hb dm_isRight_114 hl (k := 5) rfl rfl (by decide) rfl (fun ls hl => ?_)
            refine lv_goto (tgt := 55) hx hb dm_isRight_117 (by decide) ?_
            exact ih _ _ _ _ _ (lv_sub hl [4, 5, 2, 1, 0] rfl) hf
set_option maxRecDepth 100000 in
set_option maxHeartbeats 4000000 in
theorem wm_isRight_0 {p : Program} {l : Launch} {e : Env} {s : State} {m : MethodId} {args : Array Value} {below : List Frame} {meth : Method} {c : Code} {D : va_G} {gm : Nat → Nat} {ca : Nat → ClassId} {A : Nat → Prop} {st : MSt} (hX : MX p l e rmm_isRight s m args meth c D ca A km_isRight 9 (some .boolean)) (hP : va_P D vwCl (wM gm ca st) s.heap) (n : Nat) : ∀ (x1 : Int32) {r : Int32} (ls : Array Slot), lv_has ls 9 [(0, .ref (gm 0)), (1, .int x1)] → fm_isRight n st x1 = some r → W p l e rmm_isRight s m args below meth c s.heap [] 0 0 (MQX below (xx_Q (XI r)) args s 0 0 (fun _ => False)) (F0 m 0 ls []) := by
  obtain ⟨hx, hb, hml, hr, hlk, hown, hts, hK, htr, hZ, hnh, hA, hfl⟩ := id hX
  intro x1 r ls hl hf
  rw [fm_isRight] at hf
  refine lv_bipush (v := 16) hx hb dm_isRight_0 (by decide) ?_
  refine lv_iload_n hx hb dm_isRight_2 rfl (lv_at hl 1 rfl) ?_
  refine lv_imul hx hb dm_isRight_3 ?_
  refine lv_istore_n (lv' := [(2, .int (16 * x1)), (0, .ref (gm 0)), (1, .int x1)]) hx hb dm_isRight_4 rfl hl (by decide) rfl (fun ls hl => ?_)
  refine lv_aload_n hx hb dm_isRight_5 rfl (lv_at hl 1 rfl) ?_
  refine qbg_words hx hb hown hts hK hP dm_isRight_6 ?_
  refine lv_iload_n hx hb dm_isRight_9 rfl (lv_at hl 0 rfl) ?_
  refine lv_bipush (v := 15) hx hb dm_isRight_10 (by decide) ?_
  refine lv_iadd hx hb dm_isRight_12 ?_
  obtain ⟨r1, er1, ir1, hf⟩ := rdL_some hf
  refine qbl_words hx hb hK hP ir1 er1 dm_isRight_13 ?_
  refine lv_aload_n hx hb dm_isRight_14 rfl (lv_at hl 1 rfl) ?_
  refine lv_iload_n hx hb dm_isRight_15 rfl (lv_at hl 0 rfl) ?_
  refine lv_bipush (v := 15) hx hb dm_isRight_16 (by decide) ?_
  obtain ⟨r2, h3, hf⟩ := obs hf
  refine qrmL (cq_sum (l := l) (hfl := hfl) h3) (cw_m_sum hts ⟨by decide, by decide⟩) hx hb hml hown hts hK hP va_S.rf hZ hl.1 rfl rfl (lv_room (Nat.le_of_ble_eq_true rfl)) dm_isRight_18 ⟨by decide, by decide⟩ ?_
  refine W.lcmp hx hb dm_isRight_21 ?_
  refine lv_if_ne (tgt := 45) hx hb dm_isRight_22 (by decide) (fun c4 => ?_) (fun c4 => ?_)
  · have hf := ifn c4 hf
    refine lv_iconst (v := 0) hx hb dm_isRight_45 (by decide) ?_
    refine lv_istore_n (lv' := [(3, .int 0), (2, .int (16 * x1)), (0, .ref (gm 0)), (1, .int x1)]) hx hb dm_isRight_46 rfl hl (by decide) rfl (fun ls hl => ?_)
    refine lv_ldc2 (v := (-1)) hx hb hown (kcm_55 hts) dm_isRight_47 ?_
    refine lv_lstore (lv' := [(4, .long (-1)), (3, .int 0), (2, .int (16 * x1)), (0, .ref (gm 0)), (1, .int x1)]) hx hb dm_isRight_50 hl (by decide) rfl (fun ls hl => ?_)
    refine lv_iconst (v := 0) hx hb dm_isRight_52 (by decide) ?_
    refine lv_istore (lv' := [(6, .int 0), (4, .long (-1)), (3, .int 0), (2, .int (16 * x1)), (0, .ref (gm 0)), (1, .int x1)]) hx hb dm_isRight_53 hl (by decide) rfl (fun ls hl => ?_)
    exact wm_isRight_55 hX hP n n _ _ _ _ _ (lv_sub hl [4, 3, 2, 1, 0] rfl) hf
  · have hf := ifp c4 hf
    refine lv_aload_n hx hb dm_isRight_25 rfl (lv_at hl 1 rfl) ?_
    refine qbg_words hx hb hown hts hK hP dm_isRight_26 ?_
    refine lv_iload_n hx hb dm_isRight_29 rfl (lv_at hl 0 rfl) ?_
    obtain ⟨r5, er5, ir5, hf⟩ := rdL_some hf
    refine qbl_words hx hb hK hP ir5 er5 dm_isRight_30 ?_
    refine lv_lconst (v := 0) hx hb dm_isRight_31 (by decide) ?_
    refine lv_ldc2 (v := 7) hx hb hown (kcm_49 hts) dm_isRight_32 ?_
    obtain ⟨r6, h7, hf⟩ := obs hf
    refine smI (cq_isIn (l := l) (hfl := hfl) h7) (cw_m_isIn hts ⟨by decide, by decide⟩) hx hb hml hown hts hl.1 rfl rfl (lv_room (Nat.le_of_ble_eq_true rfl)) dm_isRight_35 ⟨by decide, by decide⟩ ?_
    refine lv_if_eq (tgt := 45) hx hb dm_isRight_38 (by decide) (fun c8 => ?_) (fun c8 => ?_)
    · have hf := ifp c8 hf
      refine lv_iconst (v := 0) hx hb dm_isRight_45 (by decide) ?_
      refine lv_istore_n (lv' := [(3, .int 0), (2, .int (16 * x1)), (0, .ref (gm 0)), (1, .int x1)]) hx hb dm_isRight_46 rfl hl (by decide) rfl (fun ls hl => ?_)
      refine lv_ldc2 (v := (-1)) hx hb hown (kcm_55 hts) dm_isRight_47 ?_
      refine lv_lstore (lv' := [(4, .long (-1)), (3, .int 0), (2, .int (16 * x1)), (0, .ref (gm 0)), (1, .int x1)]) hx hb dm_isRight_50 hl (by decide) rfl (fun ls hl => ?_)
      refine lv_iconst (v := 0) hx hb dm_isRight_52 (by decide) ?_
      refine lv_istore (lv' := [(6, .int 0), (4, .long (-1)), (3, .int 0), (2, .int (16 * x1)), (0, .ref (gm 0)), (1, .int x1)]) hx hb dm_isRight_53 hl (by decide) rfl (fun ls hl => ?_)
      exact wm_isRight_55 hX hP n n _ _ _ _ _ (lv_sub hl [4, 3, 2, 1, 0] rfl) hf
    · have hf := ifn c8 hf
      refine lv_iconst (v := 1) hx hb dm_isRight_41 (by decide) ?_
      refine lv_goto (tgt := 46) hx hb dm_isRight_42 (by decide) ?_
      refine lv_istore_n (lv' := [(3, .int 1), (2, .int (16 * x1)), (0, .ref (gm 0)), (1, .int x1)]) hx hb dm_isRight_46 rfl hl (by decide) rfl (fun ls hl => ?_)
      refine lv_ldc2 (v := (-1)) hx hb hown (kcm_55 hts) dm_isRight_47 ?_
      refine lv_lstore (lv' := [(4, .long (-1)), (3, .int 1), (2, .int (16 * x1)), (0, .ref (gm 0)), (1, .int x1)]) hx hb dm_isRight_50 hl (by decide) rfl (fun ls hl => ?_)
      refine lv_iconst (v := 0) hx hb dm_isRight_52 (by decide) ?_
      refine lv_istore (lv' := [(6, .int 0), (4, .long (-1)), (3, .int 1), (2, .int (16 * x1)), (0, .ref (gm 0)), (1, .int x1)]) hx hb dm_isRight_53 hl (by decide) rfl (fun ls hl => ?_)
      exact wm_isRight_55 hX hP n n _ _ _ _ _ (lv_sub hl [4, 3, 2, 1, 0] rfl) hf
set_option maxRecDepth 100000 in
set_option maxHeartbeats 4000000 in
theorem cq_isRight {l : Launch} (hfl : l.flags = flags0) {D : va_G} {gm : Nat → Nat} {ca : Nat → ClassId} {st : MSt} {n : Nat} {x1 : Int32} {r : Int32} (hf : fm_isRight n st x1 = some r) : RMm l ym_isRight rmm_isRight D gm ca [.int x1] st (XI r) :=
  RMm.of hfl (by decide +kernel) rfl mcm_isRight (fun p e s m below meth c hX hP => wm_isRight_0 hX hP n _ _ (lv_entry _ (Nat.le_of_ble_eq_true rfl)) hf)
set_option maxRecDepth 100000 in
set_option maxHeartbeats 4000000 in
theorem wm_isSound_28 {p : Program} {l : Launch} {e : Env} {s : State} {m : MethodId} {args : Array Value} {below : List Frame} {meth : Method} {c : Code} {D : va_G} {gm : Nat → Nat} {ca : Nat → ClassId} {A : Nat → Prop} {st : MSt} (hX : MX p l e rmm_isSound s m args meth c D ca A km_isSound 5 (some .boolean)) (hP : va_P D vwCl (wM gm ca st) s.heap) (n : Nat) :∀ (k : Nat), ∀ (x2 : Int32) (x3 : Int32) (x4 : Int32) {r : Int32} (ls : Array Slot), lv_has ls 5 [(0, .ref (gm 0)), (2, .int x2), (3, .int x3), (4, .int x4)] → fm_isSound_28 n k st x2 x3 x4 = some r → W p l e rmm_isSound s m args below meth c s.heap [] 0 0 (MQX below (xx_Q (XI r)) args s 0 0 (fun _ => False)) (F0 m 28 ls []) := by
  obtain ⟨hx, hb, hml, hr, hlk, hown, hts, hK, htr, hZ, hnh, hA, hfl⟩ := id hX
  intro k
  induction k with
  | zero =>
    intro x2 x3 x4 r ls hl hf
    rw [fm_isSound_28] at hf
    cases hf
  | succ k ih =>
    intro x2 x3 x4 r ls hl hf
    rw [fm_isSound_28] at hf
    refine lv_iload_n hx hb dm_isSound_28 rfl (lv_at hl 2 rfl) ?_
    refine lv_if_eq (tgt := 76) hx hb dm_isSound_29 (by decide) (fun c1 => ?_) (fun c1 => ?_)
    · have hf := ifp c1 hf
      refine lv_iload_n hx hb dm_isSound_76 rfl (lv_at hl 2 rfl) ?_
      obtain ⟨_, hzb, hf⟩ := obs hf
      cases hf
      exact er_z hx hb hr hlk (zb_ok hzb) dm_isSound_77
    · have hf := ifn c1 hf
      refine lv_iload hx hb dm_isSound_32 (lv_at hl 3 rfl) ?_
      refine lv_i2l hx hb dm_isSound_34 rfl ?_
      refine lv_aload_n hx hb dm_isSound_35 rfl (lv_at hl 0 rfl) ?_
      refine qbg_words hx hb hown hts hK hP dm_isSound_36 ?_
      refine lv_iload_n hx hb dm_isSound_39 rfl (lv_at hl 1 rfl) ?_
      refine lv_iconst (v := 1) hx hb dm_isSound_40 (by decide) ?_
      refine lv_iadd hx hb dm_isSound_41 ?_
      obtain ⟨r2, er2, ir2, hf⟩ := rdL_some hf
      refine qbl_words hx hb hK hP ir2 er2 dm_isSound_42 ?_
      refine W.lcmp hx hb dm_isSound_43 ?_
      refine lv_if_ge (tgt := 76) hx hb dm_isSound_44 (by decide) (fun c3 => ?_) (fun c3 => ?_)
      · have hf := ifp c3 hf
        refine lv_iload_n hx hb dm_isSound_76 rfl (lv_at hl 2 rfl) ?_
        obtain ⟨_, hzb, hf⟩ := obs hf
        cases hf
        exact er_z hx hb hr hlk (zb_ok hzb) dm_isSound_77
      · have hf := ifn c3 hf
        refine lv_aload_n hx hb dm_isSound_47 rfl (lv_at hl 0 rfl) ?_
        refine qbg_words hx hb hown hts hK hP dm_isSound_48 ?_
        refine lv_iload_n hx hb dm_isSound_51 rfl (lv_at hl 1 rfl) ?_
        refine lv_iconst (v := 2) hx hb dm_isSound_52 (by decide) ?_
        refine lv_iadd hx hb dm_isSound_53 ?_
        refine lv_iload hx hb dm_isSound_54 (lv_at hl 3 rfl) ?_
        refine lv_iadd hx hb dm_isSound_56 ?_
        obtain ⟨r4, er4, ir4, hf⟩ := rdL_some hf
        refine qbl_words hx hb hK hP ir4 er4 dm_isSound_57 ?_
        refine lv_lconst (v := 0) hx hb dm_isSound_58 (by decide) ?_
        refine lv_aload_n hx hb dm_isSound_59 rfl (lv_at hl 0 rfl) ?_
        refine qbg_pages hx hb hown hts hK hP dm_isSound_60 ?_
        refine lv_i2l hx hb dm_isSound_63 rfl ?_
        refine lv_lconst (v := 1) hx hb dm_isSound_64 (by decide) ?_
        refine lv_lsub hx hb dm_isSound_65 ?_
        obtain ⟨r5, h6, hf⟩ := obs hf
        refine smI (cq_isIn (l := l) (hfl := hfl) h6) (cw_m_isIn hts ⟨by decide, by decide⟩) hx hb hml hown hts hl.1 rfl rfl (lv_room (Nat.le_of_ble_eq_true rfl)) dm_isSound_66 ⟨by decide, by decide⟩ ?_
        refine lv_istore_n (lv' := [(3, .int r5), (0, .ref (gm 0)), (2, .int x2), (4, .int x4)]) hx hb dm_isSound_69 rfl hl (by decide) rfl (fun ls hl => ?_)
        refine lv_iinc (v := (x4 + 1)) (lv' := [(4, .int (x4 + 1)), (3, .int r5), (0, .ref (gm 0)), (2, .int x2)]) hx hb dm_isSound_70 hl (k := 3) rfl rfl (by decide) rfl (fun ls hl => ?_)
        refine lv_goto (tgt := 28) hx hb dm_isSound_73 (by decide) ?_
        exact ih _ _ _ _ (lv_sub hl [2, 3, 1, 0] rfl) hf
set_option maxRecDepth 100000 in
set_option maxHeartbeats 4000000 in
theorem wm_isSound_0 {p : Program} {l : Launch} {e : Env} {s : State} {m : MethodId} {args : Array Value} {below : List Frame} {meth : Method} {c : Code} {D : va_G} {gm : Nat → Nat} {ca : Nat → ClassId} {A : Nat → Prop} {st : MSt} (hX : MX p l e rmm_isSound s m args meth c D ca A km_isSound 5 (some .boolean)) (hP : va_P D vwCl (wM gm ca st) s.heap) (n : Nat) : ∀ (x1 : Int32) {r : Int32} (ls : Array Slot), lv_has ls 5 [(0, .ref (gm 0)), (1, .int x1)] → fm_isSound n st x1 = some r → W p l e rmm_isSound s m args below meth c s.heap [] 0 0 (MQX below (xx_Q (XI r)) args s 0 0 (fun _ => False)) (F0 m 0 ls []) := by
  obtain ⟨hx, hb, hml, hr, hlk, hown, hts, hK, htr, hZ, hnh, hA, hfl⟩ := id hX
  intro x1 r ls hl hf
  rw [fm_isSound] at hf
  refine lv_sipush (v := 1024) hx hb dm_isSound_0 (by decide) ?_
  refine lv_bipush (v := 20) hx hb dm_isSound_3 (by decide) ?_
  refine lv_iload_n hx hb dm_isSound_5 rfl (lv_at hl 1 rfl) ?_
  refine lv_imul hx hb dm_isSound_6 ?_
  refine lv_iadd hx hb dm_isSound_7 ?_
  refine lv_istore_n (lv' := [(2, .int (1024 + (20 * x1))), (0, .ref (gm 0)), (1, .int x1)]) hx hb dm_isSound_8 rfl hl (by decide) rfl (fun ls hl => ?_)
  refine lv_aload_n hx hb dm_isSound_9 rfl (lv_at hl 1 rfl) ?_
  refine qbg_words hx hb hown hts hK hP dm_isSound_10 ?_
  refine lv_iload_n hx hb dm_isSound_13 rfl (lv_at hl 0 rfl) ?_
  refine lv_iconst (v := 1) hx hb dm_isSound_14 (by decide) ?_
  refine lv_iadd hx hb dm_isSound_15 ?_
  obtain ⟨r1, er1, ir1, hf⟩ := rdL_some hf
  refine qbl_words hx hb hK hP ir1 er1 dm_isSound_16 ?_
  refine lv_lconst (v := 0) hx hb dm_isSound_17 (by decide) ?_
  refine lv_ldc2 (v := 16) hx hb hown (kcm_59 hts) dm_isSound_18 ?_
  obtain ⟨r2, h3, hf⟩ := obs hf
  refine smI (cq_isIn (l := l) (hfl := hfl) h3) (cw_m_isIn hts ⟨by decide, by decide⟩) hx hb hml hown hts hl.1 rfl rfl (lv_room (Nat.le_of_ble_eq_true rfl)) dm_isSound_21 ⟨by decide, by decide⟩ ?_
  refine lv_istore_n (lv' := [(3, .int r2), (2, .int (1024 + (20 * x1))), (0, .ref (gm 0)), (1, .int x1)]) hx hb dm_isSound_24 rfl hl (by decide) rfl (fun ls hl => ?_)
  refine lv_iconst (v := 0) hx hb dm_isSound_25 (by decide) ?_
  refine lv_istore (lv' := [(4, .int 0), (3, .int r2), (2, .int (1024 + (20 * x1))), (0, .ref (gm 0)), (1, .int x1)]) hx hb dm_isSound_26 hl (by decide) rfl (fun ls hl => ?_)
  exact wm_isSound_28 hX hP n n _ _ _ _ (lv_sub hl [3, 2, 1, 0] rfl) hf
set_option maxRecDepth 100000 in
set_option maxHeartbeats 4000000 in
theorem cq_isSound {l : Launch} (hfl : l.flags = flags0) {D : va_G} {gm : Nat → Nat} {ca : Nat → ClassId} {st : MSt} {n : Nat} {x1 : Int32} {r : Int32} (hf : fm_isSound n st x1 = some r) : RMm l ym_isSound rmm_isSound D gm ca [.int x1] st (XI r) :=
  RMm.of hfl (by decide +kernel) rfl mcm_isSound (fun p e s m below meth c hX hP => wm_isSound_0 hX hP n _ _ (lv_entry _ (Nat.le_of_ble_eq_true rfl)) hf)
set_option maxRecDepth 100000 in
set_option maxHeartbeats 4000000 in
theorem wm_isRightRoot_194 {p : Program} {l : Launch} {e : Env} {s : State} {m : MethodId} {args : Array Value} {below : List Frame} {meth : Method} {c : Code} {D : va_G} {gm : Nat → Nat} {ca : Nat → ClassId} {A : Nat → Prop} {st : MSt} (hX : MX p l e rmm_isRightRoot s m args meth c D ca A km_isRightRoot 11 (some .boolean)) (hP : va_P D vwCl (wM gm ca st) s.heap) (n : Nat) : ∀ (x2 : Int32) (x3 : Int32) (x6 : Int64) {r : Int32} (ls : Array Slot), lv_has ls 11 [(0, .ref (gm 0)), (2, .int x2), (3, .int x3), (6, .long x6)] → fm_isRightRoot_194 n st x2 x3 x6 = some r → W p l e rmm_isRightRoot s m args below meth c s.heap [] 0 0 (MQX below (xx_Q (XI r)) args s 0 0 (fun _ => False)) (F0 m 194 ls []) := by
  obtain ⟨hx, hb, hml, hr, hlk, hown, hts, hK, htr, hZ, hnh, hA, hfl⟩ := id hX
  intro x2 x3 x6 r ls hl hf
  rw [fm_isRightRoot_194] at hf
  refine lv_iload_n hx hb dm_isRightRoot_194 rfl (lv_at hl 2 rfl) ?_
  refine lv_if_eq (tgt := 217) hx hb dm_isRightRoot_195 (by decide) (fun c1 => ?_) (fun c1 => ?_)
  · have hf := ifp c1 hf
    refine lv_iconst (v := 0) hx hb dm_isRightRoot_217 (by decide) ?_
    cases hf
    exact er_z hx hb hr hlk rfl dm_isRightRoot_218
  · have hf := ifn c1 hf
    refine lv_aload_n hx hb dm_isRightRoot_198 rfl (lv_at hl 0 rfl) ?_
    refine qbg_words hx hb hown hts hK hP dm_isRightRoot_199 ?_
    refine lv_iload_n hx hb dm_isRightRoot_202 rfl (lv_at hl 1 rfl) ?_
    refine lv_bipush (v := 18) hx hb dm_isRightRoot_203 (by decide) ?_
    refine lv_iadd hx hb dm_isRightRoot_205 ?_
    obtain ⟨r2, er2, ir2, hf⟩ := rdL_some hf
    refine qbl_words hx hb hK hP ir2 er2 dm_isRightRoot_206 ?_
    refine lv_lload hx hb dm_isRightRoot_207 (lv_at hl 3 rfl) ?_
    refine W.lcmp hx hb dm_isRightRoot_209 ?_
    refine lv_if_ne (tgt := 217) hx hb dm_isRightRoot_210 (by decide) (fun c3 => ?_) (fun c3 => ?_)
    · have hf := ifn c3 hf
      refine lv_iconst (v := 0) hx hb dm_isRightRoot_217 (by decide) ?_
      cases hf
      exact er_z hx hb hr hlk rfl dm_isRightRoot_218
    · have hf := ifp c3 hf
      refine lv_iconst (v := 1) hx hb dm_isRightRoot_213 (by decide) ?_
      refine lv_goto (tgt := 218) hx hb dm_isRightRoot_214 (by decide) ?_
      cases hf
      exact er_z hx hb hr hlk rfl dm_isRightRoot_218
set_option maxRecDepth 100000 in
set_option maxHeartbeats 4000000 in
theorem wm_isRightRoot_54 {p : Program} {l : Launch} {e : Env} {s : State} {m : MethodId} {args : Array Value} {below : List Frame} {meth : Method} {c : Code} {D : va_G} {gm : Nat → Nat} {ca : Nat → ClassId} {A : Nat → Prop} {st : MSt} (hX : MX p l e rmm_isRightRoot s m args meth c D ca A km_isRightRoot 11 (some .boolean)) (hP : va_P D vwCl (wM gm ca st) s.heap) (n : Nat) :∀ (k : Nat), ∀ (x2 : Int32) (x3 : Int32) (x4 : Int64) (x6 : Int64) (x8 : Int32) {r : Int32} (ls : Array Slot), lv_has ls 11 [(0, .ref (gm 0)), (2, .int x2), (3, .int x3), (4, .long x4), (6, .long x6), (8, .int x8)] → fm_isRightRoot_54 n k st x2 x3 x4 x6 x8 = some r → W p l e rmm_isRightRoot s m args below meth c s.heap [] 0 0 (MQX below (xx_Q (XI r)) args s 0 0 (fun _ => False)) (F0 m 54 ls []) := by
  obtain ⟨hx, hb, hml, hr, hlk, hown, hts, hK, htr, hZ, hnh, hA, hfl⟩ := id hX
  intro k
  induction k with
  | zero =>
    intro x2 x3 x4 x6 x8 r ls hl hf
    rw [fm_isRightRoot_54] at hf
    cases hf
  | succ k ih =>
    intro x2 x3 x4 x6 x8 r ls hl hf
    rw [fm_isRightRoot_54] at hf
    refine lv_iload_n hx hb dm_isRightRoot_54 rfl (lv_at hl 2 rfl) ?_
    refine lv_if_eq (tgt := 194) hx hb dm_isRightRoot_55 (by decide) (fun c1 => ?_) (fun c1 => ?_)
    · have hf := ifp c1 hf
      exact wm_isRightRoot_194 hX hP n _ _ _ _ (lv_sub hl [0, 1, 2, 4] rfl) hf
    · have hf := ifn c1 hf
      refine lv_iload hx hb dm_isRightRoot_58 (lv_at hl 5 rfl) ?_
      refine lv_i2l hx hb dm_isRightRoot_60 rfl ?_
      refine lv_aload_n hx hb dm_isRightRoot_61 rfl (lv_at hl 0 rfl) ?_
      refine qbg_words hx hb hown hts hK hP dm_isRightRoot_62 ?_
      refine lv_iload_n hx hb dm_isRightRoot_65 rfl (lv_at hl 1 rfl) ?_
      refine lv_iconst (v := 1) hx hb dm_isRightRoot_66 (by decide) ?_
      refine lv_iadd hx hb dm_isRightRoot_67 ?_
      obtain ⟨r2, er2, ir2, hf⟩ := rdL_some hf
      refine qbl_words hx hb hK hP ir2 er2 dm_isRightRoot_68 ?_
      refine W.lcmp hx hb dm_isRightRoot_69 ?_
      refine lv_if_ge (tgt := 194) hx hb dm_isRightRoot_70 (by decide) (fun c3 => ?_) (fun c3 => ?_)
      · have hf := ifp c3 hf
        exact wm_isRightRoot_194 hX hP n _ _ _ _ (lv_sub hl [0, 1, 2, 4] rfl) hf
      · have hf := ifn c3 hf
        refine lv_aload_n hx hb dm_isRightRoot_73 rfl (lv_at hl 0 rfl) ?_
        refine qbg_words hx hb hown hts hK hP dm_isRightRoot_74 ?_
        refine lv_iload_n hx hb dm_isRightRoot_77 rfl (lv_at hl 1 rfl) ?_
        refine lv_iconst (v := 2) hx hb dm_isRightRoot_78 (by decide) ?_
        refine lv_iadd hx hb dm_isRightRoot_79 ?_
        refine lv_iload hx hb dm_isRightRoot_80 (lv_at hl 5 rfl) ?_
        refine lv_iadd hx hb dm_isRightRoot_82 ?_
        obtain ⟨r4, er4, ir4, hf⟩ := rdL_some hf
        refine qbl_words hx hb hK hP ir4 er4 dm_isRightRoot_83 ?_
        refine lv_l2i hx hb dm_isRightRoot_84 rfl ?_
        refine lv_istore (lv' := [(9, .int r4.toInt32), (0, .ref (gm 0)), (2, .int x2), (3, .int x3), (4, .long x4), (6, .long x6), (8, .int x8)]) hx hb dm_isRightRoot_85 hl (by decide) rfl (fun ls hl => ?_)
        refine lv_bipush (v := 16) hx hb dm_isRightRoot_87 (by decide) ?_
        refine lv_iload hx hb dm_isRightRoot_89 (lv_at hl 0 rfl) ?_
        refine lv_imul hx hb dm_isRightRoot_91 ?_
        refine lv_istore (lv' := [(10, .int (16 * r4.toInt32)), (9, .int r4.toInt32), (0, .ref (gm 0)), (2, .int x2), (3, .int x3), (4, .long x4), (6, .long x6), (8, .int x8)]) hx hb dm_isRightRoot_92 hl (by decide) rfl (fun ls hl => ?_)
        refine lv_aload_n hx hb dm_isRightRoot_94 rfl (lv_at hl 2 rfl) ?_
        refine lv_iload hx hb dm_isRightRoot_95 (lv_at hl 1 rfl) ?_
        obtain ⟨r5, h6, hf⟩ := obs hf
        refine qrmI (cq_isRight (l := l) (hfl := hfl) h6) (cw_m_isRight hts ⟨by decide, by decide⟩) hx hb hml hown hts hK hP va_S.rf hZ hl.1 rfl rfl (lv_room (Nat.le_of_ble_eq_true rfl)) dm_isRightRoot_97 ⟨by decide, by decide⟩ ?_
        refine lv_if_eq (tgt := 134) hx hb dm_isRightRoot_100 (by decide) (fun c7 => ?_) (fun c7 => ?_)
        · have hf := ifp c7 hf
          refine lv_iconst (v := 0) hx hb dm_isRightRoot_134 (by decide) ?_
          refine lv_istore_n (lv' := [(3, .int 0), (10, .int (16 * r4.toInt32)), (9, .int r4.toInt32), (0, .ref (gm 0)), (2, .int x2), (4, .long x4), (6, .long x6), (8, .int x8)]) hx hb dm_isRightRoot_135 rfl hl (by decide) rfl (fun ls hl => ?_)
          refine lv_iload_n hx hb dm_isRightRoot_136 rfl (lv_at hl 0 rfl) ?_
          refine lv_if_eq (tgt := 153) hx hb dm_isRightRoot_137 (by decide) (fun c8 => ?_) (fun c8 => ?_)
          · skip
            refine lv_lload hx hb dm_isRightRoot_153 (lv_at hl 6 rfl) ?_
            refine lv_lstore (lv' := [(6, .long x6), (3, .int 0), (10, .int (16 * r4.toInt32)), (9, .int r4.toInt32), (0, .ref (gm 0)), (2, .int x2), (4, .long x4), (8, .int x8)]) hx hb dm_isRightRoot_155 hl (by decide) rfl (fun ls hl => ?_)
            refine lv_iload_n hx hb dm_isRightRoot_157 rfl (lv_at hl 1 rfl) ?_
            refine lv_if_eq (tgt := 184) hx hb dm_isRightRoot_158 (by decide) (fun c9 => ?_) (fun c9 => ?_)
            · skip
              refine lv_lload hx hb dm_isRightRoot_184 (lv_at hl 6 rfl) ?_
              refine lv_lstore (lv' := [(4, .long x4), (6, .long x6), (3, .int 0), (10, .int (16 * r4.toInt32)), (9, .int r4.toInt32), (0, .ref (gm 0)), (2, .int x2), (8, .int x8)]) hx hb dm_isRightRoot_186 hl (by decide) rfl (fun ls hl => ?_)
              refine lv_iinc (v := (x8 + 1)) (lv' := [(8, .int (x8 + 1)), (4, .long x4), (6, .long x6), (3, .int 0), (10, .int (16 * r4.toInt32)), (9, .int r4.toInt32), (0, .ref (gm 0)), (2, .int x2)]) hx hb dm_isRightRoot_188 hl (k := 7) rfl rfl (by decide) rfl (fun ls hl => ?_)
              refine lv_goto (tgt := 54) hx hb dm_isRightRoot_191 (by decide) ?_
              exact ih _ _ _ _ _ _ (lv_sub hl [6, 7, 3, 1, 2, 0] rfl) hf
            · exact absurd (show (0 : Int32) = 0 by decide) c9
          · exact absurd (show (0 : Int32) = 0 by decide) c8
        · have hf := ifn c7 hf
          refine lv_aload_n hx hb dm_isRightRoot_103 rfl (lv_at hl 2 rfl) ?_
          refine qbg_words hx hb hown hts hK hP dm_isRightRoot_104 ?_
          refine lv_iload hx hb dm_isRightRoot_107 (lv_at hl 0 rfl) ?_
          obtain ⟨r10, er10, ir10, hf⟩ := rdL_some hf
          refine qbl_words hx hb hK hP ir10 er10 dm_isRightRoot_109 ?_
          refine lv_lconst (v := 0) hx hb dm_isRightRoot_110 (by decide) ?_
          refine W.lcmp hx hb dm_isRightRoot_111 ?_
          refine lv_if_le (tgt := 134) hx hb dm_isRightRoot_112 (by decide) (fun c11 => ?_) (fun c11 => ?_)
          · have hf := ifp c11 hf
            refine lv_iconst (v := 0) hx hb dm_isRightRoot_134 (by decide) ?_
            refine lv_istore_n (lv' := [(3, .int 0), (10, .int (16 * r4.toInt32)), (9, .int r4.toInt32), (0, .ref (gm 0)), (2, .int x2), (4, .long x4), (6, .long x6), (8, .int x8)]) hx hb dm_isRightRoot_135 rfl hl (by decide) rfl (fun ls hl => ?_)
            refine lv_iload_n hx hb dm_isRightRoot_136 rfl (lv_at hl 0 rfl) ?_
            refine lv_if_eq (tgt := 153) hx hb dm_isRightRoot_137 (by decide) (fun c12 => ?_) (fun c12 => ?_)
            · skip
              refine lv_lload hx hb dm_isRightRoot_153 (lv_at hl 6 rfl) ?_
              refine lv_lstore (lv' := [(6, .long x6), (3, .int 0), (10, .int (16 * r4.toInt32)), (9, .int r4.toInt32), (0, .ref (gm 0)), (2, .int x2), (4, .long x4), (8, .int x8)]) hx hb dm_isRightRoot_155 hl (by decide) rfl (fun ls hl => ?_)
              refine lv_iload_n hx hb dm_isRightRoot_157 rfl (lv_at hl 1 rfl) ?_
              refine lv_if_eq (tgt := 184) hx hb dm_isRightRoot_158 (by decide) (fun c13 => ?_) (fun c13 => ?_)
              · skip
                refine lv_lload hx hb dm_isRightRoot_184 (lv_at hl 6 rfl) ?_
                refine lv_lstore (lv' := [(4, .long x4), (6, .long x6), (3, .int 0), (10, .int (16 * r4.toInt32)), (9, .int r4.toInt32), (0, .ref (gm 0)), (2, .int x2), (8, .int x8)]) hx hb dm_isRightRoot_186 hl (by decide) rfl (fun ls hl => ?_)
                refine lv_iinc (v := (x8 + 1)) (lv' := [(8, .int (x8 + 1)), (4, .long x4), (6, .long x6), (3, .int 0), (10, .int (16 * r4.toInt32)), (9, .int r4.toInt32), (0, .ref (gm 0)), (2, .int x2)]) hx hb dm_isRightRoot_188 hl (k := 7) rfl rfl (by decide) rfl (fun ls hl => ?_)
                refine lv_goto (tgt := 54) hx hb dm_isRightRoot_191 (by decide) ?_
                exact ih _ _ _ _ _ _ (lv_sub hl [6, 7, 3, 1, 2, 0] rfl) hf
              · exact absurd (show (0 : Int32) = 0 by decide) c13
            · exact absurd (show (0 : Int32) = 0 by decide) c12
          · have hf := ifn c11 hf
            refine lv_aload_n hx hb dm_isRightRoot_115 rfl (lv_at hl 2 rfl) ?_
            refine qbg_words hx hb hown hts hK hP dm_isRightRoot_116 ?_
            refine lv_iload hx hb dm_isRightRoot_119 (lv_at hl 0 rfl) ?_
            refine lv_iconst (v := 1) hx hb dm_isRightRoot_121 (by decide) ?_
            refine lv_iadd hx hb dm_isRightRoot_122 ?_
            obtain ⟨r14, er14, ir14, hf⟩ := rdL_some hf
            refine qbl_words hx hb hK hP ir14 er14 dm_isRightRoot_123 ?_
            refine lv_lload hx hb dm_isRightRoot_124 (lv_at hl 5 rfl) ?_
            refine W.lcmp hx hb dm_isRightRoot_126 ?_
            refine lv_if_le (tgt := 134) hx hb dm_isRightRoot_127 (by decide) (fun c15 => ?_) (fun c15 => ?_)
            · have hf := ifp c15 hf
              refine lv_iconst (v := 0) hx hb dm_isRightRoot_134 (by decide) ?_
              refine lv_istore_n (lv' := [(3, .int 0), (10, .int (16 * r4.toInt32)), (9, .int r4.toInt32), (0, .ref (gm 0)), (2, .int x2), (4, .long x4), (6, .long x6), (8, .int x8)]) hx hb dm_isRightRoot_135 rfl hl (by decide) rfl (fun ls hl => ?_)
              refine lv_iload_n hx hb dm_isRightRoot_136 rfl (lv_at hl 0 rfl) ?_
              refine lv_if_eq (tgt := 153) hx hb dm_isRightRoot_137 (by decide) (fun c16 => ?_) (fun c16 => ?_)
              · skip
                refine lv_lload hx hb dm_isRightRoot_153 (lv_at hl 6 rfl) ?_
                refine lv_lstore (lv' := [(6, .long x6), (3, .int 0), (10, .int (16 * r4.toInt32)), (9, .int r4.toInt32), (0, .ref (gm 0)), (2, .int x2), (4, .long x4), (8, .int x8)]) hx hb dm_isRightRoot_155 hl (by decide) rfl (fun ls hl => ?_)
                refine lv_iload_n hx hb dm_isRightRoot_157 rfl (lv_at hl 1 rfl) ?_
                refine lv_if_eq (tgt := 184) hx hb dm_isRightRoot_158 (by decide) (fun c17 => ?_) (fun c17 => ?_)
                · skip
                  refine lv_lload hx hb dm_isRightRoot_184 (lv_at hl 6 rfl) ?_
                  refine lv_lstore (lv' := [(4, .long x4), (6, .long x6), (3, .int 0), (10, .int (16 * r4.toInt32)), (9, .int r4.toInt32), (0, .ref (gm 0)), (2, .int x2), (8, .int x8)]) hx hb dm_isRightRoot_186 hl (by decide) rfl (fun ls hl => ?_)
                  refine lv_iinc (v := (x8 + 1)) (lv' := [(8, .int (x8 + 1)), (4, .long x4), (6, .long x6), (3, .int 0), (10, .int (16 * r4.toInt32)), (9, .int r4.toInt32), (0, .ref (gm 0)), (2, .int x2)]) hx hb dm_isRightRoot_188 hl (k := 7) rfl rfl (by decide) rfl (fun ls hl => ?_)
                  refine lv_goto (tgt := 54) hx hb dm_isRightRoot_191 (by decide) ?_
                  exact ih _ _ _ _ _ _ (lv_sub hl [6, 7, 3, 1, 2, 0] rfl) hf
                · exact absurd (show (0 : Int32) = 0 by decide) c17
              · exact absurd (show (0 : Int32) = 0 by decide) c16
            · have hf := ifn c15 hf
              refine lv_iconst (v := 1) hx hb dm_isRightRoot_130 (by decide) ?_
              refine lv_goto (tgt := 135) hx hb dm_isRightRoot_131 (by decide) ?_
              refine lv_istore_n (lv' := [(3, .int 1), (10, .int (16 * r4.toInt32)), (9, .int r4.toInt32), (0, .ref (gm 0)), (2, .int x2), (4, .long x4), (6, .long x6), (8, .int x8)]) hx hb dm_isRightRoot_135 rfl hl (by decide) rfl (fun ls hl => ?_)
              refine lv_iload_n hx hb dm_isRightRoot_136 rfl (lv_at hl 0 rfl) ?_
              refine lv_if_eq (tgt := 153) hx hb dm_isRightRoot_137 (by decide) (fun c18 => ?_) (fun c18 => ?_)
              · exact absurd c18 (show ¬ ((1 : Int32) = 0) by decide)
              · skip
                refine lv_lload hx hb dm_isRightRoot_140 (lv_at hl 6 rfl) ?_
                refine lv_aload_n hx hb dm_isRightRoot_142 rfl (lv_at hl 3 rfl) ?_
                refine qbg_words hx hb hown hts hK hP dm_isRightRoot_143 ?_
                refine lv_iload hx hb dm_isRightRoot_146 (lv_at hl 1 rfl) ?_
                obtain ⟨r19, er19, ir19, hf⟩ := rdL_some hf
                refine qbl_words hx hb hK hP ir19 er19 dm_isRightRoot_148 ?_
                refine lv_ladd hx hb dm_isRightRoot_149 ?_
                refine lv_goto (tgt := 155) hx hb dm_isRightRoot_150 (by decide) ?_
                refine lv_lstore (lv' := [(6, .long (x6 + r19)), (3, .int 1), (10, .int (16 * r4.toInt32)), (9, .int r4.toInt32), (0, .ref (gm 0)), (2, .int x2), (4, .long x4), (8, .int x8)]) hx hb dm_isRightRoot_155 hl (by decide) rfl (fun ls hl => ?_)
                refine lv_iload_n hx hb dm_isRightRoot_157 rfl (lv_at hl 1 rfl) ?_
                refine lv_if_eq (tgt := 184) hx hb dm_isRightRoot_158 (by decide) (fun c20 => ?_) (fun c20 => ?_)
                · exact absurd c20 (show ¬ ((1 : Int32) = 0) by decide)
                · skip
                  refine lv_aload_n hx hb dm_isRightRoot_161 rfl (lv_at hl 4 rfl) ?_
                  refine qbg_words hx hb hown hts hK hP dm_isRightRoot_162 ?_
                  refine lv_iload hx hb dm_isRightRoot_165 (lv_at hl 2 rfl) ?_
                  refine lv_iconst (v := 2) hx hb dm_isRightRoot_167 (by decide) ?_
                  refine lv_aload_n hx hb dm_isRightRoot_168 rfl (lv_at hl 4 rfl) ?_
                  refine qbg_words hx hb hown hts hK hP dm_isRightRoot_169 ?_
                  refine lv_iload hx hb dm_isRightRoot_172 (lv_at hl 2 rfl) ?_
                  obtain ⟨r21, er21, ir21, hf⟩ := rdL_some hf
                  refine qbl_words hx hb hK hP ir21 er21 dm_isRightRoot_174 ?_
                  refine lv_l2i hx hb dm_isRightRoot_175 rfl ?_
                  refine lv_imul hx hb dm_isRightRoot_176 ?_
                  refine lv_iadd hx hb dm_isRightRoot_177 ?_
                  refine lv_iconst (v := 1) hx hb dm_isRightRoot_178 (by decide) ?_
                  refine lv_isub hx hb dm_isRightRoot_179 ?_
                  obtain ⟨r22, er22, ir22, hf⟩ := rdL_some hf
                  refine qbl_words hx hb hK hP ir22 er22 dm_isRightRoot_180 ?_
                  refine lv_goto (tgt := 186) hx hb dm_isRightRoot_181 (by decide) ?_
                  refine lv_lstore (lv' := [(4, .long r22), (6, .long (x6 + r19)), (3, .int 1), (10, .int (16 * r4.toInt32)), (9, .int r4.toInt32), (0, .ref (gm 0)), (2, .int x2), (8, .int x8)]) hx hb dm_isRightRoot_186 hl (by decide) rfl (fun ls hl => ?_)
                  refine lv_iinc (v := (x8 + 1)) (lv' := [(8, .int (x8 + 1)), (4, .long r22), (6, .long (x6 + r19)), (3, .int 1), (10, .int (16 * r4.toInt32)), (9, .int r4.toInt32), (0, .ref (gm 0)), (2, .int x2)]) hx hb dm_isRightRoot_188 hl (k := 7) rfl rfl (by decide) rfl (fun ls hl => ?_)
                  refine lv_goto (tgt := 54) hx hb dm_isRightRoot_191 (by decide) ?_
                  exact ih _ _ _ _ _ _ (lv_sub hl [6, 7, 3, 1, 2, 0] rfl) hf
set_option maxRecDepth 100000 in
set_option maxHeartbeats 4000000 in
theorem wm_isRightRoot_0 {p : Program} {l : Launch} {e : Env} {s : State} {m : MethodId} {args : Array Value} {below : List Frame} {meth : Method} {c : Code} {D : va_G} {gm : Nat → Nat} {ca : Nat → ClassId} {A : Nat → Prop} {st : MSt} (hX : MX p l e rmm_isRightRoot s m args meth c D ca A km_isRightRoot 11 (some .boolean)) (hP : va_P D vwCl (wM gm ca st) s.heap) (n : Nat) : ∀ (x1 : Int32) {r : Int32} (ls : Array Slot), lv_has ls 11 [(0, .ref (gm 0)), (1, .int x1)] → fm_isRightRoot n st x1 = some r → W p l e rmm_isRightRoot s m args below meth c s.heap [] 0 0 (MQX below (xx_Q (XI r)) args s 0 0 (fun _ => False)) (F0 m 0 ls []) := by
  obtain ⟨hx, hb, hml, hr, hlk, hown, hts, hK, htr, hZ, hnh, hA, hfl⟩ := id hX
  intro x1 r ls hl hf
  rw [fm_isRightRoot] at hf
  refine lv_sipush (v := 1024) hx hb dm_isRightRoot_0 (by decide) ?_
  refine lv_bipush (v := 20) hx hb dm_isRightRoot_3 (by decide) ?_
  refine lv_iload_n hx hb dm_isRightRoot_5 rfl (lv_at hl 1 rfl) ?_
  refine lv_imul hx hb dm_isRightRoot_6 ?_
  refine lv_iadd hx hb dm_isRightRoot_7 ?_
  refine lv_istore_n (lv' := [(2, .int (1024 + (20 * x1))), (0, .ref (gm 0)), (1, .int x1)]) hx hb dm_isRightRoot_8 rfl hl (by decide) rfl (fun ls hl => ?_)
  refine lv_aload_n hx hb dm_isRightRoot_9 rfl (lv_at hl 1 rfl) ?_
  refine qbg_words hx hb hown hts hK hP dm_isRightRoot_10 ?_
  refine lv_iload_n hx hb dm_isRightRoot_13 rfl (lv_at hl 0 rfl) ?_
  refine lv_bipush (v := 19) hx hb dm_isRightRoot_14 (by decide) ?_
  refine lv_iadd hx hb dm_isRightRoot_16 ?_
  obtain ⟨r1, er1, ir1, hf⟩ := rdL_some hf
  refine qbl_words hx hb hK hP ir1 er1 dm_isRightRoot_17 ?_
  refine lv_aload_n hx hb dm_isRightRoot_18 rfl (lv_at hl 1 rfl) ?_
  refine lv_iload_n hx hb dm_isRightRoot_19 rfl (lv_at hl 0 rfl) ?_
  refine lv_bipush (v := 19) hx hb dm_isRightRoot_20 (by decide) ?_
  obtain ⟨r2, h3, hf⟩ := obs hf
  refine qrmL (cq_sum (l := l) (hfl := hfl) h3) (cw_m_sum hts ⟨by decide, by decide⟩) hx hb hml hown hts hK hP va_S.rf hZ hl.1 rfl rfl (lv_room (Nat.le_of_ble_eq_true rfl)) dm_isRightRoot_22 ⟨by decide, by decide⟩ ?_
  refine W.lcmp hx hb dm_isRightRoot_25 ?_
  refine lv_if_ne (tgt := 41) hx hb dm_isRightRoot_26 (by decide) (fun c4 => ?_) (fun c4 => ?_)
  · have hf := ifn c4 hf
    refine lv_iconst (v := 0) hx hb dm_isRightRoot_41 (by decide) ?_
    refine lv_istore_n (lv' := [(3, .int 0), (2, .int (1024 + (20 * x1))), (0, .ref (gm 0)), (1, .int x1)]) hx hb dm_isRightRoot_42 rfl hl (by decide) rfl (fun ls hl => ?_)
    refine lv_ldc2 (v := (-1)) hx hb hown (kcm_55 hts) dm_isRightRoot_43 ?_
    refine lv_lstore (lv' := [(4, .long (-1)), (3, .int 0), (2, .int (1024 + (20 * x1))), (0, .ref (gm 0)), (1, .int x1)]) hx hb dm_isRightRoot_46 hl (by decide) rfl (fun ls hl => ?_)
    refine lv_lconst (v := 0) hx hb dm_isRightRoot_48 (by decide) ?_
    refine lv_lstore (lv' := [(6, .long 0), (4, .long (-1)), (3, .int 0), (2, .int (1024 + (20 * x1))), (0, .ref (gm 0)), (1, .int x1)]) hx hb dm_isRightRoot_49 hl (by decide) rfl (fun ls hl => ?_)
    refine lv_iconst (v := 0) hx hb dm_isRightRoot_51 (by decide) ?_
    refine lv_istore (lv' := [(8, .int 0), (6, .long 0), (4, .long (-1)), (3, .int 0), (2, .int (1024 + (20 * x1))), (0, .ref (gm 0)), (1, .int x1)]) hx hb dm_isRightRoot_52 hl (by decide) rfl (fun ls hl => ?_)
    exact wm_isRightRoot_54 hX hP n n _ _ _ _ _ _ (lv_sub hl [5, 4, 3, 2, 1, 0] rfl) hf
  · have hf := ifp c4 hf
    refine lv_aload_n hx hb dm_isRightRoot_29 rfl (lv_at hl 1 rfl) ?_
    refine lv_iload_n hx hb dm_isRightRoot_30 rfl (lv_at hl 2 rfl) ?_
    obtain ⟨r5, h6, hf⟩ := obs hf
    refine qrmI (cq_isSound (l := l) (hfl := hfl) h6) (cw_m_isSound hts ⟨by decide, by decide⟩) hx hb hml hown hts hK hP va_S.rf hZ hl.1 rfl rfl (lv_room (Nat.le_of_ble_eq_true rfl)) dm_isRightRoot_31 ⟨by decide, by decide⟩ ?_
    refine lv_if_eq (tgt := 41) hx hb dm_isRightRoot_34 (by decide) (fun c7 => ?_) (fun c7 => ?_)
    · have hf := ifp c7 hf
      refine lv_iconst (v := 0) hx hb dm_isRightRoot_41 (by decide) ?_
      refine lv_istore_n (lv' := [(3, .int 0), (2, .int (1024 + (20 * x1))), (0, .ref (gm 0)), (1, .int x1)]) hx hb dm_isRightRoot_42 rfl hl (by decide) rfl (fun ls hl => ?_)
      refine lv_ldc2 (v := (-1)) hx hb hown (kcm_55 hts) dm_isRightRoot_43 ?_
      refine lv_lstore (lv' := [(4, .long (-1)), (3, .int 0), (2, .int (1024 + (20 * x1))), (0, .ref (gm 0)), (1, .int x1)]) hx hb dm_isRightRoot_46 hl (by decide) rfl (fun ls hl => ?_)
      refine lv_lconst (v := 0) hx hb dm_isRightRoot_48 (by decide) ?_
      refine lv_lstore (lv' := [(6, .long 0), (4, .long (-1)), (3, .int 0), (2, .int (1024 + (20 * x1))), (0, .ref (gm 0)), (1, .int x1)]) hx hb dm_isRightRoot_49 hl (by decide) rfl (fun ls hl => ?_)
      refine lv_iconst (v := 0) hx hb dm_isRightRoot_51 (by decide) ?_
      refine lv_istore (lv' := [(8, .int 0), (6, .long 0), (4, .long (-1)), (3, .int 0), (2, .int (1024 + (20 * x1))), (0, .ref (gm 0)), (1, .int x1)]) hx hb dm_isRightRoot_52 hl (by decide) rfl (fun ls hl => ?_)
      exact wm_isRightRoot_54 hX hP n n _ _ _ _ _ _ (lv_sub hl [5, 4, 3, 2, 1, 0] rfl) hf
    · have hf := ifn c7 hf
      refine lv_iconst (v := 1) hx hb dm_isRightRoot_37 (by decide) ?_
      refine lv_goto (tgt := 42) hx hb dm_isRightRoot_38 (by decide) ?_
      refine lv_istore_n (lv' := [(3, .int 1), (2, .int (1024 + (20 * x1))), (0, .ref (gm 0)), (1, .int x1)]) hx hb dm_isRightRoot_42 rfl hl (by decide) rfl (fun ls hl => ?_)
      refine lv_ldc2 (v := (-1)) hx hb hown (kcm_55 hts) dm_isRightRoot_43 ?_
      refine lv_lstore (lv' := [(4, .long (-1)), (3, .int 1), (2, .int (1024 + (20 * x1))), (0, .ref (gm 0)), (1, .int x1)]) hx hb dm_isRightRoot_46 hl (by decide) rfl (fun ls hl => ?_)
      refine lv_lconst (v := 0) hx hb dm_isRightRoot_48 (by decide) ?_
      refine lv_lstore (lv' := [(6, .long 0), (4, .long (-1)), (3, .int 1), (2, .int (1024 + (20 * x1))), (0, .ref (gm 0)), (1, .int x1)]) hx hb dm_isRightRoot_49 hl (by decide) rfl (fun ls hl => ?_)
      refine lv_iconst (v := 0) hx hb dm_isRightRoot_51 (by decide) ?_
      refine lv_istore (lv' := [(8, .int 0), (6, .long 0), (4, .long (-1)), (3, .int 1), (2, .int (1024 + (20 * x1))), (0, .ref (gm 0)), (1, .int x1)]) hx hb dm_isRightRoot_52 hl (by decide) rfl (fun ls hl => ?_)
      exact wm_isRightRoot_54 hX hP n n _ _ _ _ _ _ (lv_sub hl [5, 4, 3, 2, 1, 0] rfl) hf
set_option maxRecDepth 100000 in
set_option maxHeartbeats 4000000 in
theorem cq_isRightRoot {l : Launch} (hfl : l.flags = flags0) {D : va_G} {gm : Nat → Nat} {ca : Nat → ClassId} {st : MSt} {n : Nat} {x1 : Int32} {r : Int32} (hf : fm_isRightRoot n st x1 = some r) : RMm l ym_isRightRoot rmm_isRightRoot D gm ca [.int x1] st (XI r) :=
  RMm.of hfl (by decide +kernel) rfl mcm_isRightRoot (fun p e s m below meth c hX hP => wm_isRightRoot_0 hX hP n _ _ (lv_entry _ (Nat.le_of_ble_eq_true rfl)) hf)
set_option maxRecDepth 100000 in
set_option maxHeartbeats 4000000 in
theorem wm_isKept_0 {p : Program} {l : Launch} {e : Env} {s : State} {m : MethodId} {args : Array Value} {below : List Frame} {meth : Method} {c : Code} {D : va_G} {gm : Nat → Nat} {ca : Nat → ClassId} {A : Nat → Prop} {st : MSt} (hX : MX p l e rmm_isKept s m args meth c D ca A km_isKept 2 (some .boolean)) (hP : va_P D vwCl (wM gm ca st) s.heap) (n : Nat) : ∀ (x1 : Int32) {r : Int32} (ls : Array Slot), lv_has ls 2 [(0, .ref (gm 0)), (1, .int x1)] → fm_isKept n st x1 = some r → W p l e rmm_isKept s m args below meth c s.heap [] 0 0 (MQX below (xx_Q (XI r)) args s 0 0 (fun _ => False)) (F0 m 0 ls []) := by
  obtain ⟨hx, hb, hml, hr, hlk, hown, hts, hK, htr, hZ, hnh, hA, hfl⟩ := id hX
  intro x1 r ls hl hf
  rw [fm_isKept] at hf
  refine lv_iload_n hx hb dm_isKept_0 rfl (lv_at hl 1 rfl) ?_
  refine lv_if_lt (tgt := 49) hx hb dm_isKept_1 (by decide) (fun c1 => ?_) (fun c1 => ?_)
  · have hf := ifp c1 hf
    refine lv_iconst (v := 0) hx hb dm_isKept_49 (by decide) ?_
    cases hf
    exact er_z hx hb hr hlk rfl dm_isKept_50
  · have hf := ifn c1 hf
    refine lv_iload_n hx hb dm_isKept_4 rfl (lv_at hl 1 rfl) ?_
    refine lv_aload_n hx hb dm_isKept_5 rfl (lv_at hl 0 rfl) ?_
    refine qbg_newest hx hb hown hts hK hP dm_isKept_6 ?_
    refine lv_icmp_gt (tgt := 49) hx hb dm_isKept_9 (by decide) (fun c2 => ?_) (fun c2 => ?_)
    · have hf := ifp c2 hf
      refine lv_iconst (v := 0) hx hb dm_isKept_49 (by decide) ?_
      cases hf
      exact er_z hx hb hr hlk rfl dm_isKept_50
    · have hf := ifn c2 hf
      refine lv_aload_n hx hb dm_isKept_12 rfl (lv_at hl 0 rfl) ?_
      refine qbg_words hx hb hown hts hK hP dm_isKept_13 ?_
      refine lv_sipush (v := 1024) hx hb dm_isKept_16 (by decide) ?_
      refine lv_bipush (v := 20) hx hb dm_isKept_19 (by decide) ?_
      refine lv_iload_n hx hb dm_isKept_21 rfl (lv_at hl 1 rfl) ?_
      refine lv_bipush (v := 8) hx hb dm_isKept_22 (by decide) ?_
      refine lv_irem hx hb dm_isKept_24 (by decide) ?_
      refine lv_imul hx hb dm_isKept_25 ?_
      refine lv_iadd hx hb dm_isKept_26 ?_
      obtain ⟨r3, er3, ir3, hf⟩ := rdL_some hf
      refine qbl_words hx hb hK hP ir3 er3 dm_isKept_27 ?_
      refine lv_iload_n hx hb dm_isKept_28 rfl (lv_at hl 1 rfl) ?_
      refine lv_i2l hx hb dm_isKept_29 rfl ?_
      refine W.lcmp hx hb dm_isKept_30 ?_
      refine lv_if_ne (tgt := 49) hx hb dm_isKept_31 (by decide) (fun c4 => ?_) (fun c4 => ?_)
      · have hf := ifn c4 hf
        refine lv_iconst (v := 0) hx hb dm_isKept_49 (by decide) ?_
        cases hf
        exact er_z hx hb hr hlk rfl dm_isKept_50
      · have hf := ifp c4 hf
        refine lv_aload_n hx hb dm_isKept_34 rfl (lv_at hl 0 rfl) ?_
        refine lv_iload_n hx hb dm_isKept_35 rfl (lv_at hl 1 rfl) ?_
        refine lv_bipush (v := 8) hx hb dm_isKept_36 (by decide) ?_
        refine lv_irem hx hb dm_isKept_38 (by decide) ?_
        obtain ⟨r5, h6, hf⟩ := obs hf
        refine qrmI (cq_isRightRoot (l := l) (hfl := hfl) h6) (cw_m_isRightRoot hts ⟨by decide, by decide⟩) hx hb hml hown hts hK hP va_S.rf hZ hl.1 rfl rfl (lv_room (Nat.le_of_ble_eq_true rfl)) dm_isKept_39 ⟨by decide, by decide⟩ ?_
        refine lv_if_eq (tgt := 49) hx hb dm_isKept_42 (by decide) (fun c7 => ?_) (fun c7 => ?_)
        · have hf := ifp c7 hf
          refine lv_iconst (v := 0) hx hb dm_isKept_49 (by decide) ?_
          cases hf
          exact er_z hx hb hr hlk rfl dm_isKept_50
        · have hf := ifn c7 hf
          refine lv_iconst (v := 1) hx hb dm_isKept_45 (by decide) ?_
          refine lv_goto (tgt := 50) hx hb dm_isKept_46 (by decide) ?_
          cases hf
          exact er_z hx hb hr hlk rfl dm_isKept_50
set_option maxRecDepth 100000 in
set_option maxHeartbeats 4000000 in
theorem cq_isKept {l : Launch} (hfl : l.flags = flags0) {D : va_G} {gm : Nat → Nat} {ca : Nat → ClassId} {st : MSt} {n : Nat} {x1 : Int32} {r : Int32} (hf : fm_isKept n st x1 = some r) : RMm l ym_isKept rmm_isKept D gm ca [.int x1] st (XI r) :=
  RMm.of hfl (by decide +kernel) rfl mcm_isKept (fun p e s m below meth c hX hP => wm_isKept_0 hX hP n _ _ (lv_entry _ (Nat.le_of_ble_eq_true rfl)) hf)
