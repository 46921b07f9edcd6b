set_option maxRecDepth 100000 in
set_option maxHeartbeats 4000000 in
theorem wb_clearRoot_7 {p : Program} {l : Launch} {e : Env} {s : State} {m : MethodId} {args : Array Value} {below : List Frame} {meth : Method} {c : Code} {D : va_G} {gm : Nat → Nat} {ca : Nat → ClassId} {A : Nat → Prop} (hX : BX p l e rmb_clearRoot s m args meth c D ca A kb_clearRoot 4 (none)) (n : Nat) :∀ (k : Nat), ∀ (st : BSt) (x2 : Int32) (x3 : Int32) {st' : BSt} (ls : Array Slot) (H : Heap) (locs : List Loc), BWd D gm ca A s.heap st H locs → lv_has ls 4 [(0, .ref (gm 0)), (2, .int x2), (3, .int x3)] → fb_clearRoot_7 n k st x2 x3 = some st' → W p l e rmb_clearRoot s m args below meth c H locs 0 0 (MQX below (mm_Q D gm ca A (XV) st') args s 0 0 A) (F0 m 7 ls []) := by
  obtain ⟨hx, hb, hml, hr, hlk, hown, hts, hK, htr, hZ, hnh, hA, hfl⟩ := id hX
  intro k
  induction k with
  | zero =>
    intro st x2 x3 st' ls H locs hB hl hf
    rw [fb_clearRoot_7] at hf
    cases hf
  | succ k ih =>
    intro st x2 x3 st' ls H locs hB hl hf
    rw [fb_clearRoot_7] at hf
    refine lv_iload_n hx hb db_clearRoot_7 rfl (lv_at hl 2 rfl) ?_
    refine lv_bipush (v := 20) hx hb db_clearRoot_8 (by decide) ?_
    refine lv_icmp_ge (tgt := 28) hx hb db_clearRoot_10 (by decide) (fun c1 => ?_) (fun c1 => ?_)
    · have hf := ifp c1 hf
      cases hf
      exact em_v hx hb hr hlk hB db_clearRoot_28
    · have hf := ifn c1 hf
      refine lv_aload_n hx hb db_clearRoot_13 rfl (lv_at hl 0 rfl) ?_
      refine bg_roots hx hb hown hts hK hB.1 db_clearRoot_14 ?_
      refine lv_iload_n hx hb db_clearRoot_17 rfl (lv_at hl 1 rfl) ?_
      refine lv_iload_n hx hb db_clearRoot_18 rfl (lv_at hl 2 rfl) ?_
      refine lv_iadd hx hb db_clearRoot_19 ?_
      refine lv_lconst (v := 0) hx hb db_clearRoot_20 (by decide) ?_
      obtain ⟨a2, ea2, ia2, hf⟩ := wrL_some hf
      refine bt_roots hx hb hK hB ia2 ea2 db_clearRoot_21 (fun H locs hB => ?_)
      refine lv_iinc (v := (x3 + 1)) (lv' := [(3, .int (x3 + 1)), (0, .ref (gm 0)), (2, .int x2)]) hx hb db_clearRoot_22 hl (k := 2) rfl rfl (by decide) rfl (fun ls hl => ?_)
      refine lv_goto (tgt := 7) hx hb db_clearRoot_25 (by decide) ?_
      exact ih _ _ _ _ _ _ hB (lv_sub hl [1, 2, 0] rfl) hf
set_option maxRecDepth 100000 in
set_option maxHeartbeats 4000000 in
theorem wb_clearRoot_0 {p : Program} {l : Launch} {e : Env} {s : State} {m : MethodId} {args : Array Value} {below : List Frame} {meth : Method} {c : Code} {D : va_G} {gm : Nat → Nat} {ca : Nat → ClassId} {A : Nat → Prop} {st : BSt} (hX : BX p l e rmb_clearRoot s m args meth c D ca A kb_clearRoot 4 (none)) (hB : BWd D gm ca A s.heap st s.heap []) (n : Nat) : ∀ (x1 : Int32) {st' : BSt} (ls : Array Slot), lv_has ls 4 [(0, .ref (gm 0)), (1, .int x1)] → fb_clearRoot n st x1 = some st' → W p l e rmb_clearRoot s m args below meth c s.heap [] 0 0 (MQX below (mm_Q D gm ca A (XV) st') args s 0 0 A) (F0 m 0 ls []) := by
  obtain ⟨hx, hb, hml, hr, hlk, hown, hts, hK, htr, hZ, hnh, hA, hfl⟩ := id hX
  intro x1 st' ls hl hf
  rw [fb_clearRoot] at hf
  refine lv_iload_n hx hb db_clearRoot_0 rfl (lv_at hl 1 rfl) ?_
  refine lv_bipush (v := 20) hx hb db_clearRoot_1 (by decide) ?_
  refine lv_imul hx hb db_clearRoot_3 ?_
  refine lv_istore_n (lv' := [(2, .int (x1 * 20)), (0, .ref (gm 0)), (1, .int x1)]) hx hb db_clearRoot_4 rfl hl (by decide) rfl (fun ls hl => ?_)
  refine lv_iconst (v := 0) hx hb db_clearRoot_5 (by decide) ?_
  refine lv_istore_n (lv' := [(3, .int 0), (2, .int (x1 * 20)), (0, .ref (gm 0)), (1, .int x1)]) hx hb db_clearRoot_6 rfl hl (by decide) rfl (fun ls hl => ?_)
  exact wb_clearRoot_7 hX n n _ _ _ _ _ _ hB (lv_sub hl [2, 1, 0] rfl) hf
set_option maxRecDepth 100000 in
set_option maxHeartbeats 4000000 in
theorem cb_clearRoot {l : Launch} (hfl : l.flags = flags0) {D : va_G} {gm : Nat → Nat} {ca : Nat → ClassId} {st : BSt} {n : Nat} {x1 : Int32} {st' : BSt} (hf : fb_clearRoot n st x1 = some st') : MM l yb_clearRoot rmb_clearRoot D gm ca [.int x1] st (XV) st' :=
  MM.of hfl (by decide +kernel) rfl mcb_clearRoot (fun p e s m below meth c A _ hX hB => wb_clearRoot_0 hX hB n _ _ (lv_entry _ (Nat.le_of_ble_eq_true rfl)) hf)
set_option maxRecDepth 100000 in
set_option maxHeartbeats 4000000 in
theorem wb_sumOf_5 {p : Program} {l : Launch} {e : Env} {s : State} {m : MethodId} {args : Array Value} {below : List Frame} {meth : Method} {c : Code} {D : va_G} {a0 : Nat} {cA : ClassId} {f0 : Nat → Int64} {k0 : Nat} (hX : SX p l e rmb_sumOf s m args meth c D cA kb_sumOf 8 (some .long)) (hP : va_P D vwCl [(a0, .inl (cA, k0, .inr (.inl f0)))] s.heap) (n : Nat) :∀ (k : Nat), ∀ (x1 : Int32) (x2 : Int32) (x3 : Int64) (x5 : Int32) {r : Int64} (ls : Array Slot), lv_has ls 8 [(0, .ref a0), (1, .int x1), (2, .int x2), (3, .long x3), (5, .int x5)] → fb_sumOf_5 n f0 k0 k x1 x2 x3 x5 = some r → W p l e rmb_sumOf s m args below meth c s.heap [] 0 0 (MQX below (xx_Q (XL r)) args s 0 0 (fun _ => False)) (F0 m 5 ls []) := by
  obtain ⟨hx, hb, hml, hr, hlk, hown, hts, hK, hfl⟩ := id hX
  intro k
  induction k with
  | zero =>
    intro x1 x2 x3 x5 r ls hl hf
    rw [fb_sumOf_5] at hf
    cases hf
  | succ k ih =>
    intro x1 x2 x3 x5 r ls hl hf
    rw [fb_sumOf_5] at hf
    refine lv_iload hx hb db_sumOf_5 (lv_at hl 4 rfl) ?_
    refine lv_iload_n hx hb db_sumOf_7 rfl (lv_at hl 1 rfl) ?_
    refine lv_iload_n hx hb db_sumOf_8 rfl (lv_at hl 2 rfl) ?_
    refine lv_iadd hx hb db_sumOf_9 ?_
    refine lv_icmp_ge (tgt := 42) hx hb db_sumOf_10 (by decide) (fun c1 => ?_) (fun c1 => ?_)
    · have hf := ifp c1 hf
      refine lv_lload_n hx hb db_sumOf_42 rfl (lv_at hl 3 rfl) ?_
      refine lv_lconst (v := 1) hx hb db_sumOf_43 (by decide) ?_
      refine lv_lxor hx hb db_sumOf_44 ?_
      cases hf
      exact er_l hx hb hr hlk db_sumOf_45
    · have hf := ifn c1 hf
      refine lv_lload_n hx hb db_sumOf_13 rfl (lv_at hl 3 rfl) ?_
      refine lv_aload_n hx hb db_sumOf_14 rfl (lv_at hl 0 rfl) ?_
      refine lv_iload hx hb db_sumOf_15 (lv_at hl 4 rfl) ?_
      obtain ⟨r2, er2, ir2, hf⟩ := rdL_some hf
      refine ba_ld hx hb hK hP ir2 er2 db_sumOf_17 ?_
      refine lv_lxor hx hb db_sumOf_18 ?_
      refine lv_lstore (lv' := [(6, .long (x3 ^^^ r2)), (0, .ref a0), (1, .int x1), (2, .int x2), (3, .long x3), (5, .int x5)]) hx hb db_sumOf_19 hl (by decide) rfl (fun ls hl => ?_)
      refine lv_lload hx hb db_sumOf_21 (lv_at hl 0 rfl) ?_
      refine lv_iconst (v := 5) hx hb db_sumOf_23 (by decide) ?_
      refine lv_lshl hx hb db_sumOf_24 rfl ?_
      refine lv_lload hx hb db_sumOf_25 (lv_at hl 0 rfl) ?_
      refine lv_bipush (v := 59) hx hb db_sumOf_27 (by decide) ?_
      refine lv_lushr hx hb db_sumOf_29 rfl ?_
      refine lv_lor hx hb db_sumOf_30 ?_
      refine lv_ldc2 (v := (-7046029254386353131)) hx hb hown (kcb_186 hts) db_sumOf_31 ?_
      refine lv_lmul hx hb db_sumOf_34 ?_
      refine lv_lstore_n (lv' := [(3, .long ((((x3 ^^^ r2) <<< ((5 : Int32).toInt64 &&& 63)) ||| ((x3 ^^^ r2).toUInt64 >>> ((59 : Int32).toInt64.toUInt64 &&& Int64.toUInt64 63)).toInt64) * (-7046029254386353131))), (6, .long (x3 ^^^ r2)), (0, .ref a0), (1, .int x1), (2, .int x2), (5, .int x5)]) hx hb db_sumOf_35 rfl hl (by decide) rfl (fun ls hl => ?_)
      refine lv_iinc (v := (x5 + 1)) (lv' := [(5, .int (x5 + 1)), (3, .long ((((x3 ^^^ r2) <<< ((5 : Int32).toInt64 &&& 63)) ||| ((x3 ^^^ r2).toUInt64 >>> ((59 : Int32).toInt64.toUInt64 &&& Int64.toUInt64 63)).toInt64) * (-7046029254386353131))), (6, .long (x3 ^^^ r2)), (0, .ref a0), (1, .int x1), (2, .int x2)]) hx hb db_sumOf_36 hl (k := 5) rfl rfl (by decide) rfl (fun ls hl => ?_)
      refine lv_goto (tgt := 5) hx hb db_sumOf_39 (by decide) ?_
      exact ih _ _ _ _ _ (lv_sub hl [3, 4, 5, 1, 0] rfl) hf
set_option maxRecDepth 100000 in
set_option maxHeartbeats 4000000 in
theorem wb_sumOf_0 {p : Program} {l : Launch} {e : Env} {s : State} {m : MethodId} {args : Array Value} {below : List Frame} {meth : Method} {c : Code} {D : va_G} {a0 : Nat} {cA : ClassId} {f0 : Nat → Int64} {k0 : Nat} (hX : SX p l e rmb_sumOf s m args meth c D cA kb_sumOf 8 (some .long)) (hP : va_P D vwCl [(a0, .inl (cA, k0, .inr (.inl f0)))] s.heap) (n : Nat) : ∀ (x1 : Int32) (x2 : Int32) {r : Int64} (ls : Array Slot), lv_has ls 8 [(0, .ref a0), (1, .int x1), (2, .int x2)] → fb_sumOf n f0 k0 x1 x2 = some r → W p l e rmb_sumOf s m args below meth c s.heap [] 0 0 (MQX below (xx_Q (XL r)) args s 0 0 (fun _ => False)) (F0 m 0 ls []) := by
  obtain ⟨hx, hb, hml, hr, hlk, hown, hts, hK, hfl⟩ := id hX
  intro x1 x2 r ls hl hf
  rw [fb_sumOf] at hf
  refine lv_lconst (v := 0) hx hb db_sumOf_0 (by decide) ?_
  refine lv_lstore_n (lv' := [(3, .long 0), (0, .ref a0), (1, .int x1), (2, .int x2)]) hx hb db_sumOf_1 rfl hl (by decide) rfl (fun ls hl => ?_)
  refine lv_iload_n hx hb db_sumOf_2 rfl (lv_at hl 2 rfl) ?_
  refine lv_istore (lv' := [(5, .int x1), (3, .long 0), (0, .ref a0), (1, .int x1), (2, .int x2)]) hx hb db_sumOf_3 hl (by decide) rfl (fun ls hl => ?_)
  exact wb_sumOf_5 hX hP n n _ _ _ _ _ (lv_sub hl [2, 3, 4, 1, 0] rfl) hf
set_option maxRecDepth 100000 in
set_option maxHeartbeats 4000000 in
theorem cb_sumOf {l : Launch} (hfl : l.flags = flags0) {D : va_G} {a0 : Nat} {cA : ClassId} {f0 : Nat → Int64} {k0 n : Nat} {x1 : Int32} {x2 : Int32} {r : Int64} (hf : fb_sumOf n f0 k0 x1 x2 = some r) : SA l yb_sumOf rmb_sumOf D a0 cA f0 k0 [.int x1, .int x2] (XL r) :=
  SA.of hfl (by decide +kernel) rfl mcb_sumOf (fun p e s m below meth c hX hP => wb_sumOf_0 hX hP n _ _ _ (lv_entry _ (Nat.le_of_ble_eq_true rfl)) hf)
set_option maxRecDepth 100000 in
set_option maxHeartbeats 4000000 in
theorem wb_makeRootZeroAnew_0 {p : Program} {l : Launch} {e : Env} {s : State} {m : MethodId} {args : Array Value} {below : List Frame} {meth : Method} {c : Code} {D : va_G} {gm : Nat → Nat} {ca : Nat → ClassId} {A : Nat → Prop} {st : BSt} (hX : BX p l e rmb_makeRootZeroAnew s m args meth c D ca A kb_makeRootZeroAnew 1 (none)) (hB : BWd D gm ca A s.heap st s.heap []) (n : Nat) : ∀ {st' : BSt} (ls : Array Slot), lv_has ls 1 [(0, .ref (gm 0))] → fb_makeRootZeroAnew n st = some st' → W p l e rmb_makeRootZeroAnew s m args below meth c s.heap [] 0 0 (MQX below (mm_Q D gm ca A (XV) st') args s 0 0 A) (F0 m 0 ls []) := by
  obtain ⟨hx, hb, hml, hr, hlk, hown, hts, hK, htr, hZ, hnh, hA, hfl⟩ := id hX
  intro st' ls hl hf
  rw [fb_makeRootZeroAnew] at hf
  refine lv_aload_n hx hb db_makeRootZeroAnew_0 rfl (lv_at hl 0 rfl) ?_
  refine lv_iconst (v := 0) hx hb db_makeRootZeroAnew_1 (by decide) ?_
  obtain ⟨st1, h2, hf⟩ := obs hf
  refine mmV (cb_clearRoot (l := l) (hfl := hfl) h2) (cw_clearRoot hts ⟨by decide, by decide⟩) hx hb hml hown hts hK hB hZ hA hl.1 rfl rfl (lv_room (Nat.le_of_ble_eq_true rfl)) db_makeRootZeroAnew_2 ⟨by decide, by decide⟩ (fun H locs hB => ?_)
  refine lv_aload_n hx hb db_makeRootZeroAnew_5 rfl (lv_at hl 0 rfl) ?_
  refine bg_roots hx hb hown hts hK hB.1 db_makeRootZeroAnew_6 ?_
  refine lv_bipush (v := 19) hx hb db_makeRootZeroAnew_9 (by decide) ?_
  refine lv_aload_n hx hb db_makeRootZeroAnew_11 rfl (lv_at hl 0 rfl) ?_
  refine bg_roots hx hb hown hts hK hB.1 db_makeRootZeroAnew_12 ?_
  refine lv_iconst (v := 0) hx hb db_makeRootZeroAnew_15 (by decide) ?_
  refine lv_bipush (v := 19) hx hb db_makeRootZeroAnew_16 (by decide) ?_
  obtain ⟨r3, h4, hf⟩ := obs hf
  refine saL (cb_sumOf (l := l) (hfl := hfl) h4) (cw_sumOf hts ⟨by decide, by decide⟩) hx hb hml hown hts hK hB.1 2 1 rfl rfl hl.1 rfl rfl (lv_room (Nat.le_of_ble_eq_true rfl)) db_makeRootZeroAnew_18 ⟨by decide, by decide⟩ ?_
  obtain ⟨a5, ea5, ia5, hf⟩ := wrL_some hf
  refine bt_roots hx hb hK hB ia5 ea5 db_makeRootZeroAnew_21 (fun H locs hB => ?_)
  cases hf
  exact em_v hx hb hr hlk hB db_makeRootZeroAnew_22
set_option maxRecDepth 100000 in
set_option maxHeartbeats 4000000 in
theorem cb_makeRootZeroAnew {l : Launch} (hfl : l.flags = flags0) {D : va_G} {gm : Nat → Nat} {ca : Nat → ClassId} {st : BSt} {n : Nat} {st' : BSt} (hf : fb_makeRootZeroAnew n st = some st') : MM l yb_makeRootZeroAnew rmb_makeRootZeroAnew D gm ca [] st (XV) st' :=
  MM.of hfl (by decide +kernel) rfl mcb_makeRootZeroAnew (fun p e s m below meth c A _ hX hB => wb_makeRootZeroAnew_0 hX hB n _ (lv_entry _ (Nat.le_of_ble_eq_true rfl)) hf)
set_option maxRecDepth 100000 in
set_option maxHeartbeats 4000000 in
theorem wb_requireOpen_0 {p : Program} {l : Launch} {e : Env} {s : State} {m : MethodId} {args : Array Value} {below : List Frame} {meth : Method} {c : Code} {D : va_G} {gm : Nat → Nat} {ca : Nat → ClassId} {A : Nat → Prop} {st : BSt} (hX : BX p l e rmb_requireOpen s m args meth c D ca A kb_requireOpen 1 (none)) (hP : va_P D vwCl (wB gm ca st) s.heap) (n : Nat) : ∀ {r : Unit ⊕ Nat} (ls : Array Slot), lv_has ls 1 [(0, .ref (gm 0))] → fb_requireOpen n st = some r → W p l e rmb_requireOpen s m args below meth c s.heap [] 0 0 (MQX below (xx_Q (xu r)) args s 1 6 (fun _ => False)) (F0 m 0 ls []) := by
  obtain ⟨hx, hb, hml, hr, hlk, hown, hts, hK, htr, hZ, hnh, hA, hfl⟩ := id hX
  intro r ls hl hf
  rw [fb_requireOpen] at hf
  refine lv_aload_n hx hb db_requireOpen_0 rfl (lv_at hl 0 rfl) ?_
  refine bg_closed hx hb hown hts hK hP db_requireOpen_1 ?_
  refine lv_if_eq (tgt := 17) hx hb db_requireOpen_4 (by decide) (fun c1 => ?_) (fun c1 => ?_)
  · have hf := ifp c1 hf
    cases hf
    refine W.widen (k := 1) (n := 6) (by decide) (by decide) ?_
    exact er_v hx hb hr hlk db_requireOpen_17
  · have hf := ifn c1 hf
    cases hf
    exact rt_throw th_0_168 hX hl.1 db_requireOpen_7 db_requireOpen_10 db_requireOpen_11 db_requireOpen_13 db_requireOpen_16 ⟨by decide, by decide⟩ ⟨by decide, by decide⟩
set_option maxRecDepth 100000 in
set_option maxHeartbeats 4000000 in
theorem cb_requireOpen {l : Launch} (hfl : l.flags = flags0) {D : va_G} {gm : Nat → Nat} {ca : Nat → ClassId} {st : BSt} {n : Nat} {r : Unit ⊕ Nat} (hf : fb_requireOpen n st = some r) : RM l yb_requireOpen rmb_requireOpen D gm ca [] st (xu r) :=
  RM.of hfl (by decide +kernel) rfl mcb_requireOpen (fun p e s m below meth c hX hP => wb_requireOpen_0 hX hP n _ (lv_entry _ (Nat.le_of_ble_eq_true rfl)) hf)
set_option maxRecDepth 100000 in
set_option maxHeartbeats 4000000 in
theorem wb_rootOf_0 {p : Program} {l : Launch} {e : Env} {s : State} {m : MethodId} {args : Array Value} {below : List Frame} {meth : Method} {c : Code} (hX : p.tables.exec = Jvm.exec ∧ c.code = kb_rootOf ∧ c.maxLocals = 1 ∧ meth.sig.returnType = some .int ∧ meth.locks = false ∧ s.vm.findClass RB = some m.cls ∧ (∀ w ∈ lw_g, w.before args s = true) ∧ l.flags = flags0) (n : Nat) : ∀ (x0 : Int32) {r : Int32} (ls : Array Slot), lv_has ls 1 [(0, .int x0)] → fb_rootOf n x0 = some r → W p l e rmb_rootOf s m args below meth c s.heap [] 0 0 (MQX below (xx_Q (XI r)) args s 0 0 (fun _ => False)) (F0 m 0 ls []) := by
  obtain ⟨hx, hb, hml, hr, hlk, hown, hts, hfl⟩ := id hX
  intro x0 r ls hl hf
  rw [fb_rootOf] at hf
  refine lv_iload_n hx hb db_rootOf_0 rfl (lv_at hl 0 rfl) ?_
  refine lv_bipush (v := 8) hx hb db_rootOf_1 (by decide) ?_
  obtain ⟨r1, h2, hf⟩ := obs hf
  refine smI (cj_floorMod (l := l) (hfl := hfl) h2) (cw_b_floorMod hts ⟨by decide, by decide⟩) hx hb hml hown hts hl.1 rfl rfl (lv_room (Nat.le_of_ble_eq_true rfl)) db_rootOf_3 ⟨by decide, by decide⟩ ?_
  cases hf
  exact er_i hx hb hr hlk db_rootOf_6
set_option maxRecDepth 100000 in
set_option maxHeartbeats 4000000 in
theorem cb_rootOf {l : Launch} (hfl : l.flags = flags0) {n : Nat} {x0 : Int32} {r : Int32} (hf : fb_rootOf n x0 = some r) : SM l yb_rootOf rmb_rootOf [.int x0] (XI r) :=
  SM.of hfl (by decide +kernel) rfl mcb_rootOf (fun p e s m below meth c h1 h2 h3 h4 h5 h6 h7 => wb_rootOf_0 ⟨h1, h2, h3, h4, h5, h6, h7, hfl⟩ n _ _ (lv_entry _ (Nat.le_of_ble_eq_true rfl)) hf)
set_option maxRecDepth 100000 in
set_option maxHeartbeats 4000000 in
theorem wb_hasRootSum_0 {p : Program} {l : Launch} {e : Env} {s : State} {m : MethodId} {args : Array Value} {below : List Frame} {meth : Method} {c : Code} {D : va_G} {gm : Nat → Nat} {ca : Nat → ClassId} {A : Nat → Prop} {st : BSt} (hX : BX p l e rmb_hasRootSum s m args meth c D ca A kb_hasRootSum 3 (some .boolean)) (hP : va_P D vwCl (wB gm ca st) s.heap) (n : Nat) : ∀ (x1 : Int32) {r : Int32} (ls : Array Slot), lv_has ls 3 [(0, .ref (gm 0)), (1, .int x1)] → fb_hasRootSum n st x1 = some r → W p l e rmb_hasRootSum s m args below meth c s.heap [] 0 0 (MQX below (xx_Q (XI r)) args s 0 0 (fun _ => False)) (F0 m 0 ls []) := by
  obtain ⟨hx, hb, hml, hr, hlk, hown, hts, hK, htr, hZ, hnh, hA, hfl⟩ := id hX
  intro x1 r ls hl hf
  rw [fb_hasRootSum] at hf
  refine lv_iload_n hx hb db_hasRootSum_0 rfl (lv_at hl 1 rfl) ?_
  refine lv_bipush (v := 20) hx hb db_hasRootSum_1 (by decide) ?_
  refine lv_imul hx hb db_hasRootSum_3 ?_
  refine lv_istore_n (lv' := [(2, .int (x1 * 20)), (0, .ref (gm 0)), (1, .int x1)]) hx hb db_hasRootSum_4 rfl hl (by decide) rfl (fun ls hl => ?_)
  refine lv_aload_n hx hb db_hasRootSum_5 rfl (lv_at hl 1 rfl) ?_
  refine bg_roots hx hb hown hts hK hP db_hasRootSum_6 ?_
  refine lv_iload_n hx hb db_hasRootSum_9 rfl (lv_at hl 0 rfl) ?_
  refine lv_bipush (v := 19) hx hb db_hasRootSum_10 (by decide) ?_
  refine lv_iadd hx hb db_hasRootSum_12 ?_
  obtain ⟨r1, er1, ir1, hf⟩ := rdL_some hf
  refine bl_roots hx hb hK hP ir1 er1 db_hasRootSum_13 ?_
  refine lv_aload_n hx hb db_hasRootSum_14 rfl (lv_at hl 1 rfl) ?_
  refine bg_roots hx hb hown hts hK hP db_hasRootSum_15 ?_
  refine lv_iload_n hx hb db_hasRootSum_18 rfl (lv_at hl 0 rfl) ?_
  refine lv_bipush (v := 19) hx hb db_hasRootSum_19 (by decide) ?_
  obtain ⟨r2, h3, hf⟩ := obs hf
  refine saL (cb_sumOf (l := l) (hfl := hfl) h3) (cw_sumOf hts ⟨by decide, by decide⟩) hx hb hml hown hts hK hP 2 1 rfl rfl hl.1 rfl rfl (lv_room (Nat.le_of_ble_eq_true rfl)) db_hasRootSum_21 ⟨by decide, by decide⟩ ?_
  refine W.lcmp hx hb db_hasRootSum_24 ?_
  refine lv_if_ne (tgt := 32) hx hb db_hasRootSum_25 (by decide) (fun c4 => ?_) (fun c4 => ?_)
  · have hf := ifn c4 hf
    refine lv_iconst (v := 0) hx hb db_hasRootSum_32 (by decide) ?_
    cases hf
    exact er_z hx hb hr hlk rfl db_hasRootSum_33
  · have hf := ifp c4 hf
    refine lv_iconst (v := 1) hx hb db_hasRootSum_28 (by decide) ?_
    refine lv_goto (tgt := 33) hx hb db_hasRootSum_29 (by decide) ?_
    cases hf
    exact er_z hx hb hr hlk rfl db_hasRootSum_33
set_option maxRecDepth 100000 in
set_option maxHeartbeats 4000000 in
theorem cb_hasRootSum {l : Launch} (hfl : l.flags = flags0) {D : va_G} {gm : Nat → Nat} {ca : Nat → ClassId} {st : BSt} {n : Nat} {x1 : Int32} {r : Int32} (hf : fb_hasRootSum n st x1 = some r) : RM l yb_hasRootSum rmb_hasRootSum D gm ca [.int x1] st (XI r) :=
  RM.of hfl (by decide +kernel) rfl mcb_hasRootSum (fun p e s m below meth c hX hP => wb_hasRootSum_0 hX hP n _ _ (lv_entry _ (Nat.le_of_ble_eq_true rfl)) hf)
set_option maxRecDepth 100000 in
set_option maxHeartbeats 4000000 in
theorem wb_isSound_33 {p : Program} {l : Launch} {e : Env} {s : State} {m : MethodId} {args : Array Value} {below : List Frame} {meth : Method} {c : Code} {D : va_G} {gm : Nat → Nat} {ca : Nat → ClassId} {A : Nat → Prop} {st : BSt} (hX : BX p l e rmb_isSound s m args meth c D ca A kb_isSound 8 (some .boolean)) (hP : va_P D vwCl (wB gm ca st) s.heap) (n : Nat) :∀ (k : Nat), ∀ (x2 : Int32) (x3 : Int64) (x5 : Int32) {r : Int32} (ls : Array Slot), lv_has ls 8 [(0, .ref (gm 0)), (2, .int x2), (3, .long x3), (5, .int x5)] → fb_isSound_33 n k st x2 x3 x5 = some r → W p l e rmb_isSound s m args below meth c s.heap [] 0 0 (MQX below (xx_Q (XI r)) args s 0 0 (fun _ => False)) (F0 m 33 ls []) := by
  obtain ⟨hx, hb, hml, hr, hlk, hown, hts, hK, htr, hZ, hnh, hA, hfl⟩ := id hX
  intro k
  induction k with
  | zero =>
    intro x2 x3 x5 r ls hl hf
    rw [fb_isSound_33] at hf
    cases hf
  | succ k ih =>
    intro x2 x3 x5 r ls hl hf
    rw [fb_isSound_33] at hf
    refine lv_iload hx hb db_isSound_33 (lv_at hl 3 rfl) ?_
    refine lv_i2l hx hb db_isSound_35 rfl ?_
    refine lv_lload_n hx hb db_isSound_36 rfl (lv_at hl 2 rfl) ?_
    refine W.lcmp hx hb db_isSound_37 ?_
    refine lv_if_ge (tgt := 80) hx hb db_isSound_38 (by decide) (fun c1 => ?_) (fun c1 => ?_)
    · have hf := ifp c1 hf
      refine lv_iconst (v := 1) hx hb db_isSound_80 (by decide) ?_
      cases hf
      exact er_z hx hb hr hlk rfl db_isSound_81
    · have hf := ifn c1 hf
      refine lv_aload_n hx hb db_isSound_41 rfl (lv_at hl 0 rfl) ?_
      refine bg_roots hx hb hown hts hK hP db_isSound_42 ?_
      refine lv_iload_n hx hb db_isSound_45 rfl (lv_at hl 1 rfl) ?_
      refine lv_iconst (v := 2) hx hb db_isSound_46 (by decide) ?_
      refine lv_iadd hx hb db_isSound_47 ?_
      refine lv_iload hx hb db_isSound_48 (lv_at hl 3 rfl) ?_
      refine lv_iadd hx hb db_isSound_50 ?_
      obtain ⟨r2, er2, ir2, hf⟩ := rdL_some hf
      refine bl_roots hx hb hK hP ir2 er2 db_isSound_51 ?_
      refine lv_lstore (lv' := [(6, .long r2), (0, .ref (gm 0)), (2, .int x2), (3, .long x3), (5, .int x5)]) hx hb db_isSound_52 hl (by decide) rfl (fun ls hl => ?_)
      refine lv_lload hx hb db_isSound_54 (lv_at hl 0 rfl) ?_
      refine lv_lconst (v := 0) hx hb db_isSound_56 (by decide) ?_
      refine W.lcmp hx hb db_isSound_57 ?_
      refine lv_if_lt (tgt := 72) hx hb db_isSound_58 (by decide) (fun c3 => ?_) (fun c3 => ?_)
      · have hf := ifp c3 hf
        refine lv_iconst (v := 0) hx hb db_isSound_72 (by decide) ?_
        cases hf
        exact er_z hx hb hr hlk rfl db_isSound_73
      · have hf := ifn c3 hf
        refine lv_lload hx hb db_isSound_61 (lv_at hl 0 rfl) ?_
        refine lv_aload_n hx hb db_isSound_63 rfl (lv_at hl 1 rfl) ?_
        refine bg_pageCount hx hb hown hts hK hP db_isSound_64 ?_
        refine lv_i2l hx hb db_isSound_67 rfl ?_
        refine W.lcmp hx hb db_isSound_68 ?_
        refine lv_if_lt (tgt := 74) hx hb db_isSound_69 (by decide) (fun c4 => ?_) (fun c4 => ?_)
        · have hf := ifp c4 hf
          refine lv_iinc (v := (x5 + 1)) (lv' := [(5, .int (x5 + 1)), (6, .long r2), (0, .ref (gm 0)), (2, .int x2), (3, .long x3)]) hx hb db_isSound_74 hl (k := 4) rfl rfl (by decide) rfl (fun ls hl => ?_)
          refine lv_goto (tgt := 33) hx hb db_isSound_77 (by decide) ?_
          exact ih _ _ _ _ (lv_sub hl [2, 3, 4, 0] rfl) hf
        · have hf := ifn c4 hf
          refine lv_iconst (v := 0) hx hb db_isSound_72 (by decide) ?_
          cases hf
          exact er_z hx hb hr hlk rfl db_isSound_73
set_option maxRecDepth 100000 in
set_option maxHeartbeats 4000000 in
theorem wb_isSound_0 {p : Program} {l : Launch} {e : Env} {s : State} {m : MethodId} {args : Array Value} {below : List Frame} {meth : Method} {c : Code} {D : va_G} {gm : Nat → Nat} {ca : Nat → ClassId} {A : Nat → Prop} {st : BSt} (hX : BX p l e rmb_isSound s m args meth c D ca A kb_isSound 8 (some .boolean)) (hP : va_P D vwCl (wB gm ca st) s.heap) (n : Nat) : ∀ (x1 : Int32) {r : Int32} (ls : Array Slot), lv_has ls 8 [(0, .ref (gm 0)), (1, .int x1)] → fb_isSound n st x1 = some r → W p l e rmb_isSound s m args below meth c s.heap [] 0 0 (MQX below (xx_Q (XI r)) args s 0 0 (fun _ => False)) (F0 m 0 ls []) := by
  obtain ⟨hx, hb, hml, hr, hlk, hown, hts, hK, htr, hZ, hnh, hA, hfl⟩ := id hX
  intro x1 r ls hl hf
  rw [fb_isSound] at hf
  refine lv_iload_n hx hb db_isSound_0 rfl (lv_at hl 1 rfl) ?_
  refine lv_bipush (v := 20) hx hb db_isSound_1 (by decide) ?_
  refine lv_imul hx hb db_isSound_3 ?_
  refine lv_istore_n (lv' := [(2, .int (x1 * 20)), (0, .ref (gm 0)), (1, .int x1)]) hx hb db_isSound_4 rfl hl (by decide) rfl (fun ls hl => ?_)
  refine lv_aload_n hx hb db_isSound_5 rfl (lv_at hl 1 rfl) ?_
  refine bg_roots hx hb hown hts hK hP db_isSound_6 ?_
  refine lv_iload_n hx hb db_isSound_9 rfl (lv_at hl 0 rfl) ?_
  refine lv_iconst (v := 1) hx hb db_isSound_10 (by decide) ?_
  refine lv_iadd hx hb db_isSound_11 ?_
  obtain ⟨r1, er1, ir1, hf⟩ := rdL_some hf
  refine bl_roots hx hb hK hP ir1 er1 db_isSound_12 ?_
  refine lv_lstore_n (lv' := [(3, .long r1), (2, .int (x1 * 20)), (0, .ref (gm 0)), (1, .int x1)]) hx hb db_isSound_13 rfl hl (by decide) rfl (fun ls hl => ?_)
  refine lv_lload_n hx hb db_isSound_14 rfl (lv_at hl 0 rfl) ?_
  refine lv_lconst (v := 0) hx hb db_isSound_15 (by decide) ?_
  refine W.lcmp hx hb db_isSound_16 ?_
  refine lv_if_lt (tgt := 28) hx hb db_isSound_17 (by decide) (fun c2 => ?_) (fun c2 => ?_)
  · have hf := ifp c2 hf
    refine lv_iconst (v := 0) hx hb db_isSound_28 (by decide) ?_
    cases hf
    exact er_z hx hb hr hlk rfl db_isSound_29
  · have hf := ifn c2 hf
    refine lv_lload_n hx hb db_isSound_20 rfl (lv_at hl 0 rfl) ?_
    refine lv_ldc2 (v := 16) hx hb hown (kcb_198 hts) db_isSound_21 ?_
    refine W.lcmp hx hb db_isSound_24 ?_
    refine lv_if_le (tgt := 30) hx hb db_isSound_25 (by decide) (fun c3 => ?_) (fun c3 => ?_)
    · have hf := ifp c3 hf
      refine lv_iconst (v := 0) hx hb db_isSound_30 (by decide) ?_
      refine lv_istore (lv' := [(5, .int 0), (3, .long r1), (2, .int (x1 * 20)), (0, .ref (gm 0)), (1, .int x1)]) hx hb db_isSound_31 hl (by decide) rfl (fun ls hl => ?_)
      exact wb_isSound_33 hX hP n n _ _ _ _ (lv_sub hl [3, 2, 1, 0] rfl) hf
    · have hf := ifn c3 hf
      refine lv_iconst (v := 0) hx hb db_isSound_28 (by decide) ?_
      cases hf
      exact er_z hx hb hr hlk rfl db_isSound_29
set_option maxRecDepth 100000 in
set_option maxHeartbeats 4000000 in
theorem cb_isSound {l : Launch} (hfl : l.flags = flags0) {D : va_G} {gm : Nat → Nat} {ca : Nat → ClassId} {st : BSt} {n : Nat} {x1 : Int32} {r : Int32} (hf : fb_isSound n st x1 = some r) : RM l yb_isSound rmb_isSound D gm ca [.int x1] st (XI r) :=
  RM.of hfl (by decide +kernel) rfl mcb_isSound (fun p e s m below meth c hX hP => wb_isSound_0 hX hP n _ _ (lv_entry _ (Nat.le_of_ble_eq_true rfl)) hf)
set_option maxRecDepth 100000 in
set_option maxHeartbeats 4000000 in
theorem wb_leavesOf_0 {p : Program} {l : Launch} {e : Env} {s : State} {m : MethodId} {args : Array Value} {below : List Frame} {meth : Method} {c : Code} {D : va_G} {gm : Nat → Nat} {ca : Nat → ClassId} {A : Nat → Prop} {st : BSt} (hX : BX p l e rmb_leavesOf s m args meth c D ca A kb_leavesOf 2 (some .int)) (hP : va_P D vwCl (wB gm ca st) s.heap) (n : Nat) : ∀ (x1 : Int32) {r : Int32} (ls : Array Slot), lv_has ls 2 [(0, .ref (gm 0)), (1, .int x1)] → fb_leavesOf n st x1 = some r → W p l e rmb_leavesOf s m args below meth c s.heap [] 0 0 (MQX below (xx_Q (XI r)) args s 0 0 (fun _ => False)) (F0 m 0 ls []) := by
  obtain ⟨hx, hb, hml, hr, hlk, hown, hts, hK, htr, hZ, hnh, hA, hfl⟩ := id hX
  intro x1 r ls hl hf
  rw [fb_leavesOf] at hf
  refine lv_aload_n hx hb db_leavesOf_0 rfl (lv_at hl 0 rfl) ?_
  refine bg_roots hx hb hown hts hK hP db_leavesOf_1 ?_
  refine lv_iload_n hx hb db_leavesOf_4 rfl (lv_at hl 1 rfl) ?_
  refine lv_bipush (v := 20) hx hb db_leavesOf_5 (by decide) ?_
  refine lv_imul hx hb db_leavesOf_7 ?_
  refine lv_iconst (v := 1) hx hb db_leavesOf_8 (by decide) ?_
  refine lv_iadd hx hb db_leavesOf_9 ?_
  obtain ⟨r1, er1, ir1, hf⟩ := rdL_some hf
  refine bl_roots hx hb hK hP ir1 er1 db_leavesOf_10 ?_
  refine lv_l2i hx hb db_leavesOf_11 rfl ?_
  cases hf
  exact er_i hx hb hr hlk db_leavesOf_12
set_option maxRecDepth 100000 in
set_option maxHeartbeats 4000000 in
theorem cb_leavesOf {l : Launch} (hfl : l.flags = flags0) {D : va_G} {gm : Nat → Nat} {ca : Nat → ClassId} {st : BSt} {n : Nat} {x1 : Int32} {r : Int32} (hf : fb_leavesOf n st x1 = some r) : RM l yb_leavesOf rmb_leavesOf D gm ca [.int x1] st (XI r) :=
  RM.of hfl (by decide +kernel) rfl mcb_leavesOf (fun p e s m below meth c hX hP => wb_leavesOf_0 hX hP n _ _ (lv_entry _ (Nat.le_of_ble_eq_true rfl)) hf)
set_option maxRecDepth 100000 in
set_option maxHeartbeats 4000000 in
theorem wb_pageOf_0 {p : Program} {l : Launch} {e : Env} {s : State} {m : MethodId} {args : Array Value} {below : List Frame} {meth : Method} {c : Code} {D : va_G} {gm : Nat → Nat} {ca : Nat → ClassId} {A : Nat → Prop} {st : BSt} (hX : BX p l e rmb_pageOf s m args meth c D ca A kb_pageOf 3 (some .int)) (hP : va_P D vwCl (wB gm ca st) s.heap) (n : Nat) : ∀ (x1 : Int32) (x2 : Int32) {r : Int32} (ls : Array Slot), lv_has ls 3 [(0, .ref (gm 0)), (1, .int x1), (2, .int x2)] → fb_pageOf n st x1 x2 = some r → W p l e rmb_pageOf s m args below meth c s.heap [] 0 0 (MQX below (xx_Q (XI r)) args s 0 0 (fun _ => False)) (F0 m 0 ls []) := by
  obtain ⟨hx, hb, hml, hr, hlk, hown, hts, hK, htr, hZ, hnh, hA, hfl⟩ := id hX
  intro x1 x2 r ls hl hf
  rw [fb_pageOf] at hf
  refine lv_aload_n hx hb db_pageOf_0 rfl (lv_at hl 0 rfl) ?_
  refine bg_roots hx hb hown hts hK hP db_pageOf_1 ?_
  refine lv_iload_n hx hb db_pageOf_4 rfl (lv_at hl 1 rfl) ?_
  refine lv_bipush (v := 20) hx hb db_pageOf_5 (by decide) ?_
  refine lv_imul hx hb db_pageOf_7 ?_
  refine lv_iconst (v := 2) hx hb db_pageOf_8 (by decide) ?_
  refine lv_iadd hx hb db_pageOf_9 ?_
  refine lv_iload_n hx hb db_pageOf_10 rfl (lv_at hl 2 rfl) ?_
  refine lv_iadd hx hb db_pageOf_11 ?_
  obtain ⟨r1, er1, ir1, hf⟩ := rdL_some hf
  refine bl_roots hx hb hK hP ir1 er1 db_pageOf_12 ?_
  refine lv_l2i hx hb db_pageOf_13 rfl ?_
  cases hf
  exact er_i hx hb hr hlk db_pageOf_14
set_option maxRecDepth 100000 in
set_option maxHeartbeats 4000000 in
theorem cb_pageOf {l : Launch} (hfl : l.flags = flags0) {D : va_G} {gm : Nat → Nat} {ca : Nat → ClassId} {st : BSt} {n : Nat} {x1 : Int32} {x2 : Int32} {r : Int32} (hf : fb_pageOf n st x1 x2 = some r) : RM l yb_pageOf rmb_pageOf D gm ca [.int x1, .int x2] st (XI r) :=
  RM.of hfl (by decide +kernel) rfl mcb_pageOf (fun p e s m below meth c hX hP => wb_pageOf_0 hX hP n _ _ _ (lv_entry _ (Nat.le_of_ble_eq_true rfl)) hf)
set_option maxRecDepth 100000 in
set_option maxHeartbeats 4000000 in
theorem wb_isRightPage_36 {p : Program} {l : Launch} {e : Env} {s : State} {m : MethodId} {args : Array Value} {below : List Frame} {meth : Method} {c : Code} {D : va_G} {gm : Nat → Nat} {ca : Nat → ClassId} {A : Nat → Prop} {st : BSt} (hX : BX p l e rmb_isRightPage s m args meth c D ca A kb_isRightPage 10 (some .boolean)) (hP : va_P D vwCl (wB gm ca st) s.heap) (n : Nat) :∀ (k : Nat), ∀ (x2 : Int32) (x3 : Int64) (x5 : Int64) (x7 : Int32) {r : Int32} (ls : Array Slot), lv_has ls 10 [(0, .ref (gm 0)), (2, .int x2), (3, .long x3), (5, .long x5), (7, .int x7)] → fb_isRightPage_36 n k st x2 x3 x5 x7 = some r → W p l e rmb_isRightPage s m args below meth c s.heap [] 0 0 (MQX below (xx_Q (XI r)) args s 0 0 (fun _ => False)) (F0 m 36 ls []) := by
  obtain ⟨hx, hb, hml, hr, hlk, hown, hts, hK, htr, hZ, hnh, hA, hfl⟩ := id hX
  intro k
  induction k with
  | zero =>
    intro x2 x3 x5 x7 r ls hl hf
    rw [fb_isRightPage_36] at hf
    cases hf
  | succ k ih =>
    intro x2 x3 x5 x7 r ls hl hf
    rw [fb_isRightPage_36] at hf
    refine lv_iload hx hb db_isRightPage_36 (lv_at hl 4 rfl) ?_
    refine lv_i2l hx hb db_isRightPage_38 rfl ?_
    refine lv_lload_n hx hb db_isRightPage_39 rfl (lv_at hl 2 rfl) ?_
    refine W.lcmp hx hb db_isRightPage_40 ?_
    refine lv_if_ge (tgt := 88) hx hb db_isRightPage_41 (by decide) (fun c1 => ?_) (fun c1 => ?_)
    · have hf := ifp c1 hf
      refine lv_aload_n hx hb db_isRightPage_88 rfl (lv_at hl 0 rfl) ?_
      refine bg_pages hx hb hown hts hK hP db_isRightPage_89 ?_
      refine lv_iload_n hx hb db_isRightPage_92 rfl (lv_at hl 1 rfl) ?_
      refine lv_bipush (v := 15) hx hb db_isRightPage_93 (by decide) ?_
      refine lv_iadd hx hb db_isRightPage_95 ?_
      obtain ⟨r2, er2, ir2, hf⟩ := rdL_some hf
      refine bl_pages hx hb hK hP ir2 er2 db_isRightPage_96 ?_
      refine lv_aload_n hx hb db_isRightPage_97 rfl (lv_at hl 0 rfl) ?_
      refine bg_pages hx hb hown hts hK hP db_isRightPage_98 ?_
      refine lv_iload_n hx hb db_isRightPage_101 rfl (lv_at hl 1 rfl) ?_
      refine lv_bipush (v := 15) hx hb db_isRightPage_102 (by decide) ?_
      obtain ⟨r3, h4, hf⟩ := obs hf
      refine saL (cb_sumOf (l := l) (hfl := hfl) h4) (cw_sumOf hts ⟨by decide, by decide⟩) hx hb hml hown hts hK hP 1 0 rfl rfl hl.1 rfl rfl (lv_room (Nat.le_of_ble_eq_true rfl)) db_isRightPage_104 ⟨by decide, by decide⟩ ?_
      refine W.lcmp hx hb db_isRightPage_107 ?_
      refine lv_if_ne (tgt := 115) hx hb db_isRightPage_108 (by decide) (fun c5 => ?_) (fun c5 => ?_)
      · have hf := ifn c5 hf
        refine lv_iconst (v := 0) hx hb db_isRightPage_115 (by decide) ?_
        cases hf
        exact er_z hx hb hr hlk rfl db_isRightPage_116
      · have hf := ifp c5 hf
        refine lv_iconst (v := 1) hx hb db_isRightPage_111 (by decide) ?_
        refine lv_goto (tgt := 116) hx hb db_isRightPage_112 (by decide) ?_
        cases hf
        exact er_z hx hb hr hlk rfl db_isRightPage_116
    · have hf := ifn c1 hf
      refine lv_aload_n hx hb db_isRightPage_44 rfl (lv_at hl 0 rfl) ?_
      refine bg_pages hx hb hown hts hK hP db_isRightPage_45 ?_
      refine lv_iload_n hx hb db_isRightPage_48 rfl (lv_at hl 1 rfl) ?_
      refine lv_iconst (v := 1) hx hb db_isRightPage_49 (by decide) ?_
      refine lv_iadd hx hb db_isRightPage_50 ?_
      refine lv_iconst (v := 2) hx hb db_isRightPage_51 (by decide) ?_
      refine lv_iload hx hb db_isRightPage_52 (lv_at hl 4 rfl) ?_
      refine lv_imul hx hb db_isRightPage_54 ?_
      refine lv_iadd hx hb db_isRightPage_55 ?_
      obtain ⟨r6, er6, ir6, hf⟩ := rdL_some hf
      refine bl_pages hx hb hK hP ir6 er6 db_isRightPage_56 ?_
      refine lv_lstore (lv' := [(8, .long r6), (0, .ref (gm 0)), (2, .int x2), (3, .long x3), (5, .long x5), (7, .int x7)]) hx hb db_isRightPage_57 hl (by decide) rfl (fun ls hl => ?_)
      refine lv_lload hx hb db_isRightPage_59 (lv_at hl 0 rfl) ?_
      refine lv_lload hx hb db_isRightPage_61 (lv_at hl 4 rfl) ?_
      refine W.lcmp hx hb db_isRightPage_63 ?_
      refine lv_if_le (tgt := 76) hx hb db_isRightPage_64 (by decide) (fun c7 => ?_) (fun c7 => ?_)
      · have hf := ifp c7 hf
        refine lv_iconst (v := 0) hx hb db_isRightPage_76 (by decide) ?_
        cases hf
        exact er_z hx hb hr hlk rfl db_isRightPage_77
      · have hf := ifn c7 hf
        refine lv_lload hx hb db_isRightPage_67 (lv_at hl 0 rfl) ?_
        refine lv_ldc2 (v := 1000000) hx hb hown (kcb_192 hts) db_isRightPage_69 ?_
        refine W.lcmp hx hb db_isRightPage_72 ?_
        refine lv_if_le (tgt := 78) hx hb db_isRightPage_73 (by decide) (fun c8 => ?_) (fun c8 => ?_)
        · have hf := ifp c8 hf
          refine lv_lload hx hb db_isRightPage_78 (lv_at hl 0 rfl) ?_
          refine lv_lstore (lv' := [(5, .long r6), (8, .long r6), (0, .ref (gm 0)), (2, .int x2), (3, .long x3), (7, .int x7)]) hx hb db_isRightPage_80 hl (by decide) rfl (fun ls hl => ?_)
          refine lv_iinc (v := (x7 + 1)) (lv' := [(7, .int (x7 + 1)), (5, .long r6), (8, .long r6), (0, .ref (gm 0)), (2, .int x2), (3, .long x3)]) hx hb db_isRightPage_82 hl (k := 5) rfl rfl (by decide) rfl (fun ls hl => ?_)
          refine lv_goto (tgt := 36) hx hb db_isRightPage_85 (by decide) ?_
          exact ih _ _ _ _ _ (lv_sub hl [3, 4, 5, 1, 0] rfl) hf
        · have hf := ifn c8 hf
          refine lv_iconst (v := 0) hx hb db_isRightPage_76 (by decide) ?_
          cases hf
          exact er_z hx hb hr hlk rfl db_isRightPage_77
set_option maxRecDepth 100000 in
set_option maxHeartbeats 4000000 in
theorem wb_isRightPage_0 {p : Program} {l : Launch} {e : Env} {s : State} {m : MethodId} {args : Array Value} {below : List Frame} {meth : Method} {c : Code} {D : va_G} {gm : Nat → Nat} {ca : Nat → ClassId} {A : Nat → Prop} {st : BSt} (hX : BX p l e rmb_isRightPage s m args meth c D ca A kb_isRightPage 10 (some .boolean)) (hP : va_P D vwCl (wB gm ca st) s.heap) (n : Nat) : ∀ (x1 : Int32) {r : Int32} (ls : Array Slot), lv_has ls 10 [(0, .ref (gm 0)), (1, .int x1)] → fb_isRightPage n st x1 = some r → W p l e rmb_isRightPage s m args below meth c s.heap [] 0 0 (MQX below (xx_Q (XI r)) args s 0 0 (fun _ => False)) (F0 m 0 ls []) := by
  obtain ⟨hx, hb, hml, hr, hlk, hown, hts, hK, htr, hZ, hnh, hA, hfl⟩ := id hX
  intro x1 r ls hl hf
  rw [fb_isRightPage] at hf
  refine lv_iload_n hx hb db_isRightPage_0 rfl (lv_at hl 1 rfl) ?_
  refine lv_bipush (v := 16) hx hb db_isRightPage_1 (by decide) ?_
  refine lv_imul hx hb db_isRightPage_3 ?_
  refine lv_istore_n (lv' := [(2, .int (x1 * 16)), (0, .ref (gm 0)), (1, .int x1)]) hx hb db_isRightPage_4 rfl hl (by decide) rfl (fun ls hl => ?_)
  refine lv_aload_n hx hb db_isRightPage_5 rfl (lv_at hl 1 rfl) ?_
  refine bg_pages hx hb hown hts hK hP db_isRightPage_6 ?_
  refine lv_iload_n hx hb db_isRightPage_9 rfl (lv_at hl 0 rfl) ?_
  obtain ⟨r1, er1, ir1, hf⟩ := rdL_some hf
  refine bl_pages hx hb hK hP ir1 er1 db_isRightPage_10 ?_
  refine lv_lstore_n (lv' := [(3, .long r1), (2, .int (x1 * 16)), (0, .ref (gm 0)), (1, .int x1)]) hx hb db_isRightPage_11 rfl hl (by decide) rfl (fun ls hl => ?_)
  refine lv_lload_n hx hb db_isRightPage_12 rfl (lv_at hl 0 rfl) ?_
  refine lv_lconst (v := 0) hx hb db_isRightPage_13 (by decide) ?_
  refine W.lcmp hx hb db_isRightPage_14 ?_
  refine lv_if_lt (tgt := 26) hx hb db_isRightPage_15 (by decide) (fun c2 => ?_) (fun c2 => ?_)
  · have hf := ifp c2 hf
    refine lv_iconst (v := 0) hx hb db_isRightPage_26 (by decide) ?_
    cases hf
    exact er_z hx hb hr hlk rfl db_isRightPage_27
  · have hf := ifn c2 hf
    refine lv_lload_n hx hb db_isRightPage_18 rfl (lv_at hl 0 rfl) ?_
    refine lv_ldc2 (v := 7) hx hb hown (kcb_188 hts) db_isRightPage_19 ?_
    refine W.lcmp hx hb db_isRightPage_22 ?_
    refine lv_if_le (tgt := 28) hx hb db_isRightPage_23 (by decide) (fun c3 => ?_) (fun c3 => ?_)
    · have hf := ifp c3 hf
      refine lv_ldc2 (v := (-1)) hx hb hown (kcb_190 hts) db_isRightPage_28 ?_
      refine lv_lstore (lv' := [(5, .long (-1)), (3, .long r1), (2, .int (x1 * 16)), (0, .ref (gm 0)), (1, .int x1)]) hx hb db_isRightPage_31 hl (by decide) rfl (fun ls hl => ?_)
      refine lv_iconst (v := 0) hx hb db_isRightPage_33 (by decide) ?_
      refine lv_istore (lv' := [(7, .int 0), (5, .long (-1)), (3, .long r1), (2, .int (x1 * 16)), (0, .ref (gm 0)), (1, .int x1)]) hx hb db_isRightPage_34 hl (by decide) rfl (fun ls hl => ?_)
      exact wb_isRightPage_36 hX hP n n _ _ _ _ _ (lv_sub hl [4, 3, 2, 1, 0] rfl) hf
    · have hf := ifn c3 hf
      refine lv_iconst (v := 0) hx hb db_isRightPage_26 (by decide) ?_
      cases hf
      exact er_z hx hb hr hlk rfl db_isRightPage_27
set_option maxRecDepth 100000 in
set_option maxHeartbeats 4000000 in
theorem cb_isRightPage {l : Launch} (hfl : l.flags = flags0) {D : va_G} {gm : Nat → Nat} {ca : Nat → ClassId} {st : BSt} {n : Nat} {x1 : Int32} {r : Int32} (hf : fb_isRightPage n st x1 = some r) : RM l yb_isRightPage rmb_isRightPage D gm ca [.int x1] st (XI r) :=
  RM.of hfl (by decide +kernel) rfl mcb_isRightPage (fun p e s m below meth c hX hP => wb_isRightPage_0 hX hP n _ _ (lv_entry _ (Nat.le_of_ble_eq_true rfl)) hf)
set_option maxRecDepth 100000 in
set_option maxHeartbeats 4000000 in
theorem wb_entriesOf_0 {p : Program} {l : Launch} {e : Env} {s : State} {m : MethodId} {args : Array Value} {below : List Frame} {meth : Method} {c : Code} {D : va_G} {gm : Nat → Nat} {ca : Nat → ClassId} {A : Nat → Prop} {st : BSt} (hX : BX p l e rmb_entriesOf s m args meth c D ca A kb_entriesOf 2 (some .int)) (hP : va_P D vwCl (wB gm ca st) s.heap) (n : Nat) : ∀ (x1 : Int32) {r : Int32} (ls : Array Slot), lv_has ls 2 [(0, .ref (gm 0)), (1, .int x1)] → fb_entriesOf n st x1 = some r → W p l e rmb_entriesOf s m args below meth c s.heap [] 0 0 (MQX below (xx_Q (XI r)) args s 0 0 (fun _ => False)) (F0 m 0 ls []) := by
  obtain ⟨hx, hb, hml, hr, hlk, hown, hts, hK, htr, hZ, hnh, hA, hfl⟩ := id hX
  intro x1 r ls hl hf
  rw [fb_entriesOf] at hf
  refine lv_aload_n hx hb db_entriesOf_0 rfl (lv_at hl 0 rfl) ?_
  refine bg_pages hx hb hown hts hK hP db_entriesOf_1 ?_
  refine lv_iload_n hx hb db_entriesOf_4 rfl (lv_at hl 1 rfl) ?_
  refine lv_bipush (v := 16) hx hb db_entriesOf_5 (by decide) ?_
  refine lv_imul hx hb db_entriesOf_7 ?_
  obtain ⟨r1, er1, ir1, hf⟩ := rdL_some hf
  refine bl_pages hx hb hK hP ir1 er1 db_entriesOf_8 ?_
  refine lv_l2i hx hb db_entriesOf_9 rfl ?_
  cases hf
  exact er_i hx hb hr hlk db_entriesOf_10
set_option maxRecDepth 100000 in
set_option maxHeartbeats 4000000 in
theorem cb_entriesOf {l : Launch} (hfl : l.flags = flags0) {D : va_G} {gm : Nat → Nat} {ca : Nat → ClassId} {st : BSt} {n : Nat} {x1 : Int32} {r : Int32} (hf : fb_entriesOf n st x1 = some r) : RM l yb_entriesOf rmb_entriesOf D gm ca [.int x1] st (XI r) :=
  RM.of hfl (by decide +kernel) rfl mcb_entriesOf (fun p e s m below meth c hX hP => wb_entriesOf_0 hX hP n _ _ (lv_entry _ (Nat.le_of_ble_eq_true rfl)) hf)
set_option maxRecDepth 100000 in
set_option maxHeartbeats 4000000 in
theorem wb_entryAt_0 {p : Program} {l : Launch} {e : Env} {s : State} {m : MethodId} {args : Array Value} {below : List Frame} {meth : Method} {c : Code} (hX : p.tables.exec = Jvm.exec ∧ c.code = kb_entryAt ∧ c.maxLocals = 2 ∧ meth.sig.returnType = some .int ∧ meth.locks = false ∧ s.vm.findClass RB = some m.cls ∧ (∀ w ∈ lw_g, w.before args s = true) ∧ l.flags = flags0) (n : Nat) : ∀ (x0 : Int32) (x1 : Int32) {r : Int32} (ls : Array Slot), lv_has ls 2 [(0, .int x0), (1, .int x1)] → fb_entryAt n x0 x1 = some r → W p l e rmb_entryAt s m args below meth c s.heap [] 0 0 (MQX below (xx_Q (XI r)) args s 0 0 (fun _ => False)) (F0 m 0 ls []) := by
  obtain ⟨hx, hb, hml, hr, hlk, hown, hts, hfl⟩ := id hX
  intro x0 x1 r ls hl hf
  rw [fb_entryAt] at hf
  refine lv_iload_n hx hb db_entryAt_0 rfl (lv_at hl 0 rfl) ?_
  refine lv_bipush (v := 16) hx hb db_entryAt_1 (by decide) ?_
  refine lv_imul hx hb db_entryAt_3 ?_
  refine lv_iconst (v := 1) hx hb db_entryAt_4 (by decide) ?_
  refine lv_iadd hx hb db_entryAt_5 ?_
  refine lv_iconst (v := 2) hx hb db_entryAt_6 (by decide) ?_
  refine lv_iload_n hx hb db_entryAt_7 rfl (lv_at hl 1 rfl) ?_
  refine lv_imul hx hb db_entryAt_8 ?_
  refine lv_iadd hx hb db_entryAt_9 ?_
  cases hf
  exact er_i hx hb hr hlk db_entryAt_10
set_option maxRecDepth 100000 in
set_option maxHeartbeats 4000000 in
theorem cb_entryAt {l : Launch} (hfl : l.flags = flags0) {n : Nat} {x0 : Int32} {x1 : Int32} {r : Int32} (hf : fb_entryAt n x0 x1 = some r) : SM l yb_entryAt rmb_entryAt [.int x0, .int x1] (XI r) :=
  SM.of hfl (by decide +kernel) rfl mcb_entryAt (fun p e s m below meth c h1 h2 h3 h4 h5 h6 h7 => wb_entryAt_0 ⟨h1, h2, h3, h4, h5, h6, h7, hfl⟩ n _ _ _ (lv_entry _ (Nat.le_of_ble_eq_true rfl)) hf)
set_option maxRecDepth 100000 in
set_option maxHeartbeats 4000000 in
theorem wb_firstKey_0 {p : Program} {l : Launch} {e : Env} {s : State} {m : MethodId} {args : Array Value} {below : List Frame} {meth : Method} {c : Code} {D : va_G} {gm : Nat → Nat} {ca : Nat → ClassId} {A : Nat → Prop} {st : BSt} (hX : BX p l e rmb_firstKey s m args meth c D ca A kb_firstKey 2 (some .long)) (hP : va_P D vwCl (wB gm ca st) s.heap) (n : Nat) : ∀ (x1 : Int32) {r : Int64} (ls : Array Slot), lv_has ls 2 [(0, .ref (gm 0)), (1, .int x1)] → fb_firstKey n st x1 = some r → W p l e rmb_firstKey s m args below meth c s.heap [] 0 0 (MQX below (xx_Q (XL r)) args s 0 0 (fun _ => False)) (F0 m 0 ls []) := by
  obtain ⟨hx, hb, hml, hr, hlk, hown, hts, hK, htr, hZ, hnh, hA, hfl⟩ := id hX
  intro x1 r ls hl hf
  rw [fb_firstKey] at hf
  refine lv_aload_n hx hb db_firstKey_0 rfl (lv_at hl 0 rfl) ?_
  refine bg_pages hx hb hown hts hK hP db_firstKey_1 ?_
  refine lv_iload_n hx hb db_firstKey_4 rfl (lv_at hl 1 rfl) ?_
  refine lv_iconst (v := 0) hx hb db_firstKey_5 (by decide) ?_
  obtain ⟨r1, h2, hf⟩ := obs hf
  refine smI (cb_entryAt (l := l) (hfl := hfl) h2) (cw_entryAt hts ⟨by decide, by decide⟩) hx hb hml hown hts hl.1 rfl rfl (lv_room (Nat.le_of_ble_eq_true rfl)) db_firstKey_6 ⟨by decide, by decide⟩ ?_
  obtain ⟨r3, er3, ir3, hf⟩ := rdL_some hf
  refine bl_pages hx hb hK hP ir3 er3 db_firstKey_9 ?_
  cases hf
  exact er_l hx hb hr hlk db_firstKey_10
set_option maxRecDepth 100000 in
set_option maxHeartbeats 4000000 in
theorem cb_firstKey {l : Launch} (hfl : l.flags = flags0) {D : va_G} {gm : Nat → Nat} {ca : Nat → ClassId} {st : BSt} {n : Nat} {x1 : Int32} {r : Int64} (hf : fb_firstKey n st x1 = some r) : RM l yb_firstKey rmb_firstKey D gm ca [.int x1] st (XL r) :=
  RM.of hfl (by decide +kernel) rfl mcb_firstKey (fun p e s m below meth c hX hP => wb_firstKey_0 hX hP n _ _ (lv_entry _ (Nat.le_of_ble_eq_true rfl)) hf)
set_option maxRecDepth 100000 in
set_option maxHeartbeats 4000000 in
theorem wb_lastKey_0 {p : Program} {l : Launch} {e : Env} {s : State} {m : MethodId} {args : Array Value} {below : List Frame} {meth : Method} {c : Code} {D : va_G} {gm : Nat → Nat} {ca : Nat → ClassId} {A : Nat → Prop} {st : BSt} (hX : BX p l e rmb_lastKey s m args meth c D ca A kb_lastKey 2 (some .long)) (hP : va_P D vwCl (wB gm ca st) s.heap) (n : Nat) : ∀ (x1 : Int32) {r : Int64} (ls : Array Slot), lv_has ls 2 [(0, .ref (gm 0)), (1, .int x1)] → fb_lastKey n st x1 = some r → W p l e rmb_lastKey s m args below meth c s.heap [] 0 0 (MQX below (xx_Q (XL r)) args s 0 0 (fun _ => False)) (F0 m 0 ls []) := by
  obtain ⟨hx, hb, hml, hr, hlk, hown, hts, hK, htr, hZ, hnh, hA, hfl⟩ := id hX
  intro x1 r ls hl hf
  rw [fb_lastKey] at hf
  refine lv_aload_n hx hb db_lastKey_0 rfl (lv_at hl 0 rfl) ?_
  refine bg_pages hx hb hown hts hK hP db_lastKey_1 ?_
  refine lv_iload_n hx hb db_lastKey_4 rfl (lv_at hl 1 rfl) ?_
  refine lv_aload_n hx hb db_lastKey_5 rfl (lv_at hl 0 rfl) ?_
  refine lv_iload_n hx hb db_lastKey_6 rfl (lv_at hl 1 rfl) ?_
  obtain ⟨r1, h2, hf⟩ := obs hf
  refine rmI (cb_entriesOf (l := l) (hfl := hfl) h2) (cw_entriesOf hts ⟨by decide, by decide⟩) hx hb hml hown hts hK hP va_S.rf hZ hl.1 rfl rfl (lv_room (Nat.le_of_ble_eq_true rfl)) db_lastKey_7 ⟨by decide, by decide⟩ ?_
  refine lv_iconst (v := 1) hx hb db_lastKey_10 (by decide) ?_
  refine lv_isub hx hb db_lastKey_11 ?_
  obtain ⟨r3, h4, hf⟩ := obs hf
  refine smI (cb_entryAt (l := l) (hfl := hfl) h4) (cw_entryAt hts ⟨by decide, by decide⟩) hx hb hml hown hts hl.1 rfl rfl (lv_room (Nat.le_of_ble_eq_true rfl)) db_lastKey_12 ⟨by decide, by decide⟩ ?_
  obtain ⟨r5, er5, ir5, hf⟩ := rdL_some hf
  refine bl_pages hx hb hK hP ir5 er5 db_lastKey_15 ?_
  cases hf
  exact er_l hx hb hr hlk db_lastKey_16
set_option maxRecDepth 100000 in
set_option maxHeartbeats 4000000 in
theorem cb_lastKey {l : Launch} (hfl : l.flags = flags0) {D : va_G} {gm : Nat → Nat} {ca : Nat → ClassId} {st : BSt} {n : Nat} {x1 : Int32} {r : Int64} (hf : fb_lastKey n st x1 = some r) : RM l yb_lastKey rmb_lastKey D gm ca [.int x1] st (XL r) :=
  RM.of hfl (by decide +kernel) rfl mcb_lastKey (fun p e s m below meth c hX hP => wb_lastKey_0 hX hP n _ _ (lv_entry _ (Nat.le_of_ble_eq_true rfl)) hf)
