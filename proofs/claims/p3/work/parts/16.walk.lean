set_option maxRecDepth 100000 in
set_option maxHeartbeats 4000000 in
theorem wb_drop_0 {p : Program} {l : Launch} {e : Env} {s : State} {m : MethodId} {args : Array Value} {below : List Frame} {meth : Method} {c : Code} {D : va_G} {gm : Nat → Nat} {ca : Nat → ClassId} {A : Nat → Prop} {st : BSt} (hX : BX p l e rmb_drop s m args meth c D ca A kb_drop 4 (some .int)) (hB : BWd D gm ca A s.heap st s.heap []) (n : Nat) : ∀ (x1 : Int32) {r : Int32 ⊕ Nat} {st' : BSt} (ls : Array Slot), lv_has ls 4 [(0, .ref (gm 0)), (1, .int x1)] → fb_drop n st x1 = some (r, st') → W p l e rmb_drop s m args below meth c s.heap [] 0 0 (MQX below (mm_Q D gm ca A (xi r) st') args s 4 24 A) (F0 m 0 ls []) := by
  obtain ⟨hx, hb, hml, hr, hlk, hown, hts, hK, htr, hZ, hnh, hA, hfl⟩ := id hX
  intro x1 r st' ls hl hf
  rw [fb_drop] at hf
  refine lv_aload_n hx hb db_drop_0 rfl (lv_at hl 0 rfl) ?_
  rcases thnS_some hf with ⟨r1, h2, hf⟩ | ⟨k3, h2, hf⟩
  rotate_left 1
  · cases hf
    refine rmT (cb_requireWritable (l := l) (hfl := hfl) h2) (cw_requireWritable hts ⟨by decide, by decide⟩) hx hb hml hown hts hK hB.1 hB.2.2 hZ hl.1 rfl rfl (lv_room (Nat.le_of_ble_eq_true rfl)) db_drop_1 ⟨by decide, by decide⟩ (fun x t h1 h2 h3 h4 h5 => ?_)
    refine WT.widen (k := 4) (n := 24) (by decide) (by decide) ?_
    exact mt_outR hX hB h1 h2 h3 h4 h5
  refine rmV (cb_requireWritable (l := l) (hfl := hfl) h2) (cw_requireWritable hts ⟨by decide, by decide⟩) hx hb hml hown hts hK hB.1 hB.2.2 hZ hl.1 rfl rfl (lv_room (Nat.le_of_ble_eq_true rfl)) db_drop_1 ⟨by decide, by decide⟩ ?_
  refine lv_aload_n hx hb db_drop_4 rfl (lv_at hl 0 rfl) ?_
  refine lv_iload_n hx hb db_drop_5 rfl (lv_at hl 1 rfl) ?_
  rcases thnS_some hf with ⟨r4, h5, hf⟩ | ⟨k6, h5, hf⟩
  rotate_left 1
  · cases hf
    refine rmT (cb_requireKey (l := l) (hfl := hfl) h5) (cw_requireKey hts ⟨by decide, by decide⟩) hx hb hml hown hts hK hB.1 hB.2.2 hZ hl.1 rfl rfl (lv_room (Nat.le_of_ble_eq_true rfl)) db_drop_6 ⟨by decide, by decide⟩ (fun x t h1 h2 h3 h4 h5 => ?_)
    refine WT.widen (k := 4) (n := 24) (by decide) (by decide) ?_
    exact mt_outR hX hB h1 h2 h3 h4 h5
  refine rmV (cb_requireKey (l := l) (hfl := hfl) h5) (cw_requireKey hts ⟨by decide, by decide⟩) hx hb hml hown hts hK hB.1 hB.2.2 hZ hl.1 rfl rfl (lv_room (Nat.le_of_ble_eq_true rfl)) db_drop_6 ⟨by decide, by decide⟩ ?_
  refine lv_aload_n hx hb db_drop_9 rfl (lv_at hl 0 rfl) ?_
  refine bg_newest hx hb hown hts hK hB.1 db_drop_10 ?_
  obtain ⟨r7, h8, hf⟩ := obs hf
  refine smI (cb_rootOf (l := l) (hfl := hfl) h8) (cw_rootOf hts ⟨by decide, by decide⟩) hx hb hml hown hts hl.1 rfl rfl (lv_room (Nat.le_of_ble_eq_true rfl)) db_drop_13 ⟨by decide, by decide⟩ ?_
  refine lv_istore_n (lv' := [(2, .int r7), (0, .ref (gm 0)), (1, .int x1)]) hx hb db_drop_16 rfl hl (by decide) rfl (fun ls hl => ?_)
  refine lv_aload_n hx hb db_drop_17 rfl (lv_at hl 1 rfl) ?_
  refine lv_iload_n hx hb db_drop_18 rfl (lv_at hl 0 rfl) ?_
  refine lv_iload_n hx hb db_drop_19 rfl (lv_at hl 2 rfl) ?_
  obtain ⟨r9, h10, hf⟩ := obs hf
  refine rmI (cb_leafFor (l := l) (hfl := hfl) h10) (cw_leafFor hts ⟨by decide, by decide⟩) hx hb hml hown hts hK hB.1 hB.2.2 hZ hl.1 rfl rfl (lv_room (Nat.le_of_ble_eq_true rfl)) db_drop_20 ⟨by decide, by decide⟩ ?_
  refine lv_istore_n (lv' := [(3, .int r9), (2, .int r7), (0, .ref (gm 0)), (1, .int x1)]) hx hb db_drop_23 rfl hl (by decide) rfl (fun ls hl => ?_)
  refine lv_aload_n hx hb db_drop_24 rfl (lv_at hl 2 rfl) ?_
  refine lv_iload_n hx hb db_drop_25 rfl (lv_at hl 1 rfl) ?_
  refine lv_iload_n hx hb db_drop_26 rfl (lv_at hl 0 rfl) ?_
  obtain ⟨st11, h12, hf⟩ := obs hf
  refine mmV (cb_loadDraft (l := l) (hfl := hfl) h12) (cw_loadDraft hts ⟨by decide, by decide⟩) hx hb hml hown hts hK hB hZ hA hl.1 rfl rfl (lv_room (Nat.le_of_ble_eq_true rfl)) db_drop_27 ⟨by decide, by decide⟩ (fun H locs hB => ?_)
  refine lv_aload_n hx hb db_drop_30 rfl (lv_at hl 2 rfl) ?_
  refine lv_iload_n hx hb db_drop_31 rfl (lv_at hl 3 rfl) ?_
  obtain ⟨⟨r13, st14⟩, h15, hf⟩ := obs hf
  refine mmI (cb_dropFromDraft (l := l) (hfl := hfl) h15) (cw_dropFromDraft hts ⟨by decide, by decide⟩) hx hb hml hown hts hK hB hZ hA hl.1 rfl rfl (lv_room (Nat.le_of_ble_eq_true rfl)) db_drop_32 ⟨by decide, by decide⟩ (fun H locs hB => ?_)
  refine lv_if_ne (tgt := 40) hx hb db_drop_35 (by decide) (fun c16 => ?_) (fun c16 => ?_)
  · have hf := ifn c16 hf
    refine lv_aload_n hx hb db_drop_40 rfl (lv_at hl 2 rfl) ?_
    refine lv_iload_n hx hb db_drop_41 rfl (lv_at hl 1 rfl) ?_
    refine lv_iload_n hx hb db_drop_42 rfl (lv_at hl 0 rfl) ?_
    rcases thnM_some hf with ⟨r17, st18, h19, hf⟩ | ⟨k20, st18, h19, hf⟩
    rotate_left 1
    · cases hf
      refine mmT (cb_act (l := l) (hfl := hfl) h19) (cw_act hts ⟨by decide, by decide⟩) hx hb hml hown hts hK hB hZ hA hl.1 rfl rfl (lv_room (Nat.le_of_ble_eq_true rfl)) db_drop_43 ⟨by decide, by decide⟩ (fun H locs x t ht h1 h5 h4 hB => ?_)
      exact mt_outM hX ht h1 h5 h4 hB
    refine mmI (cb_act (l := l) (hfl := hfl) h19) (cw_act hts ⟨by decide, by decide⟩) hx hb hml hown hts hK hB hZ hA hl.1 rfl rfl (lv_room (Nat.le_of_ble_eq_true rfl)) db_drop_43 ⟨by decide, by decide⟩ (fun H locs hB => ?_)
    cases hf
    exact em_i hx hb hr hlk hB db_drop_46
  · have hf := ifp c16 hf
    refine lv_iconst (v := 0) hx hb db_drop_38 (by decide) ?_
    cases hf
    refine W.widen (k := 4) (n := 24) (by decide) (by decide) ?_
    exact em_i hx hb hr hlk hB db_drop_39
set_option maxRecDepth 100000 in
set_option maxHeartbeats 4000000 in
theorem cb_drop {l : Launch} (hfl : l.flags = flags0) {D : va_G} {gm : Nat → Nat} {ca : Nat → ClassId} {st : BSt} {n : Nat} {x1 : Int32} {r : Int32 ⊕ Nat} {st' : BSt} (hf : fb_drop n st x1 = some (r, st')) : MM l yb_drop rmb_drop D gm ca [.int x1] st (xi r) st' :=
  MM.of hfl (by decide +kernel) rfl mcb_drop (fun p e s m below meth c A _ hX hB => wb_drop_0 hX hB n _ _ (lv_entry _ (Nat.le_of_ble_eq_true rfl)) hf)
set_option maxRecDepth 100000 in
set_option maxHeartbeats 4000000 in
theorem wb_version_0 {p : Program} {l : Launch} {e : Env} {s : State} {m : MethodId} {args : Array Value} {below : List Frame} {meth : Method} {c : Code} {D : va_G} {gm : Nat → Nat} {ca : Nat → ClassId} {A : Nat → Prop} {st : BSt} (hX : BX p l e rmb_version s m args meth c D ca A kb_version 1 (some .int)) (hP : va_P D vwCl (wB gm ca st) s.heap) (n : Nat) : ∀ {r : Int32 ⊕ Nat} (ls : Array Slot), lv_has ls 1 [(0, .ref (gm 0))] → fb_version n st = some r → W p l e rmb_version s m args below meth c s.heap [] 0 0 (MQX below (xx_Q (xi r)) args s 1 6 (fun _ => False)) (F0 m 0 ls []) := by
  obtain ⟨hx, hb, hml, hr, hlk, hown, hts, hK, htr, hZ, hnh, hA, hfl⟩ := id hX
  intro r ls hl hf
  rw [fb_version] at hf
  refine lv_aload_n hx hb db_version_0 rfl (lv_at hl 0 rfl) ?_
  rcases thn_some hf with ⟨r1, h2, hf⟩ | ⟨k3, h2, hf⟩
  rotate_left 1
  · cases hf
    refine rmT (cb_requireOpen (l := l) (hfl := hfl) h2) (cw_requireOpen hts ⟨by decide, by decide⟩) hx hb hml hown hts hK hP va_S.rf hZ hl.1 rfl rfl (lv_room (Nat.le_of_ble_eq_true rfl)) db_version_1 ⟨by decide, by decide⟩ (fun x t h1 h2 h3 h4 h5 => ?_)
    exact rt_out hX h1 h2 h3 h4 h5
  refine rmV (cb_requireOpen (l := l) (hfl := hfl) h2) (cw_requireOpen hts ⟨by decide, by decide⟩) hx hb hml hown hts hK hP va_S.rf hZ hl.1 rfl rfl (lv_room (Nat.le_of_ble_eq_true rfl)) db_version_1 ⟨by decide, by decide⟩ ?_
  refine lv_aload_n hx hb db_version_4 rfl (lv_at hl 0 rfl) ?_
  refine bg_newest hx hb hown hts hK hP db_version_5 ?_
  cases hf
  exact er_i hx hb hr hlk db_version_8
set_option maxRecDepth 100000 in
set_option maxHeartbeats 4000000 in
theorem cb_version {l : Launch} (hfl : l.flags = flags0) {D : va_G} {gm : Nat → Nat} {ca : Nat → ClassId} {st : BSt} {n : Nat} {r : Int32 ⊕ Nat} (hf : fb_version n st = some r) : RM l yb_version rmb_version D gm ca [] st (xi r) :=
  RM.of hfl (by decide +kernel) rfl mcb_version (fun p e s m below meth c hX hP => wb_version_0 hX hP n _ (lv_entry _ (Nat.le_of_ble_eq_true rfl)) hf)
set_option maxRecDepth 100000 in
set_option maxHeartbeats 4000000 in
theorem wb_requireKept_0 {p : Program} {l : Launch} {e : Env} {s : State} {m : MethodId} {args : Array Value} {below : List Frame} {meth : Method} {c : Code} {D : va_G} {gm : Nat → Nat} {ca : Nat → ClassId} {A : Nat → Prop} {st : BSt} (hX : BX p l e rmb_requireKept s m args meth c D ca A kb_requireKept 2 (none)) (hP : va_P D vwCl (wB gm ca st) s.heap) (n : Nat) : ∀ (x1 : Int32) {r : Unit ⊕ Nat} (ls : Array Slot), lv_has ls 2 [(0, .ref (gm 0)), (1, .int x1)] → fb_requireKept n st x1 = some r → W p l e rmb_requireKept s m args below meth c s.heap [] 0 0 (MQX below (xx_Q (xu r)) args s 1 6 (fun _ => False)) (F0 m 0 ls []) := by
  obtain ⟨hx, hb, hml, hr, hlk, hown, hts, hK, htr, hZ, hnh, hA, hfl⟩ := id hX
  intro x1 r ls hl hf
  rw [fb_requireKept] at hf
  refine lv_aload_n hx hb db_requireKept_0 rfl (lv_at hl 0 rfl) ?_
  refine lv_iload_n hx hb db_requireKept_1 rfl (lv_at hl 1 rfl) ?_
  obtain ⟨r1, h2, hf⟩ := obs hf
  refine rmI (cb_isKept (l := l) (hfl := hfl) h2) (cw_isKept hts ⟨by decide, by decide⟩) hx hb hml hown hts hK hP va_S.rf hZ hl.1 rfl rfl (lv_room (Nat.le_of_ble_eq_true rfl)) db_requireKept_2 ⟨by decide, by decide⟩ ?_
  refine lv_if_ne (tgt := 18) hx hb db_requireKept_5 (by decide) (fun c3 => ?_) (fun c3 => ?_)
  · have hf := ifn c3 hf
    cases hf
    refine W.widen (k := 1) (n := 6) (by decide) (by decide) ?_
    exact er_v hx hb hr hlk db_requireKept_18
  · have hf := ifp c3 hf
    cases hf
    exact rt_throw th_2_178 hX hl.1 db_requireKept_8 db_requireKept_11 db_requireKept_12 db_requireKept_14 db_requireKept_17 ⟨by decide, by decide⟩ ⟨by decide, by decide⟩
set_option maxRecDepth 100000 in
set_option maxHeartbeats 4000000 in
theorem cb_requireKept {l : Launch} (hfl : l.flags = flags0) {D : va_G} {gm : Nat → Nat} {ca : Nat → ClassId} {st : BSt} {n : Nat} {x1 : Int32} {r : Unit ⊕ Nat} (hf : fb_requireKept n st x1 = some r) : RM l yb_requireKept rmb_requireKept D gm ca [.int x1] st (xu r) :=
  RM.of hfl (by decide +kernel) rfl mcb_requireKept (fun p e s m below meth c hX hP => wb_requireKept_0 hX hP n _ _ (lv_entry _ (Nat.le_of_ble_eq_true rfl)) hf)
set_option maxRecDepth 100000 in
set_option maxHeartbeats 4000000 in
theorem wb_entryWithKey_33 {p : Program} {l : Launch} {e : Env} {s : State} {m : MethodId} {args : Array Value} {below : List Frame} {meth : Method} {c : Code} {D : va_G} {gm : Nat → Nat} {ca : Nat → ClassId} {A : Nat → Prop} {st : BSt} (hX : BX p l e rmb_entryWithKey s m args meth c D ca A kb_entryWithKey 7 (some .int)) (hP : va_P D vwCl (wB gm ca st) s.heap) (n : Nat) :∀ (k : Nat), ∀ (x2 : Int32) (x4 : Int32) (x5 : Int32) (x6 : Int32) {r : Int32} (ls : Array Slot), lv_has ls 7 [(0, .ref (gm 0)), (2, .int x2), (4, .int x4), (5, .int x5), (6, .int x6)] → fb_entryWithKey_33 n k st x2 x4 x5 x6 = some r → W p l e rmb_entryWithKey s m args below meth c s.heap [] 0 0 (MQX below (xx_Q (XI r)) args s 0 0 (fun _ => False)) (F0 m 33 ls []) := by
  obtain ⟨hx, hb, hml, hr, hlk, hown, hts, hK, htr, hZ, hnh, hA, hfl⟩ := id hX
  intro k
  induction k with
  | zero =>
    intro x2 x4 x5 x6 r ls hl hf
    rw [fb_entryWithKey_33] at hf
    cases hf
  | succ k ih =>
    intro x2 x4 x5 x6 r ls hl hf
    rw [fb_entryWithKey_33] at hf
    refine lv_iload hx hb db_entryWithKey_33 (lv_at hl 4 rfl) ?_
    refine lv_iload hx hb db_entryWithKey_35 (lv_at hl 3 rfl) ?_
    refine lv_icmp_ge (tgt := 72) hx hb db_entryWithKey_37 (by decide) (fun c1 => ?_) (fun c1 => ?_)
    · have hf := ifp c1 hf
      refine lv_iconst (v := (-1)) hx hb db_entryWithKey_72 (by decide) ?_
      cases hf
      exact er_i hx hb hr hlk db_entryWithKey_73
    · have hf := ifn c1 hf
      refine lv_aload_n hx hb db_entryWithKey_40 rfl (lv_at hl 0 rfl) ?_
      refine bg_pages hx hb hown hts hK hP db_entryWithKey_41 ?_
      refine lv_iload hx hb db_entryWithKey_44 (lv_at hl 2 rfl) ?_
      refine lv_iload hx hb db_entryWithKey_46 (lv_at hl 4 rfl) ?_
      obtain ⟨r2, h3, hf⟩ := obs hf
      refine smI (cb_entryAt (l := l) (hfl := hfl) h3) (cw_entryAt hts ⟨by decide, by decide⟩) hx hb hml hown hts hl.1 rfl rfl (lv_room (Nat.le_of_ble_eq_true rfl)) db_entryWithKey_48 ⟨by decide, by decide⟩ ?_
      obtain ⟨r4, er4, ir4, hf⟩ := rdL_some hf
      refine bl_pages hx hb hK hP ir4 er4 db_entryWithKey_51 ?_
      refine lv_iload_n hx hb db_entryWithKey_52 rfl (lv_at hl 1 rfl) ?_
      refine lv_i2l hx hb db_entryWithKey_53 rfl ?_
      refine W.lcmp hx hb db_entryWithKey_54 ?_
      refine lv_if_ne (tgt := 66) hx hb db_entryWithKey_55 (by decide) (fun c5 => ?_) (fun c5 => ?_)
      · have hf := ifn c5 hf
        refine lv_iinc (v := (x6 + 1)) (lv' := [(6, .int (x6 + 1)), (0, .ref (gm 0)), (2, .int x2), (4, .int x4), (5, .int x5)]) hx hb db_entryWithKey_66 hl (k := 4) rfl rfl (by decide) rfl (fun ls hl => ?_)
        refine lv_goto (tgt := 33) hx hb db_entryWithKey_69 (by decide) ?_
        exact ih _ _ _ _ _ (lv_sub hl [1, 2, 3, 4, 0] rfl) hf
      · have hf := ifp c5 hf
        refine lv_iload hx hb db_entryWithKey_58 (lv_at hl 2 rfl) ?_
        refine lv_iload hx hb db_entryWithKey_60 (lv_at hl 4 rfl) ?_
        obtain ⟨r6, h7, hf⟩ := obs hf
        refine smI (cb_entryAt (l := l) (hfl := hfl) h7) (cw_entryAt hts ⟨by decide, by decide⟩) hx hb hml hown hts hl.1 rfl rfl (lv_room (Nat.le_of_ble_eq_true rfl)) db_entryWithKey_62 ⟨by decide, by decide⟩ ?_
        cases hf
        exact er_i hx hb hr hlk db_entryWithKey_65
set_option maxRecDepth 100000 in
set_option maxHeartbeats 4000000 in
theorem wb_entryWithKey_0 {p : Program} {l : Launch} {e : Env} {s : State} {m : MethodId} {args : Array Value} {below : List Frame} {meth : Method} {c : Code} {D : va_G} {gm : Nat → Nat} {ca : Nat → ClassId} {A : Nat → Prop} {st : BSt} (hX : BX p l e rmb_entryWithKey s m args meth c D ca A kb_entryWithKey 7 (some .int)) (hP : va_P D vwCl (wB gm ca st) s.heap) (n : Nat) : ∀ (x1 : Int32) (x2 : Int32) {r : Int32} (ls : Array Slot), lv_has ls 7 [(0, .ref (gm 0)), (1, .int x1), (2, .int x2)] → fb_entryWithKey n st x1 x2 = some r → W p l e rmb_entryWithKey s m args below meth c s.heap [] 0 0 (MQX below (xx_Q (XI r)) args s 0 0 (fun _ => False)) (F0 m 0 ls []) := by
  obtain ⟨hx, hb, hml, hr, hlk, hown, hts, hK, htr, hZ, hnh, hA, hfl⟩ := id hX
  intro x1 x2 r ls hl hf
  rw [fb_entryWithKey] at hf
  refine lv_aload_n hx hb db_entryWithKey_0 rfl (lv_at hl 0 rfl) ?_
  refine lv_iload_n hx hb db_entryWithKey_1 rfl (lv_at hl 1 rfl) ?_
  refine lv_iload_n hx hb db_entryWithKey_2 rfl (lv_at hl 2 rfl) ?_
  obtain ⟨r1, h2, hf⟩ := obs hf
  refine rmI (cb_leafFor (l := l) (hfl := hfl) h2) (cw_leafFor hts ⟨by decide, by decide⟩) hx hb hml hown hts hK hP va_S.rf hZ hl.1 rfl rfl (lv_room (Nat.le_of_ble_eq_true rfl)) db_entryWithKey_3 ⟨by decide, by decide⟩ ?_
  refine lv_istore_n (lv' := [(3, .int r1), (0, .ref (gm 0)), (1, .int x1), (2, .int x2)]) hx hb db_entryWithKey_6 rfl hl (by decide) rfl (fun ls hl => ?_)
  refine lv_iload_n hx hb db_entryWithKey_7 rfl (lv_at hl 0 rfl) ?_
  refine lv_iconst (v := (-1)) hx hb db_entryWithKey_8 (by decide) ?_
  refine lv_icmp_ne (tgt := 14) hx hb db_entryWithKey_9 (by decide) (fun c3 => ?_) (fun c3 => ?_)
  · have hf := ifn c3 hf
    refine lv_aload_n hx hb db_entryWithKey_14 rfl (lv_at hl 1 rfl) ?_
    refine lv_iload_n hx hb db_entryWithKey_15 rfl (lv_at hl 2 rfl) ?_
    refine lv_iload_n hx hb db_entryWithKey_16 rfl (lv_at hl 0 rfl) ?_
    obtain ⟨r4, h5, hf⟩ := obs hf
    refine rmI (cb_pageOf (l := l) (hfl := hfl) h5) (cw_pageOf hts ⟨by decide, by decide⟩) hx hb hml hown hts hK hP va_S.rf hZ hl.1 rfl rfl (lv_room (Nat.le_of_ble_eq_true rfl)) db_entryWithKey_17 ⟨by decide, by decide⟩ ?_
    refine lv_istore (lv' := [(4, .int r4), (3, .int r1), (0, .ref (gm 0)), (1, .int x1), (2, .int x2)]) hx hb db_entryWithKey_20 hl (by decide) rfl (fun ls hl => ?_)
    refine lv_aload_n hx hb db_entryWithKey_22 rfl (lv_at hl 2 rfl) ?_
    refine lv_iload hx hb db_entryWithKey_23 (lv_at hl 0 rfl) ?_
    obtain ⟨r6, h7, hf⟩ := obs hf
    refine rmI (cb_entriesOf (l := l) (hfl := hfl) h7) (cw_entriesOf hts ⟨by decide, by decide⟩) hx hb hml hown hts hK hP va_S.rf hZ hl.1 rfl rfl (lv_room (Nat.le_of_ble_eq_true rfl)) db_entryWithKey_25 ⟨by decide, by decide⟩ ?_
    refine lv_istore (lv' := [(5, .int r6), (4, .int r4), (3, .int r1), (0, .ref (gm 0)), (1, .int x1), (2, .int x2)]) hx hb db_entryWithKey_28 hl (by decide) rfl (fun ls hl => ?_)
    refine lv_iconst (v := 0) hx hb db_entryWithKey_30 (by decide) ?_
    refine lv_istore (lv' := [(6, .int 0), (5, .int r6), (4, .int r4), (3, .int r1), (0, .ref (gm 0)), (1, .int x1), (2, .int x2)]) hx hb db_entryWithKey_31 hl (by decide) rfl (fun ls hl => ?_)
    exact wb_entryWithKey_33 hX hP n n _ _ _ _ _ (lv_sub hl [4, 6, 2, 1, 0] rfl) hf
  · have hf := ifp c3 hf
    refine lv_iconst (v := (-1)) hx hb db_entryWithKey_12 (by decide) ?_
    cases hf
    exact er_i hx hb hr hlk db_entryWithKey_13
set_option maxRecDepth 100000 in
set_option maxHeartbeats 4000000 in
theorem cb_entryWithKey {l : Launch} (hfl : l.flags = flags0) {D : va_G} {gm : Nat → Nat} {ca : Nat → ClassId} {st : BSt} {n : Nat} {x1 : Int32} {x2 : Int32} {r : Int32} (hf : fb_entryWithKey n st x1 x2 = some r) : RM l yb_entryWithKey rmb_entryWithKey D gm ca [.int x1, .int x2] st (XI r) :=
  RM.of hfl (by decide +kernel) rfl mcb_entryWithKey (fun p e s m below meth c hX hP => wb_entryWithKey_0 hX hP n _ _ _ (lv_entry _ (Nat.le_of_ble_eq_true rfl)) hf)
set_option maxRecDepth 100000 in
set_option maxHeartbeats 4000000 in
theorem wb_has_0 {p : Program} {l : Launch} {e : Env} {s : State} {m : MethodId} {args : Array Value} {below : List Frame} {meth : Method} {c : Code} {D : va_G} {gm : Nat → Nat} {ca : Nat → ClassId} {A : Nat → Prop} {st : BSt} (hX : BX p l e rmb_has s m args meth c D ca A kb_has 3 (some .boolean)) (hP : va_P D vwCl (wB gm ca st) s.heap) (n : Nat) : ∀ (x1 : Int32) (x2 : Int32) {r : Int32 ⊕ Nat} (ls : Array Slot), lv_has ls 3 [(0, .ref (gm 0)), (1, .int x1), (2, .int x2)] → fb_has n st x1 x2 = some r → W p l e rmb_has s m args below meth c s.heap [] 0 0 (MQX below (xx_Q (xi r)) args s 2 12 (fun _ => False)) (F0 m 0 ls []) := by
  obtain ⟨hx, hb, hml, hr, hlk, hown, hts, hK, htr, hZ, hnh, hA, hfl⟩ := id hX
  intro x1 x2 r ls hl hf
  rw [fb_has] at hf
  refine lv_aload_n hx hb db_has_0 rfl (lv_at hl 0 rfl) ?_
  rcases thn_some hf with ⟨r1, h2, hf⟩ | ⟨k3, h2, hf⟩
  rotate_left 1
  · cases hf
    refine rmT (cb_requireOpen (l := l) (hfl := hfl) h2) (cw_requireOpen hts ⟨by decide, by decide⟩) hx hb hml hown hts hK hP va_S.rf hZ hl.1 rfl rfl (lv_room (Nat.le_of_ble_eq_true rfl)) db_has_1 ⟨by decide, by decide⟩ (fun x t h1 h2 h3 h4 h5 => ?_)
    refine WT.widen (k := 2) (n := 12) (by decide) (by decide) ?_
    exact rt_out hX h1 h2 h3 h4 h5
  refine rmV (cb_requireOpen (l := l) (hfl := hfl) h2) (cw_requireOpen hts ⟨by decide, by decide⟩) hx hb hml hown hts hK hP va_S.rf hZ hl.1 rfl rfl (lv_room (Nat.le_of_ble_eq_true rfl)) db_has_1 ⟨by decide, by decide⟩ ?_
  refine lv_aload_n hx hb db_has_4 rfl (lv_at hl 0 rfl) ?_
  refine lv_iload_n hx hb db_has_5 rfl (lv_at hl 1 rfl) ?_
  rcases thn_some hf with ⟨r4, h5, hf⟩ | ⟨k6, h5, hf⟩
  rotate_left 1
  · cases hf
    refine rmT (cb_requireKept (l := l) (hfl := hfl) h5) (cw_requireKept hts ⟨by decide, by decide⟩) hx hb hml hown hts hK hP va_S.rf hZ hl.1 rfl rfl (lv_room (Nat.le_of_ble_eq_true rfl)) db_has_6 ⟨by decide, by decide⟩ (fun x t h1 h2 h3 h4 h5 => ?_)
    exact rt_out hX h1 h2 h3 h4 h5
  refine rmV (cb_requireKept (l := l) (hfl := hfl) h5) (cw_requireKept hts ⟨by decide, by decide⟩) hx hb hml hown hts hK hP va_S.rf hZ hl.1 rfl rfl (lv_room (Nat.le_of_ble_eq_true rfl)) db_has_6 ⟨by decide, by decide⟩ ?_
  refine lv_aload_n hx hb db_has_9 rfl (lv_at hl 0 rfl) ?_
  refine lv_iload_n hx hb db_has_10 rfl (lv_at hl 1 rfl) ?_
  obtain ⟨r7, h8, hf⟩ := obs hf
  refine smI (cb_rootOf (l := l) (hfl := hfl) h8) (cw_rootOf hts ⟨by decide, by decide⟩) hx hb hml hown hts hl.1 rfl rfl (lv_room (Nat.le_of_ble_eq_true rfl)) db_has_11 ⟨by decide, by decide⟩ ?_
  refine lv_iload_n hx hb db_has_14 rfl (lv_at hl 2 rfl) ?_
  obtain ⟨r9, h10, hf⟩ := obs hf
  refine rmI (cb_entryWithKey (l := l) (hfl := hfl) h10) (cw_entryWithKey hts ⟨by decide, by decide⟩) hx hb hml hown hts hK hP va_S.rf hZ hl.1 rfl rfl (lv_room (Nat.le_of_ble_eq_true rfl)) db_has_15 ⟨by decide, by decide⟩ ?_
  refine lv_iconst (v := (-1)) hx hb db_has_18 (by decide) ?_
  refine lv_icmp_eq (tgt := 26) hx hb db_has_19 (by decide) (fun c11 => ?_) (fun c11 => ?_)
  · have hf := ifp c11 hf
    refine lv_iconst (v := 0) hx hb db_has_26 (by decide) ?_
    cases hf
    exact er_z hx hb hr hlk rfl db_has_27
  · have hf := ifn c11 hf
    refine lv_iconst (v := 1) hx hb db_has_22 (by decide) ?_
    refine lv_goto (tgt := 27) hx hb db_has_23 (by decide) ?_
    cases hf
    exact er_z hx hb hr hlk rfl db_has_27
set_option maxRecDepth 100000 in
set_option maxHeartbeats 4000000 in
theorem cb_has {l : Launch} (hfl : l.flags = flags0) {D : va_G} {gm : Nat → Nat} {ca : Nat → ClassId} {st : BSt} {n : Nat} {x1 : Int32} {x2 : Int32} {r : Int32 ⊕ Nat} (hf : fb_has n st x1 x2 = some r) : RM l yb_has rmb_has D gm ca [.int x1, .int x2] st (xi r) :=
  RM.of hfl (by decide +kernel) rfl mcb_has (fun p e s m below meth c hX hP => wb_has_0 hX hP n _ _ _ (lv_entry _ (Nat.le_of_ble_eq_true rfl)) hf)
set_option maxRecDepth 100000 in
set_option maxHeartbeats 4000000 in
theorem wb_find_0 {p : Program} {l : Launch} {e : Env} {s : State} {m : MethodId} {args : Array Value} {below : List Frame} {meth : Method} {c : Code} {D : va_G} {gm : Nat → Nat} {ca : Nat → ClassId} {A : Nat → Prop} {st : BSt} (hX : BX p l e rmb_find s m args meth c D ca A kb_find 4 (some .long)) (hP : va_P D vwCl (wB gm ca st) s.heap) (n : Nat) : ∀ (x1 : Int32) (x2 : Int32) {r : Int64 ⊕ Nat} (ls : Array Slot), lv_has ls 4 [(0, .ref (gm 0)), (1, .int x1), (2, .int x2)] → fb_find n st x1 x2 = some r → W p l e rmb_find s m args below meth c s.heap [] 0 0 (MQX below (xx_Q (xl r)) args s 2 12 (fun _ => False)) (F0 m 0 ls []) := by
  obtain ⟨hx, hb, hml, hr, hlk, hown, hts, hK, htr, hZ, hnh, hA, hfl⟩ := id hX
  intro x1 x2 r ls hl hf
  rw [fb_find] at hf
  refine lv_aload_n hx hb db_find_0 rfl (lv_at hl 0 rfl) ?_
  rcases thn_some hf with ⟨r1, h2, hf⟩ | ⟨k3, h2, hf⟩
  rotate_left 1
  · cases hf
    refine rmT (cb_requireOpen (l := l) (hfl := hfl) h2) (cw_requireOpen hts ⟨by decide, by decide⟩) hx hb hml hown hts hK hP va_S.rf hZ hl.1 rfl rfl (lv_room (Nat.le_of_ble_eq_true rfl)) db_find_1 ⟨by decide, by decide⟩ (fun x t h1 h2 h3 h4 h5 => ?_)
    refine WT.widen (k := 2) (n := 12) (by decide) (by decide) ?_
    exact rt_out hX h1 h2 h3 h4 h5
  refine rmV (cb_requireOpen (l := l) (hfl := hfl) h2) (cw_requireOpen hts ⟨by decide, by decide⟩) hx hb hml hown hts hK hP va_S.rf hZ hl.1 rfl rfl (lv_room (Nat.le_of_ble_eq_true rfl)) db_find_1 ⟨by decide, by decide⟩ ?_
  refine lv_aload_n hx hb db_find_4 rfl (lv_at hl 0 rfl) ?_
  refine lv_iload_n hx hb db_find_5 rfl (lv_at hl 1 rfl) ?_
  rcases thn_some hf with ⟨r4, h5, hf⟩ | ⟨k6, h5, hf⟩
  rotate_left 1
  · cases hf
    refine rmT (cb_requireKept (l := l) (hfl := hfl) h5) (cw_requireKept hts ⟨by decide, by decide⟩) hx hb hml hown hts hK hP va_S.rf hZ hl.1 rfl rfl (lv_room (Nat.le_of_ble_eq_true rfl)) db_find_6 ⟨by decide, by decide⟩ (fun x t h1 h2 h3 h4 h5 => ?_)
    exact rt_out hX h1 h2 h3 h4 h5
  refine rmV (cb_requireKept (l := l) (hfl := hfl) h5) (cw_requireKept hts ⟨by decide, by decide⟩) hx hb hml hown hts hK hP va_S.rf hZ hl.1 rfl rfl (lv_room (Nat.le_of_ble_eq_true rfl)) db_find_6 ⟨by decide, by decide⟩ ?_
  refine lv_aload_n hx hb db_find_9 rfl (lv_at hl 0 rfl) ?_
  refine lv_iload_n hx hb db_find_10 rfl (lv_at hl 1 rfl) ?_
  obtain ⟨r7, h8, hf⟩ := obs hf
  refine smI (cb_rootOf (l := l) (hfl := hfl) h8) (cw_rootOf hts ⟨by decide, by decide⟩) hx hb hml hown hts hl.1 rfl rfl (lv_room (Nat.le_of_ble_eq_true rfl)) db_find_11 ⟨by decide, by decide⟩ ?_
  refine lv_iload_n hx hb db_find_14 rfl (lv_at hl 2 rfl) ?_
  obtain ⟨r9, h10, hf⟩ := obs hf
  refine rmI (cb_entryWithKey (l := l) (hfl := hfl) h10) (cw_entryWithKey hts ⟨by decide, by decide⟩) hx hb hml hown hts hK hP va_S.rf hZ hl.1 rfl rfl (lv_room (Nat.le_of_ble_eq_true rfl)) db_find_15 ⟨by decide, by decide⟩ ?_
  refine lv_istore_n (lv' := [(3, .int r9), (0, .ref (gm 0)), (1, .int x1), (2, .int x2)]) hx hb db_find_18 rfl hl (by decide) rfl (fun ls hl => ?_)
  refine lv_iload_n hx hb db_find_19 rfl (lv_at hl 0 rfl) ?_
  refine lv_iconst (v := (-1)) hx hb db_find_20 (by decide) ?_
  refine lv_icmp_ne (tgt := 28) hx hb db_find_21 (by decide) (fun c11 => ?_) (fun c11 => ?_)
  · have hf := ifn c11 hf
    refine lv_aload_n hx hb db_find_28 rfl (lv_at hl 1 rfl) ?_
    refine bg_pages hx hb hown hts hK hP db_find_29 ?_
    refine lv_iload_n hx hb db_find_32 rfl (lv_at hl 0 rfl) ?_
    refine lv_iconst (v := 1) hx hb db_find_33 (by decide) ?_
    refine lv_iadd hx hb db_find_34 ?_
    obtain ⟨r12, er12, ir12, hf⟩ := rdL_some hf
    refine bl_pages hx hb hK hP ir12 er12 db_find_35 ?_
    cases hf
    exact er_l hx hb hr hlk db_find_36
  · have hf := ifp c11 hf
    refine lv_lconst (v := 0) hx hb db_find_24 (by decide) ?_
    refine lv_goto (tgt := 36) hx hb db_find_25 (by decide) ?_
    cases hf
    exact er_l hx hb hr hlk db_find_36
set_option maxRecDepth 100000 in
set_option maxHeartbeats 4000000 in
theorem cb_find {l : Launch} (hfl : l.flags = flags0) {D : va_G} {gm : Nat → Nat} {ca : Nat → ClassId} {st : BSt} {n : Nat} {x1 : Int32} {x2 : Int32} {r : Int64 ⊕ Nat} (hf : fb_find n st x1 x2 = some r) : RM l yb_find rmb_find D gm ca [.int x1, .int x2] st (xl r) :=
  RM.of hfl (by decide +kernel) rfl mcb_find (fun p e s m below meth c hX hP => wb_find_0 hX hP n _ _ _ (lv_entry _ (Nat.le_of_ble_eq_true rfl)) hf)
set_option maxRecDepth 100000 in
set_option maxHeartbeats 4000000 in
theorem wb_count_0 {p : Program} {l : Launch} {e : Env} {s : State} {m : MethodId} {args : Array Value} {below : List Frame} {meth : Method} {c : Code} {D : va_G} {gm : Nat → Nat} {ca : Nat → ClassId} {A : Nat → Prop} {st : BSt} (hX : BX p l e rmb_count s m args meth c D ca A kb_count 4 (some .int)) (hP : va_P D vwCl (wB gm ca st) s.heap) (n : Nat) : ∀ (x1 : Int32) (x2 : Int32) {r : Int32 ⊕ Nat} (ls : Array Slot), lv_has ls 4 [(0, .ref (gm 0)), (1, .int x1), (2, .int x2)] → fb_count n st x1 x2 = some r → W p l e rmb_count s m args below meth c s.heap [] 0 0 (MQX below (xx_Q (xi r)) args s 3 18 (fun _ => False)) (F0 m 0 ls []) := by
  obtain ⟨hx, hb, hml, hr, hlk, hown, hts, hK, htr, hZ, hnh, hA, hfl⟩ := id hX
  intro x1 x2 r ls hl hf
  rw [fb_count] at hf
  refine lv_aload_n hx hb db_count_0 rfl (lv_at hl 0 rfl) ?_
  rcases thn_some hf with ⟨r1, h2, hf⟩ | ⟨k3, h2, hf⟩
  rotate_left 1
  · cases hf
    refine rmT (cb_requireOpen (l := l) (hfl := hfl) h2) (cw_requireOpen hts ⟨by decide, by decide⟩) hx hb hml hown hts hK hP va_S.rf hZ hl.1 rfl rfl (lv_room (Nat.le_of_ble_eq_true rfl)) db_count_1 ⟨by decide, by decide⟩ (fun x t h1 h2 h3 h4 h5 => ?_)
    refine WT.widen (k := 3) (n := 18) (by decide) (by decide) ?_
    exact rt_out hX h1 h2 h3 h4 h5
  refine rmV (cb_requireOpen (l := l) (hfl := hfl) h2) (cw_requireOpen hts ⟨by decide, by decide⟩) hx hb hml hown hts hK hP va_S.rf hZ hl.1 rfl rfl (lv_room (Nat.le_of_ble_eq_true rfl)) db_count_1 ⟨by decide, by decide⟩ ?_
  refine lv_aload_n hx hb db_count_4 rfl (lv_at hl 0 rfl) ?_
  refine lv_iload_n hx hb db_count_5 rfl (lv_at hl 1 rfl) ?_
  rcases thn_some hf with ⟨r4, h5, hf⟩ | ⟨k6, h5, hf⟩
  rotate_left 1
  · cases hf
    refine rmT (cb_requireKept (l := l) (hfl := hfl) h5) (cw_requireKept hts ⟨by decide, by decide⟩) hx hb hml hown hts hK hP va_S.rf hZ hl.1 rfl rfl (lv_room (Nat.le_of_ble_eq_true rfl)) db_count_6 ⟨by decide, by decide⟩ (fun x t h1 h2 h3 h4 h5 => ?_)
    refine WT.widen (k := 3) (n := 18) (by decide) (by decide) ?_
    exact rt_out hX h1 h2 h3 h4 h5
  refine rmV (cb_requireKept (l := l) (hfl := hfl) h5) (cw_requireKept hts ⟨by decide, by decide⟩) hx hb hml hown hts hK hP va_S.rf hZ hl.1 rfl rfl (lv_room (Nat.le_of_ble_eq_true rfl)) db_count_6 ⟨by decide, by decide⟩ ?_
  refine lv_iload_n hx hb db_count_9 rfl (lv_at hl 2 rfl) ?_
  refine lv_if_eq (tgt := 28) hx hb db_count_10 (by decide) (fun c7 => ?_) (fun c7 => ?_)
  · have hf := ifp c7 hf
    refine lv_iload_n hx hb db_count_28 rfl (lv_at hl 1 rfl) ?_
    obtain ⟨r8, h9, hf⟩ := obs hf
    refine smI (cb_rootOf (l := l) (hfl := hfl) h9) (cw_rootOf hts ⟨by decide, by decide⟩) hx hb hml hown hts hl.1 rfl rfl (lv_room (Nat.le_of_ble_eq_true rfl)) db_count_29 ⟨by decide, by decide⟩ ?_
    refine lv_istore_n (lv' := [(3, .int r8), (0, .ref (gm 0)), (1, .int x1), (2, .int x2)]) hx hb db_count_32 rfl hl (by decide) rfl (fun ls hl => ?_)
    refine lv_iload_n hx hb db_count_33 rfl (lv_at hl 3 rfl) ?_
    refine lv_if_ne (tgt := 45) hx hb db_count_34 (by decide) (fun c10 => ?_) (fun c10 => ?_)
    · have hf := ifn c10 hf
      refine lv_aload_n hx hb db_count_45 rfl (lv_at hl 1 rfl) ?_
      refine lv_iload_n hx hb db_count_46 rfl (lv_at hl 0 rfl) ?_
      obtain ⟨r11, h12, hf⟩ := obs hf
      refine rmI (cb_leavesOf (l := l) (hfl := hfl) h12) (cw_leavesOf hts ⟨by decide, by decide⟩) hx hb hml hown hts hK hP va_S.rf hZ hl.1 rfl rfl (lv_room (Nat.le_of_ble_eq_true rfl)) db_count_47 ⟨by decide, by decide⟩ ?_
      cases hf
      refine W.widen (k := 3) (n := 18) (by decide) (by decide) ?_
      exact er_i hx hb hr hlk db_count_50
    · have hf := ifp c10 hf
      refine lv_aload_n hx hb db_count_37 rfl (lv_at hl 1 rfl) ?_
      refine lv_iload_n hx hb db_count_38 rfl (lv_at hl 0 rfl) ?_
      obtain ⟨r13, h14, hf⟩ := obs hf
      refine rmI (cb_entriesOfRoot (l := l) (hfl := hfl) h14) (cw_entriesOfRoot hts ⟨by decide, by decide⟩) hx hb hml hown hts hK hP va_S.rf hZ hl.1 rfl rfl (lv_room (Nat.le_of_ble_eq_true rfl)) db_count_39 ⟨by decide, by decide⟩ ?_
      refine lv_goto (tgt := 50) hx hb db_count_42 (by decide) ?_
      cases hf
      refine W.widen (k := 3) (n := 18) (by decide) (by decide) ?_
      exact er_i hx hb hr hlk db_count_50
  · have hf := ifn c7 hf
    refine lv_iload_n hx hb db_count_13 rfl (lv_at hl 2 rfl) ?_
    refine lv_iconst (v := 1) hx hb db_count_14 (by decide) ?_
    refine lv_icmp_eq (tgt := 28) hx hb db_count_15 (by decide) (fun c15 => ?_) (fun c15 => ?_)
    · have hf := ifp c15 hf
      refine lv_iload_n hx hb db_count_28 rfl (lv_at hl 1 rfl) ?_
      obtain ⟨r16, h17, hf⟩ := obs hf
      refine smI (cb_rootOf (l := l) (hfl := hfl) h17) (cw_rootOf hts ⟨by decide, by decide⟩) hx hb hml hown hts hl.1 rfl rfl (lv_room (Nat.le_of_ble_eq_true rfl)) db_count_29 ⟨by decide, by decide⟩ ?_
      refine lv_istore_n (lv' := [(3, .int r16), (0, .ref (gm 0)), (1, .int x1), (2, .int x2)]) hx hb db_count_32 rfl hl (by decide) rfl (fun ls hl => ?_)
      refine lv_iload_n hx hb db_count_33 rfl (lv_at hl 3 rfl) ?_
      refine lv_if_ne (tgt := 45) hx hb db_count_34 (by decide) (fun c18 => ?_) (fun c18 => ?_)
      · have hf := ifn c18 hf
        refine lv_aload_n hx hb db_count_45 rfl (lv_at hl 1 rfl) ?_
        refine lv_iload_n hx hb db_count_46 rfl (lv_at hl 0 rfl) ?_
        obtain ⟨r19, h20, hf⟩ := obs hf
        refine rmI (cb_leavesOf (l := l) (hfl := hfl) h20) (cw_leavesOf hts ⟨by decide, by decide⟩) hx hb hml hown hts hK hP va_S.rf hZ hl.1 rfl rfl (lv_room (Nat.le_of_ble_eq_true rfl)) db_count_47 ⟨by decide, by decide⟩ ?_
        cases hf
        refine W.widen (k := 3) (n := 18) (by decide) (by decide) ?_
        exact er_i hx hb hr hlk db_count_50
      · have hf := ifp c18 hf
        refine lv_aload_n hx hb db_count_37 rfl (lv_at hl 1 rfl) ?_
        refine lv_iload_n hx hb db_count_38 rfl (lv_at hl 0 rfl) ?_
        obtain ⟨r21, h22, hf⟩ := obs hf
        refine rmI (cb_entriesOfRoot (l := l) (hfl := hfl) h22) (cw_entriesOfRoot hts ⟨by decide, by decide⟩) hx hb hml hown hts hK hP va_S.rf hZ hl.1 rfl rfl (lv_room (Nat.le_of_ble_eq_true rfl)) db_count_39 ⟨by decide, by decide⟩ ?_
        refine lv_goto (tgt := 50) hx hb db_count_42 (by decide) ?_
        cases hf
        refine W.widen (k := 3) (n := 18) (by decide) (by decide) ?_
        exact er_i hx hb hr hlk db_count_50
    · have hf := ifn c15 hf
      cases hf
      exact rt_throw th_1_88 hX hl.1 db_count_18 db_count_21 db_count_22 db_count_24 db_count_27 ⟨by decide, by decide⟩ ⟨by decide, by decide⟩
set_option maxRecDepth 100000 in
set_option maxHeartbeats 4000000 in
theorem cb_count {l : Launch} (hfl : l.flags = flags0) {D : va_G} {gm : Nat → Nat} {ca : Nat → ClassId} {st : BSt} {n : Nat} {x1 : Int32} {x2 : Int32} {r : Int32 ⊕ Nat} (hf : fb_count n st x1 x2 = some r) : RM l yb_count rmb_count D gm ca [.int x1, .int x2] st (xi r) :=
  RM.of hfl (by decide +kernel) rfl mcb_count (fun p e s m below meth c hX hP => wb_count_0 hX hP n _ _ _ (lv_entry _ (Nat.le_of_ble_eq_true rfl)) hf)
set_option maxRecDepth 100000 in
set_option maxHeartbeats 4000000 in
theorem wb_entryByNumber_18 {p : Program} {l : Launch} {e : Env} {s : State} {m : MethodId} {args : Array Value} {below : List Frame} {meth : Method} {c : Code} {D : va_G} {gm : Nat → Nat} {ca : Nat → ClassId} {A : Nat → Prop} {st : BSt} (hX : BX p l e rmb_entryByNumber s m args meth c D ca A kb_entryByNumber 8 (some .int)) (hP : va_P D vwCl (wB gm ca st) s.heap) (n : Nat) :∀ (k : Nat), ∀ (x1 : Int32) (x3 : Int32) (x4 : Int32) (x5 : Int32) {r : Int32} (ls : Array Slot), lv_has ls 8 [(0, .ref (gm 0)), (1, .int x1), (3, .int x3), (4, .int x4), (5, .int x5)] → fb_entryByNumber_18 n k st x1 x3 x4 x5 = some r → W p l e rmb_entryByNumber s m args below meth c s.heap [] 0 0 (MQX below (xx_Q (XI r)) args s 0 0 (fun _ => False)) (F0 m 18 ls []) := by
  obtain ⟨hx, hb, hml, hr, hlk, hown, hts, hK, htr, hZ, hnh, hA, hfl⟩ := id hX
  intro k
  induction k with
  | zero =>
    intro x1 x3 x4 x5 r ls hl hf
    rw [fb_entryByNumber_18] at hf
    cases hf
  | succ k ih =>
    intro x1 x3 x4 x5 r ls hl hf
    rw [fb_entryByNumber_18] at hf
    refine lv_iload hx hb db_entryByNumber_18 (lv_at hl 4 rfl) ?_
    refine lv_iload hx hb db_entryByNumber_20 (lv_at hl 3 rfl) ?_
    refine lv_icmp_ge (tgt := 66) hx hb db_entryByNumber_22 (by decide) (fun c1 => ?_) (fun c1 => ?_)
    · have hf := ifp c1 hf
      refine lv_iconst (v := (-1)) hx hb db_entryByNumber_66 (by decide) ?_
      cases hf
      exact er_i hx hb hr hlk db_entryByNumber_67
    · have hf := ifn c1 hf
      refine lv_aload_n hx hb db_entryByNumber_25 rfl (lv_at hl 0 rfl) ?_
      refine lv_iload_n hx hb db_entryByNumber_26 rfl (lv_at hl 1 rfl) ?_
      refine lv_iload hx hb db_entryByNumber_27 (lv_at hl 4 rfl) ?_
      obtain ⟨r2, h3, hf⟩ := obs hf
      refine rmI (cb_pageOf (l := l) (hfl := hfl) h3) (cw_pageOf hts ⟨by decide, by decide⟩) hx hb hml hown hts hK hP va_S.rf hZ hl.1 rfl rfl (lv_room (Nat.le_of_ble_eq_true rfl)) db_entryByNumber_29 ⟨by decide, by decide⟩ ?_
      refine lv_istore (lv' := [(6, .int r2), (0, .ref (gm 0)), (1, .int x1), (3, .int x3), (4, .int x4), (5, .int x5)]) hx hb db_entryByNumber_32 hl (by decide) rfl (fun ls hl => ?_)
      refine lv_aload_n hx hb db_entryByNumber_34 rfl (lv_at hl 1 rfl) ?_
      refine lv_iload hx hb db_entryByNumber_35 (lv_at hl 0 rfl) ?_
      obtain ⟨r4, h5, hf⟩ := obs hf
      refine rmI (cb_entriesOf (l := l) (hfl := hfl) h5) (cw_entriesOf hts ⟨by decide, by decide⟩) hx hb hml hown hts hK hP va_S.rf hZ hl.1 rfl rfl (lv_room (Nat.le_of_ble_eq_true rfl)) db_entryByNumber_37 ⟨by decide, by decide⟩ ?_
      refine lv_istore (lv' := [(7, .int r4), (6, .int r2), (0, .ref (gm 0)), (1, .int x1), (3, .int x3), (4, .int x4), (5, .int x5)]) hx hb db_entryByNumber_40 hl (by decide) rfl (fun ls hl => ?_)
      refine lv_iload_n hx hb db_entryByNumber_42 rfl (lv_at hl 4 rfl) ?_
      refine lv_iload hx hb db_entryByNumber_43 (lv_at hl 0 rfl) ?_
      refine lv_icmp_ge (tgt := 55) hx hb db_entryByNumber_45 (by decide) (fun c6 => ?_) (fun c6 => ?_)
      · have hf := ifp c6 hf
        refine lv_iload_n hx hb db_entryByNumber_55 rfl (lv_at hl 4 rfl) ?_
        refine lv_iload hx hb db_entryByNumber_56 (lv_at hl 0 rfl) ?_
        refine lv_isub hx hb db_entryByNumber_58 ?_
        refine lv_istore_n (lv' := [(3, .int (x3 - r4)), (7, .int r4), (6, .int r2), (0, .ref (gm 0)), (1, .int x1), (4, .int x4), (5, .int x5)]) hx hb db_entryByNumber_59 rfl hl (by decide) rfl (fun ls hl => ?_)
        refine lv_iinc (v := (x5 + 1)) (lv' := [(5, .int (x5 + 1)), (3, .int (x3 - r4)), (7, .int r4), (6, .int r2), (0, .ref (gm 0)), (1, .int x1), (4, .int x4)]) hx hb db_entryByNumber_60 hl (k := 6) rfl rfl (by decide) rfl (fun ls hl => ?_)
        refine lv_goto (tgt := 18) hx hb db_entryByNumber_63 (by decide) ?_
        exact ih _ _ _ _ _ (lv_sub hl [4, 5, 1, 6, 0] rfl) hf
      · have hf := ifn c6 hf
        refine lv_iload hx hb db_entryByNumber_48 (lv_at hl 1 rfl) ?_
        refine lv_iload_n hx hb db_entryByNumber_50 rfl (lv_at hl 4 rfl) ?_
        obtain ⟨r7, h8, hf⟩ := obs hf
        refine smI (cb_entryAt (l := l) (hfl := hfl) h8) (cw_entryAt hts ⟨by decide, by decide⟩) hx hb hml hown hts hl.1 rfl rfl (lv_room (Nat.le_of_ble_eq_true rfl)) db_entryByNumber_51 ⟨by decide, by decide⟩ ?_
        cases hf
        exact er_i hx hb hr hlk db_entryByNumber_54
set_option maxRecDepth 100000 in
set_option maxHeartbeats 4000000 in
theorem wb_entryByNumber_0 {p : Program} {l : Launch} {e : Env} {s : State} {m : MethodId} {args : Array Value} {below : List Frame} {meth : Method} {c : Code} {D : va_G} {gm : Nat → Nat} {ca : Nat → ClassId} {A : Nat → Prop} {st : BSt} (hX : BX p l e rmb_entryByNumber s m args meth c D ca A kb_entryByNumber 8 (some .int)) (hP : va_P D vwCl (wB gm ca st) s.heap) (n : Nat) : ∀ (x1 : Int32) (x2 : Int32) {r : Int32} (ls : Array Slot), lv_has ls 8 [(0, .ref (gm 0)), (1, .int x1), (2, .int x2)] → fb_entryByNumber n st x1 x2 = some r → W p l e rmb_entryByNumber s m args below meth c s.heap [] 0 0 (MQX below (xx_Q (XI r)) args s 0 0 (fun _ => False)) (F0 m 0 ls []) := by
  obtain ⟨hx, hb, hml, hr, hlk, hown, hts, hK, htr, hZ, hnh, hA, hfl⟩ := id hX
  intro x1 x2 r ls hl hf
  rw [fb_entryByNumber] at hf
  refine lv_iload_n hx hb db_entryByNumber_0 rfl (lv_at hl 2 rfl) ?_
  refine lv_if_ge (tgt := 6) hx hb db_entryByNumber_1 (by decide) (fun c1 => ?_) (fun c1 => ?_)
  · have hf := ifp c1 hf
    refine lv_iload_n hx hb db_entryByNumber_6 rfl (lv_at hl 2 rfl) ?_
    refine lv_istore_n (lv' := [(3, .int x2), (0, .ref (gm 0)), (1, .int x1), (2, .int x2)]) hx hb db_entryByNumber_7 rfl hl (by decide) rfl (fun ls hl => ?_)
    refine lv_aload_n hx hb db_entryByNumber_8 rfl (lv_at hl 1 rfl) ?_
    refine lv_iload_n hx hb db_entryByNumber_9 rfl (lv_at hl 2 rfl) ?_
    obtain ⟨r2, h3, hf⟩ := obs hf
    refine rmI (cb_leavesOf (l := l) (hfl := hfl) h3) (cw_leavesOf hts ⟨by decide, by decide⟩) hx hb hml hown hts hK hP va_S.rf hZ hl.1 rfl rfl (lv_room (Nat.le_of_ble_eq_true rfl)) db_entryByNumber_10 ⟨by decide, by decide⟩ ?_
    refine lv_istore (lv' := [(4, .int r2), (3, .int x2), (0, .ref (gm 0)), (1, .int x1), (2, .int x2)]) hx hb db_entryByNumber_13 hl (by decide) rfl (fun ls hl => ?_)
    refine lv_iconst (v := 0) hx hb db_entryByNumber_15 (by decide) ?_
    refine lv_istore (lv' := [(5, .int 0), (4, .int r2), (3, .int x2), (0, .ref (gm 0)), (1, .int x1), (2, .int x2)]) hx hb db_entryByNumber_16 hl (by decide) rfl (fun ls hl => ?_)
    exact wb_entryByNumber_18 hX hP n n _ _ _ _ _ (lv_sub hl [3, 4, 2, 1, 0] rfl) hf
  · have hf := ifn c1 hf
    refine lv_iconst (v := (-1)) hx hb db_entryByNumber_4 (by decide) ?_
    cases hf
    exact er_i hx hb hr hlk db_entryByNumber_5
set_option maxRecDepth 100000 in
set_option maxHeartbeats 4000000 in
theorem cb_entryByNumber {l : Launch} (hfl : l.flags = flags0) {D : va_G} {gm : Nat → Nat} {ca : Nat → ClassId} {st : BSt} {n : Nat} {x1 : Int32} {x2 : Int32} {r : Int32} (hf : fb_entryByNumber n st x1 x2 = some r) : RM l yb_entryByNumber rmb_entryByNumber D gm ca [.int x1, .int x2] st (XI r) :=
  RM.of hfl (by decide +kernel) rfl mcb_entryByNumber (fun p e s m below meth c hX hP => wb_entryByNumber_0 hX hP n _ _ _ (lv_entry _ (Nat.le_of_ble_eq_true rfl)) hf)
set_option maxRecDepth 100000 in
set_option maxHeartbeats 4000000 in
theorem wb_key_0 {p : Program} {l : Launch} {e : Env} {s : State} {m : MethodId} {args : Array Value} {below : List Frame} {meth : Method} {c : Code} {D : va_G} {gm : Nat → Nat} {ca : Nat → ClassId} {A : Nat → Prop} {st : BSt} (hX : BX p l e rmb_key s m args meth c D ca A kb_key 4 (some .int)) (hP : va_P D vwCl (wB gm ca st) s.heap) (n : Nat) : ∀ (x1 : Int32) (x2 : Int32) {r : Int32 ⊕ Nat} (ls : Array Slot), lv_has ls 4 [(0, .ref (gm 0)), (1, .int x1), (2, .int x2)] → fb_key n st x1 x2 = some r → W p l e rmb_key s m args below meth c s.heap [] 0 0 (MQX below (xx_Q (xi r)) args s 3 18 (fun _ => False)) (F0 m 0 ls []) := by
  obtain ⟨hx, hb, hml, hr, hlk, hown, hts, hK, htr, hZ, hnh, hA, hfl⟩ := id hX
  intro x1 x2 r ls hl hf
  rw [fb_key] at hf
  refine lv_aload_n hx hb db_key_0 rfl (lv_at hl 0 rfl) ?_
  rcases thn_some hf with ⟨r1, h2, hf⟩ | ⟨k3, h2, hf⟩
  rotate_left 1
  · cases hf
    refine rmT (cb_requireOpen (l := l) (hfl := hfl) h2) (cw_requireOpen hts ⟨by decide, by decide⟩) hx hb hml hown hts hK hP va_S.rf hZ hl.1 rfl rfl (lv_room (Nat.le_of_ble_eq_true rfl)) db_key_1 ⟨by decide, by decide⟩ (fun x t h1 h2 h3 h4 h5 => ?_)
    refine WT.widen (k := 3) (n := 18) (by decide) (by decide) ?_
    exact rt_out hX h1 h2 h3 h4 h5
  refine rmV (cb_requireOpen (l := l) (hfl := hfl) h2) (cw_requireOpen hts ⟨by decide, by decide⟩) hx hb hml hown hts hK hP va_S.rf hZ hl.1 rfl rfl (lv_room (Nat.le_of_ble_eq_true rfl)) db_key_1 ⟨by decide, by decide⟩ ?_
  refine lv_aload_n hx hb db_key_4 rfl (lv_at hl 0 rfl) ?_
  refine lv_iload_n hx hb db_key_5 rfl (lv_at hl 1 rfl) ?_
  rcases thn_some hf with ⟨r4, h5, hf⟩ | ⟨k6, h5, hf⟩
  rotate_left 1
  · cases hf
    refine rmT (cb_requireKept (l := l) (hfl := hfl) h5) (cw_requireKept hts ⟨by decide, by decide⟩) hx hb hml hown hts hK hP va_S.rf hZ hl.1 rfl rfl (lv_room (Nat.le_of_ble_eq_true rfl)) db_key_6 ⟨by decide, by decide⟩ (fun x t h1 h2 h3 h4 h5 => ?_)
    refine WT.widen (k := 3) (n := 18) (by decide) (by decide) ?_
    exact rt_out hX h1 h2 h3 h4 h5
  refine rmV (cb_requireKept (l := l) (hfl := hfl) h5) (cw_requireKept hts ⟨by decide, by decide⟩) hx hb hml hown hts hK hP va_S.rf hZ hl.1 rfl rfl (lv_room (Nat.le_of_ble_eq_true rfl)) db_key_6 ⟨by decide, by decide⟩ ?_
  refine lv_aload_n hx hb db_key_9 rfl (lv_at hl 0 rfl) ?_
  refine lv_iload_n hx hb db_key_10 rfl (lv_at hl 1 rfl) ?_
  obtain ⟨r7, h8, hf⟩ := obs hf
  refine smI (cb_rootOf (l := l) (hfl := hfl) h8) (cw_rootOf hts ⟨by decide, by decide⟩) hx hb hml hown hts hl.1 rfl rfl (lv_room (Nat.le_of_ble_eq_true rfl)) db_key_11 ⟨by decide, by decide⟩ ?_
  refine lv_iload_n hx hb db_key_14 rfl (lv_at hl 2 rfl) ?_
  obtain ⟨r9, h10, hf⟩ := obs hf
  refine rmI (cb_entryByNumber (l := l) (hfl := hfl) h10) (cw_entryByNumber hts ⟨by decide, by decide⟩) hx hb hml hown hts hK hP va_S.rf hZ hl.1 rfl rfl (lv_room (Nat.le_of_ble_eq_true rfl)) db_key_15 ⟨by decide, by decide⟩ ?_
  refine lv_istore_n (lv' := [(3, .int r9), (0, .ref (gm 0)), (1, .int x1), (2, .int x2)]) hx hb db_key_18 rfl hl (by decide) rfl (fun ls hl => ?_)
  refine lv_iload_n hx hb db_key_19 rfl (lv_at hl 0 rfl) ?_
  refine lv_iconst (v := (-1)) hx hb db_key_20 (by decide) ?_
  refine lv_icmp_ne (tgt := 34) hx hb db_key_21 (by decide) (fun c11 => ?_) (fun c11 => ?_)
  · have hf := ifn c11 hf
    refine lv_aload_n hx hb db_key_34 rfl (lv_at hl 1 rfl) ?_
    refine bg_pages hx hb hown hts hK hP db_key_35 ?_
    refine lv_iload_n hx hb db_key_38 rfl (lv_at hl 0 rfl) ?_
    obtain ⟨r12, er12, ir12, hf⟩ := rdL_some hf
    refine bl_pages hx hb hK hP ir12 er12 db_key_39 ?_
    refine lv_l2i hx hb db_key_40 rfl ?_
    cases hf
    refine W.widen (k := 3) (n := 18) (by decide) (by decide) ?_
    exact er_i hx hb hr hlk db_key_41
  · have hf := ifp c11 hf
    cases hf
    exact rt_throw th_2_104 hX hl.1 db_key_24 db_key_27 db_key_28 db_key_30 db_key_33 ⟨by decide, by decide⟩ ⟨by decide, by decide⟩
set_option maxRecDepth 100000 in
set_option maxHeartbeats 4000000 in
theorem cb_key {l : Launch} (hfl : l.flags = flags0) {D : va_G} {gm : Nat → Nat} {ca : Nat → ClassId} {st : BSt} {n : Nat} {x1 : Int32} {x2 : Int32} {r : Int32 ⊕ Nat} (hf : fb_key n st x1 x2 = some r) : RM l yb_key rmb_key D gm ca [.int x1, .int x2] st (xi r) :=
  RM.of hfl (by decide +kernel) rfl mcb_key (fun p e s m below meth c hX hP => wb_key_0 hX hP n _ _ _ (lv_entry _ (Nat.le_of_ble_eq_true rfl)) hf)
set_option maxRecDepth 100000 in
set_option maxHeartbeats 4000000 in
theorem wb_haveSameEntries_20 {p : Program} {l : Launch} {e : Env} {s : State} {m : MethodId} {args : Array Value} {below : List Frame} {meth : Method} {c : Code} {D : va_G} {gm : Nat → Nat} {ca : Nat → ClassId} {A : Nat → Prop} {st : BSt} (hX : BX p l e rmb_haveSameEntries s m args meth c D ca A kb_haveSameEntries 7 (some .boolean)) (hP : va_P D vwCl (wB gm ca st) s.heap) (n : Nat) :∀ (k : Nat), ∀ (x1 : Int32) (x2 : Int32) (x3 : Int32) (x4 : Int32) {r : Int32} (ls : Array Slot), lv_has ls 7 [(0, .ref (gm 0)), (1, .int x1), (2, .int x2), (3, .int x3), (4, .int x4)] → fb_haveSameEntries_20 n k st x1 x2 x3 x4 = some r → W p l e rmb_haveSameEntries s m args below meth c s.heap [] 0 0 (MQX below (xx_Q (XI r)) args s 0 0 (fun _ => False)) (F0 m 20 ls []) := by
  obtain ⟨hx, hb, hml, hr, hlk, hown, hts, hK, htr, hZ, hnh, hA, hfl⟩ := id hX
  intro k
  induction k with
  | zero =>
    intro x1 x2 x3 x4 r ls hl hf
    rw [fb_haveSameEntries_20] at hf
    cases hf
  | succ k ih =>
    intro x1 x2 x3 x4 r ls hl hf
    rw [fb_haveSameEntries_20] at hf
    refine lv_iload hx hb db_haveSameEntries_20 (lv_at hl 4 rfl) ?_
    refine lv_iload_n hx hb db_haveSameEntries_22 rfl (lv_at hl 3 rfl) ?_
    refine lv_icmp_ge (tgt := 104) hx hb db_haveSameEntries_23 (by decide) (fun c1 => ?_) (fun c1 => ?_)
    · have hf := ifp c1 hf
      refine lv_iconst (v := 1) hx hb db_haveSameEntries_104 (by decide) ?_
      cases hf
      exact er_z hx hb hr hlk rfl db_haveSameEntries_105
    · have hf := ifn c1 hf
      refine lv_aload_n hx hb db_haveSameEntries_26 rfl (lv_at hl 0 rfl) ?_
      refine lv_iload_n hx hb db_haveSameEntries_27 rfl (lv_at hl 1 rfl) ?_
      refine lv_iload hx hb db_haveSameEntries_28 (lv_at hl 4 rfl) ?_
      obtain ⟨r2, h3, hf⟩ := obs hf
      refine rmI (cb_entryByNumber (l := l) (hfl := hfl) h3) (cw_entryByNumber hts ⟨by decide, by decide⟩) hx hb hml hown hts hK hP va_S.rf hZ hl.1 rfl rfl (lv_room (Nat.le_of_ble_eq_true rfl)) db_haveSameEntries_30 ⟨by decide, by decide⟩ ?_
      refine lv_istore (lv' := [(5, .int r2), (0, .ref (gm 0)), (1, .int x1), (2, .int x2), (3, .int x3), (4, .int x4)]) hx hb db_haveSameEntries_33 hl (by decide) rfl (fun ls hl => ?_)
      refine lv_aload_n hx hb db_haveSameEntries_35 rfl (lv_at hl 1 rfl) ?_
      refine lv_iload_n hx hb db_haveSameEntries_36 rfl (lv_at hl 3 rfl) ?_
      refine lv_iload hx hb db_haveSameEntries_37 (lv_at hl 5 rfl) ?_
      obtain ⟨r4, h5, hf⟩ := obs hf
      refine rmI (cb_entryByNumber (l := l) (hfl := hfl) h5) (cw_entryByNumber hts ⟨by decide, by decide⟩) hx hb hml hown hts hK hP va_S.rf hZ hl.1 rfl rfl (lv_room (Nat.le_of_ble_eq_true rfl)) db_haveSameEntries_39 ⟨by decide, by decide⟩ ?_
      refine lv_istore (lv' := [(6, .int r4), (5, .int r2), (0, .ref (gm 0)), (1, .int x1), (2, .int x2), (3, .int x3), (4, .int x4)]) hx hb db_haveSameEntries_42 hl (by decide) rfl (fun ls hl => ?_)
      refine lv_iload hx hb db_haveSameEntries_44 (lv_at hl 1 rfl) ?_
      refine lv_iconst (v := (-1)) hx hb db_haveSameEntries_46 (by decide) ?_
      refine lv_icmp_eq (tgt := 96) hx hb db_haveSameEntries_47 (by decide) (fun c6 => ?_) (fun c6 => ?_)
      · have hf := ifp c6 hf
        refine lv_iconst (v := 0) hx hb db_haveSameEntries_96 (by decide) ?_
        cases hf
        exact er_z hx hb hr hlk rfl db_haveSameEntries_97
      · have hf := ifn c6 hf
        refine lv_iload hx hb db_haveSameEntries_50 (lv_at hl 0 rfl) ?_
        refine lv_iconst (v := (-1)) hx hb db_haveSameEntries_52 (by decide) ?_
        refine lv_icmp_eq (tgt := 96) hx hb db_haveSameEntries_53 (by decide) (fun c7 => ?_) (fun c7 => ?_)
        · have hf := ifp c7 hf
          refine lv_iconst (v := 0) hx hb db_haveSameEntries_96 (by decide) ?_
          cases hf
          exact er_z hx hb hr hlk rfl db_haveSameEntries_97
        · have hf := ifn c7 hf
          refine lv_aload_n hx hb db_haveSameEntries_56 rfl (lv_at hl 2 rfl) ?_
          refine bg_pages hx hb hown hts hK hP db_haveSameEntries_57 ?_
          refine lv_iload hx hb db_haveSameEntries_60 (lv_at hl 1 rfl) ?_
          obtain ⟨r8, er8, ir8, hf⟩ := rdL_some hf
          refine bl_pages hx hb hK hP ir8 er8 db_haveSameEntries_62 ?_
          refine lv_aload_n hx hb db_haveSameEntries_63 rfl (lv_at hl 2 rfl) ?_
          refine bg_pages hx hb hown hts hK hP db_haveSameEntries_64 ?_
          refine lv_iload hx hb db_haveSameEntries_67 (lv_at hl 0 rfl) ?_
          obtain ⟨r9, er9, ir9, hf⟩ := rdL_some hf
          refine bl_pages hx hb hK hP ir9 er9 db_haveSameEntries_69 ?_
          refine W.lcmp hx hb db_haveSameEntries_70 ?_
          refine lv_if_ne (tgt := 96) hx hb db_haveSameEntries_71 (by decide) (fun c10 => ?_) (fun c10 => ?_)
          · have hf := ifn c10 hf
            refine lv_iconst (v := 0) hx hb db_haveSameEntries_96 (by decide) ?_
            cases hf
            exact er_z hx hb hr hlk rfl db_haveSameEntries_97
          · have hf := ifp c10 hf
            refine lv_aload_n hx hb db_haveSameEntries_74 rfl (lv_at hl 2 rfl) ?_
            refine bg_pages hx hb hown hts hK hP db_haveSameEntries_75 ?_
            refine lv_iload hx hb db_haveSameEntries_78 (lv_at hl 1 rfl) ?_
            refine lv_iconst (v := 1) hx hb db_haveSameEntries_80 (by decide) ?_
            refine lv_iadd hx hb db_haveSameEntries_81 ?_
            obtain ⟨r11, er11, ir11, hf⟩ := rdL_some hf
            refine bl_pages hx hb hK hP ir11 er11 db_haveSameEntries_82 ?_
            refine lv_aload_n hx hb db_haveSameEntries_83 rfl (lv_at hl 2 rfl) ?_
            refine bg_pages hx hb hown hts hK hP db_haveSameEntries_84 ?_
            refine lv_iload hx hb db_haveSameEntries_87 (lv_at hl 0 rfl) ?_
            refine lv_iconst (v := 1) hx hb db_haveSameEntries_89 (by decide) ?_
            refine lv_iadd hx hb db_haveSameEntries_90 ?_
            obtain ⟨r12, er12, ir12, hf⟩ := rdL_some hf
            refine bl_pages hx hb hK hP ir12 er12 db_haveSameEntries_91 ?_
            refine W.lcmp hx hb db_haveSameEntries_92 ?_
            refine lv_if_eq (tgt := 98) hx hb db_haveSameEntries_93 (by decide) (fun c13 => ?_) (fun c13 => ?_)
            · have hf := ifp c13 hf
              refine lv_iinc (v := (x4 + 1)) (lv' := [(4, .int (x4 + 1)), (6, .int r4), (5, .int r2), (0, .ref (gm 0)), (1, .int x1), (2, .int x2), (3, .int x3)]) hx hb db_haveSameEntries_98 hl (k := 6) rfl rfl (by decide) rfl (fun ls hl => ?_)
              refine lv_goto (tgt := 20) hx hb db_haveSameEntries_101 (by decide) ?_
              exact ih _ _ _ _ _ (lv_sub hl [3, 4, 5, 6, 0] rfl) hf
            · have hf := ifn c13 hf
              refine lv_iconst (v := 0) hx hb db_haveSameEntries_96 (by decide) ?_
              cases hf
              exact er_z hx hb hr hlk rfl db_haveSameEntries_97
set_option maxRecDepth 100000 in
set_option maxHeartbeats 4000000 in
theorem wb_haveSameEntries_0 {p : Program} {l : Launch} {e : Env} {s : State} {m : MethodId} {args : Array Value} {below : List Frame} {meth : Method} {c : Code} {D : va_G} {gm : Nat → Nat} {ca : Nat → ClassId} {A : Nat → Prop} {st : BSt} (hX : BX p l e rmb_haveSameEntries s m args meth c D ca A kb_haveSameEntries 7 (some .boolean)) (hP : va_P D vwCl (wB gm ca st) s.heap) (n : Nat) : ∀ (x1 : Int32) (x2 : Int32) {r : Int32} (ls : Array Slot), lv_has ls 7 [(0, .ref (gm 0)), (1, .int x1), (2, .int x2)] → fb_haveSameEntries n st x1 x2 = some r → W p l e rmb_haveSameEntries s m args below meth c s.heap [] 0 0 (MQX below (xx_Q (XI r)) args s 0 0 (fun _ => False)) (F0 m 0 ls []) := by
  obtain ⟨hx, hb, hml, hr, hlk, hown, hts, hK, htr, hZ, hnh, hA, hfl⟩ := id hX
  intro x1 x2 r ls hl hf
  rw [fb_haveSameEntries] at hf
  refine lv_aload_n hx hb db_haveSameEntries_0 rfl (lv_at hl 0 rfl) ?_
  refine lv_iload_n hx hb db_haveSameEntries_1 rfl (lv_at hl 1 rfl) ?_
  obtain ⟨r1, h2, hf⟩ := obs hf
  refine rmI (cb_entriesOfRoot (l := l) (hfl := hfl) h2) (cw_entriesOfRoot hts ⟨by decide, by decide⟩) hx hb hml hown hts hK hP va_S.rf hZ hl.1 rfl rfl (lv_room (Nat.le_of_ble_eq_true rfl)) db_haveSameEntries_2 ⟨by decide, by decide⟩ ?_
  refine lv_istore_n (lv' := [(3, .int r1), (0, .ref (gm 0)), (1, .int x1), (2, .int x2)]) hx hb db_haveSameEntries_5 rfl hl (by decide) rfl (fun ls hl => ?_)
  refine lv_iload_n hx hb db_haveSameEntries_6 rfl (lv_at hl 0 rfl) ?_
  refine lv_aload_n hx hb db_haveSameEntries_7 rfl (lv_at hl 1 rfl) ?_
  refine lv_iload_n hx hb db_haveSameEntries_8 rfl (lv_at hl 3 rfl) ?_
  obtain ⟨r3, h4, hf⟩ := obs hf
  refine rmI (cb_entriesOfRoot (l := l) (hfl := hfl) h4) (cw_entriesOfRoot hts ⟨by decide, by decide⟩) hx hb hml hown hts hK hP va_S.rf hZ hl.1 rfl rfl (lv_room (Nat.le_of_ble_eq_true rfl)) db_haveSameEntries_9 ⟨by decide, by decide⟩ ?_
  refine lv_icmp_eq (tgt := 17) hx hb db_haveSameEntries_12 (by decide) (fun c5 => ?_) (fun c5 => ?_)
  · have hf := ifp c5 hf
    refine lv_iconst (v := 0) hx hb db_haveSameEntries_17 (by decide) ?_
    refine lv_istore (lv' := [(4, .int 0), (3, .int r1), (0, .ref (gm 0)), (1, .int x1), (2, .int x2)]) hx hb db_haveSameEntries_18 hl (by decide) rfl (fun ls hl => ?_)
    exact wb_haveSameEntries_20 hX hP n n _ _ _ _ _ (lv_sub hl [2, 3, 4, 1, 0] rfl) hf
  · have hf := ifn c5 hf
    refine lv_iconst (v := 0) hx hb db_haveSameEntries_15 (by decide) ?_
    cases hf
    exact er_z hx hb hr hlk rfl db_haveSameEntries_16
set_option maxRecDepth 100000 in
set_option maxHeartbeats 4000000 in
theorem cb_haveSameEntries {l : Launch} (hfl : l.flags = flags0) {D : va_G} {gm : Nat → Nat} {ca : Nat → ClassId} {st : BSt} {n : Nat} {x1 : Int32} {x2 : Int32} {r : Int32} (hf : fb_haveSameEntries n st x1 x2 = some r) : RM l yb_haveSameEntries rmb_haveSameEntries D gm ca [.int x1, .int x2] st (XI r) :=
  RM.of hfl (by decide +kernel) rfl mcb_haveSameEntries (fun p e s m below meth c hX hP => wb_haveSameEntries_0 hX hP n _ _ _ (lv_entry _ (Nat.le_of_ble_eq_true rfl)) hf)
set_option maxRecDepth 100000 in
set_option maxHeartbeats 4000000 in
theorem wb_same_0 {p : Program} {l : Launch} {e : Env} {s : State} {m : MethodId} {args : Array Value} {below : List Frame} {meth : Method} {c : Code} {D : va_G} {gm : Nat → Nat} {ca : Nat → ClassId} {A : Nat → Prop} {st : BSt} (hX : BX p l e rmb_same s m args meth c D ca A kb_same 3 (some .boolean)) (hP : va_P D vwCl (wB gm ca st) s.heap) (n : Nat) : ∀ (x1 : Int32) (x2 : Int32) {r : Int32 ⊕ Nat} (ls : Array Slot), lv_has ls 3 [(0, .ref (gm 0)), (1, .int x1), (2, .int x2)] → fb_same n st x1 x2 = some r → W p l e rmb_same s m args below meth c s.heap [] 0 0 (MQX below (xx_Q (xi r)) args s 3 18 (fun _ => False)) (F0 m 0 ls []) := by
  obtain ⟨hx, hb, hml, hr, hlk, hown, hts, hK, htr, hZ, hnh, hA, hfl⟩ := id hX
  intro x1 x2 r ls hl hf
  rw [fb_same] at hf
  refine lv_aload_n hx hb db_same_0 rfl (lv_at hl 0 rfl) ?_
  rcases thn_some hf with ⟨r1, h2, hf⟩ | ⟨k3, h2, hf⟩
  rotate_left 1
  · cases hf
    refine rmT (cb_requireOpen (l := l) (hfl := hfl) h2) (cw_requireOpen hts ⟨by decide, by decide⟩) hx hb hml hown hts hK hP va_S.rf hZ hl.1 rfl rfl (lv_room (Nat.le_of_ble_eq_true rfl)) db_same_1 ⟨by decide, by decide⟩ (fun x t h1 h2 h3 h4 h5 => ?_)
    refine WT.widen (k := 3) (n := 18) (by decide) (by decide) ?_
    exact rt_out hX h1 h2 h3 h4 h5
  refine rmV (cb_requireOpen (l := l) (hfl := hfl) h2) (cw_requireOpen hts ⟨by decide, by decide⟩) hx hb hml hown hts hK hP va_S.rf hZ hl.1 rfl rfl (lv_room (Nat.le_of_ble_eq_true rfl)) db_same_1 ⟨by decide, by decide⟩ ?_
  refine lv_aload_n hx hb db_same_4 rfl (lv_at hl 0 rfl) ?_
  refine lv_iload_n hx hb db_same_5 rfl (lv_at hl 1 rfl) ?_
  rcases thn_some hf with ⟨r4, h5, hf⟩ | ⟨k6, h5, hf⟩
  rotate_left 1
  · cases hf
    refine rmT (cb_requireKept (l := l) (hfl := hfl) h5) (cw_requireKept hts ⟨by decide, by decide⟩) hx hb hml hown hts hK hP va_S.rf hZ hl.1 rfl rfl (lv_room (Nat.le_of_ble_eq_true rfl)) db_same_6 ⟨by decide, by decide⟩ (fun x t h1 h2 h3 h4 h5 => ?_)
    refine WT.widen (k := 3) (n := 18) (by decide) (by decide) ?_
    exact rt_out hX h1 h2 h3 h4 h5
  refine rmV (cb_requireKept (l := l) (hfl := hfl) h5) (cw_requireKept hts ⟨by decide, by decide⟩) hx hb hml hown hts hK hP va_S.rf hZ hl.1 rfl rfl (lv_room (Nat.le_of_ble_eq_true rfl)) db_same_6 ⟨by decide, by decide⟩ ?_
  refine lv_aload_n hx hb db_same_9 rfl (lv_at hl 0 rfl) ?_
  refine lv_iload_n hx hb db_same_10 rfl (lv_at hl 2 rfl) ?_
  rcases thn_some hf with ⟨r7, h8, hf⟩ | ⟨k9, h8, hf⟩
  rotate_left 1
  · cases hf
    refine rmT (cb_requireKept (l := l) (hfl := hfl) h8) (cw_requireKept hts ⟨by decide, by decide⟩) hx hb hml hown hts hK hP va_S.rf hZ hl.1 rfl rfl (lv_room (Nat.le_of_ble_eq_true rfl)) db_same_11 ⟨by decide, by decide⟩ (fun x t h1 h2 h3 h4 h5 => ?_)
    exact rt_out hX h1 h2 h3 h4 h5
  refine rmV (cb_requireKept (l := l) (hfl := hfl) h8) (cw_requireKept hts ⟨by decide, by decide⟩) hx hb hml hown hts hK hP va_S.rf hZ hl.1 rfl rfl (lv_room (Nat.le_of_ble_eq_true rfl)) db_same_11 ⟨by decide, by decide⟩ ?_
  refine lv_aload_n hx hb db_same_14 rfl (lv_at hl 0 rfl) ?_
  refine lv_iload_n hx hb db_same_15 rfl (lv_at hl 1 rfl) ?_
  obtain ⟨r10, h11, hf⟩ := obs hf
  refine smI (cb_rootOf (l := l) (hfl := hfl) h11) (cw_rootOf hts ⟨by decide, by decide⟩) hx hb hml hown hts hl.1 rfl rfl (lv_room (Nat.le_of_ble_eq_true rfl)) db_same_16 ⟨by decide, by decide⟩ ?_
  refine lv_iload_n hx hb db_same_19 rfl (lv_at hl 2 rfl) ?_
  obtain ⟨r12, h13, hf⟩ := obs hf
  refine smI (cb_rootOf (l := l) (hfl := hfl) h13) (cw_rootOf hts ⟨by decide, by decide⟩) hx hb hml hown hts hl.1 rfl rfl (lv_room (Nat.le_of_ble_eq_true rfl)) db_same_20 ⟨by decide, by decide⟩ ?_
  obtain ⟨r14, h15, hf⟩ := obs hf
  refine rmI (cb_haveSameEntries (l := l) (hfl := hfl) h15) (cw_haveSameEntries hts ⟨by decide, by decide⟩) hx hb hml hown hts hK hP va_S.rf hZ hl.1 rfl rfl (lv_room (Nat.le_of_ble_eq_true rfl)) db_same_23 ⟨by decide, by decide⟩ ?_
  obtain ⟨_, hzb, hf⟩ := obs hf
  cases hf
  exact er_z hx hb hr hlk (zb_ok hzb) db_same_26
set_option maxRecDepth 100000 in
set_option maxHeartbeats 4000000 in
theorem cb_same {l : Launch} (hfl : l.flags = flags0) {D : va_G} {gm : Nat → Nat} {ca : Nat → ClassId} {st : BSt} {n : Nat} {x1 : Int32} {x2 : Int32} {r : Int32 ⊕ Nat} (hf : fb_same n st x1 x2 = some r) : RM l yb_same rmb_same D gm ca [.int x1, .int x2] st (xi r) :=
  RM.of hfl (by decide +kernel) rfl mcb_same (fun p e s m below meth c hX hP => wb_same_0 hX hP n _ _ _ (lv_entry _ (Nat.le_of_ble_eq_true rfl)) hf)
set_option maxRecDepth 100000 in
set_option maxHeartbeats 4000000 in
theorem wb_free_0 {p : Program} {l : Launch} {e : Env} {s : State} {m : MethodId} {args : Array Value} {below : List Frame} {meth : Method} {c : Code} {D : va_G} {gm : Nat → Nat} {ca : Nat → ClassId} {A : Nat → Prop} {st : BSt} (hX : BX p l e rmb_free s m args meth c D ca A kb_free 1 (some .int)) (hP : va_P D vwCl (wB gm ca st) s.heap) (n : Nat) : ∀ {r : Int32 ⊕ Nat} (ls : Array Slot), lv_has ls 1 [(0, .ref (gm 0))] → fb_free n st = some r → W p l e rmb_free s m args below meth c s.heap [] 0 0 (MQX below (xx_Q (xi r)) args s 1 6 (fun _ => False)) (F0 m 0 ls []) := by
  obtain ⟨hx, hb, hml, hr, hlk, hown, hts, hK, htr, hZ, hnh, hA, hfl⟩ := id hX
  intro r ls hl hf
  rw [fb_free] at hf
  refine lv_aload_n hx hb db_free_0 rfl (lv_at hl 0 rfl) ?_
  rcases thn_some hf with ⟨r1, h2, hf⟩ | ⟨k3, h2, hf⟩
  rotate_left 1
  · cases hf
    refine rmT (cb_requireOpen (l := l) (hfl := hfl) h2) (cw_requireOpen hts ⟨by decide, by decide⟩) hx hb hml hown hts hK hP va_S.rf hZ hl.1 rfl rfl (lv_room (Nat.le_of_ble_eq_true rfl)) db_free_1 ⟨by decide, by decide⟩ (fun x t h1 h2 h3 h4 h5 => ?_)
    exact rt_out hX h1 h2 h3 h4 h5
  refine rmV (cb_requireOpen (l := l) (hfl := hfl) h2) (cw_requireOpen hts ⟨by decide, by decide⟩) hx hb hml hown hts hK hP va_S.rf hZ hl.1 rfl rfl (lv_room (Nat.le_of_ble_eq_true rfl)) db_free_1 ⟨by decide, by decide⟩ ?_
  refine lv_aload_n hx hb db_free_4 rfl (lv_at hl 0 rfl) ?_
  refine bg_pageCount hx hb hown hts hK hP db_free_5 ?_
  refine lv_aload_n hx hb db_free_8 rfl (lv_at hl 0 rfl) ?_
  obtain ⟨r4, h5, hf⟩ := obs hf
  refine rmL (cb_heldPages (l := l) (hfl := hfl) h5) (cw_heldPages hts ⟨by decide, by decide⟩) hx hb hml hown hts hK hP va_S.rf hZ hl.1 rfl rfl (lv_room (Nat.le_of_ble_eq_true rfl)) db_free_9 ⟨by decide, by decide⟩ ?_
  obtain ⟨r6, h7, hf⟩ := obs hf
  refine smI (cj_bitCount (l := l) (hfl := hfl) h7) (cw_b_bitCount hts ⟨by decide, by decide⟩) hx hb hml hown hts hl.1 rfl rfl (lv_room (Nat.le_of_ble_eq_true rfl)) db_free_12 ⟨by decide, by decide⟩ ?_
  refine lv_isub hx hb db_free_15 ?_
  cases hf
  exact er_i hx hb hr hlk db_free_16
set_option maxRecDepth 100000 in
set_option maxHeartbeats 4000000 in
theorem cb_free {l : Launch} (hfl : l.flags = flags0) {D : va_G} {gm : Nat → Nat} {ca : Nat → ClassId} {st : BSt} {n : Nat} {r : Int32 ⊕ Nat} (hf : fb_free n st = some r) : RM l yb_free rmb_free D gm ca [] st (xi r) :=
  RM.of hfl (by decide +kernel) rfl mcb_free (fun p e s m below meth c hX hP => wb_free_0 hX hP n _ (lv_entry _ (Nat.le_of_ble_eq_true rfl)) hf)
set_option maxRecDepth 100000 in
set_option maxHeartbeats 4000000 in
theorem wb_writtenWords_0 {p : Program} {l : Launch} {e : Env} {s : State} {m : MethodId} {args : Array Value} {below : List Frame} {meth : Method} {c : Code} {D : va_G} {gm : Nat → Nat} {ca : Nat → ClassId} {A : Nat → Prop} {st : BSt} (hX : BX p l e rmb_writtenWords s m args meth c D ca A kb_writtenWords 1 (some .int)) (hP : va_P D vwCl (wB gm ca st) s.heap) (n : Nat) : ∀ {r : Int32} (ls : Array Slot), lv_has ls 1 [(0, .ref (gm 0))] → fb_writtenWords n st = some r → W p l e rmb_writtenWords s m args below meth c s.heap [] 0 0 (MQX below (xx_Q (XI r)) args s 0 0 (fun _ => False)) (F0 m 0 ls []) := by
  obtain ⟨hx, hb, hml, hr, hlk, hown, hts, hK, htr, hZ, hnh, hA, hfl⟩ := id hX
  intro r ls hl hf
  rw [fb_writtenWords] at hf
  refine lv_aload_n hx hb db_writtenWords_0 rfl (lv_at hl 0 rfl) ?_
  refine bg_takenCount hx hb hown hts hK hP db_writtenWords_1 ?_
  refine lv_bipush (v := 16) hx hb db_writtenWords_4 (by decide) ?_
  refine lv_imul hx hb db_writtenWords_6 ?_
  refine lv_bipush (v := 20) hx hb db_writtenWords_7 (by decide) ?_
  refine lv_iadd hx hb db_writtenWords_9 ?_
  cases hf
  exact er_i hx hb hr hlk db_writtenWords_10
set_option maxRecDepth 100000 in
set_option maxHeartbeats 4000000 in
theorem cb_writtenWords {l : Launch} (hfl : l.flags = flags0) {D : va_G} {gm : Nat → Nat} {ca : Nat → ClassId} {st : BSt} {n : Nat} {r : Int32} (hf : fb_writtenWords n st = some r) : RM l yb_writtenWords rmb_writtenWords D gm ca [] st (XI r) :=
  RM.of hfl (by decide +kernel) rfl mcb_writtenWords (fun p e s m below meth c hX hP => wb_writtenWords_0 hX hP n _ (lv_entry _ (Nat.le_of_ble_eq_true rfl)) hf)
