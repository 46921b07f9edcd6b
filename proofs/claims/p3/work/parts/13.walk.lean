set_option maxRecDepth 100000 in
set_option maxHeartbeats 4000000 in
theorem wb_hasRightLeaves_17 {p : Program} {l : Launch} {e : Env} {s : State} {m : MethodId} {args : Array Value} {below : List Frame} {meth : Method} {c : Code} {D : va_G} {gm : Nat → Nat} {ca : Nat → ClassId} {A : Nat → Prop} {st : BSt} (hX : BX p l e rmb_hasRightLeaves s m args meth c D ca A kb_hasRightLeaves 9 (some .boolean)) (hP : va_P D vwCl (wB gm ca st) s.heap) (n : Nat) :∀ (k : Nat), ∀ (x1 : Int32) (x2 : Int64) (x4 : Int64) (x6 : Int32) (x7 : Int32) {r : Int32} (ls : Array Slot), lv_has ls 9 [(0, .ref (gm 0)), (1, .int x1), (2, .long x2), (4, .long x4), (6, .int x6), (7, .int x7)] → fb_hasRightLeaves_17 n k st x1 x2 x4 x6 x7 = some r → W p l e rmb_hasRightLeaves s m args below meth c s.heap [] 0 0 (MQX below (xx_Q (XI r)) args s 0 0 (fun _ => False)) (F0 m 17 ls []) := by
  obtain ⟨hx, hb, hml, hr, hlk, hown, hts, hK, htr, hZ, hnh, hA, hfl⟩ := id hX
  intro k
  induction k with
  | zero =>
    intro x1 x2 x4 x6 x7 r ls hl hf
    rw [fb_hasRightLeaves_17] at hf
    cases hf
  | succ k ih =>
    intro x1 x2 x4 x6 x7 r ls hl hf
    rw [fb_hasRightLeaves_17] at hf
    refine lv_iload hx hb db_hasRightLeaves_17 (lv_at hl 5 rfl) ?_
    refine lv_iload hx hb db_hasRightLeaves_19 (lv_at hl 4 rfl) ?_
    refine lv_icmp_ge (tgt := 91) hx hb db_hasRightLeaves_21 (by decide) (fun c1 => ?_) (fun c1 => ?_)
    · have hf := ifp c1 hf
      refine lv_aload_n hx hb db_hasRightLeaves_91 rfl (lv_at hl 0 rfl) ?_
      refine bg_roots hx hb hown hts hK hP db_hasRightLeaves_92 ?_
      refine lv_iload_n hx hb db_hasRightLeaves_95 rfl (lv_at hl 1 rfl) ?_
      refine lv_bipush (v := 20) hx hb db_hasRightLeaves_96 (by decide) ?_
      refine lv_imul hx hb db_hasRightLeaves_98 ?_
      refine lv_bipush (v := 18) hx hb db_hasRightLeaves_99 (by decide) ?_
      refine lv_iadd hx hb db_hasRightLeaves_101 ?_
      obtain ⟨r2, er2, ir2, hf⟩ := rdL_some hf
      refine bl_roots hx hb hK hP ir2 er2 db_hasRightLeaves_102 ?_
      refine lv_lload hx hb db_hasRightLeaves_103 (lv_at hl 3 rfl) ?_
      refine W.lcmp hx hb db_hasRightLeaves_105 ?_
      refine lv_if_ne (tgt := 113) hx hb db_hasRightLeaves_106 (by decide) (fun c3 => ?_) (fun c3 => ?_)
      · have hf := ifn c3 hf
        refine lv_iconst (v := 0) hx hb db_hasRightLeaves_113 (by decide) ?_
        cases hf
        exact er_z hx hb hr hlk rfl db_hasRightLeaves_114
      · have hf := ifp c3 hf
        refine lv_iconst (v := 1) hx hb db_hasRightLeaves_109 (by decide) ?_
        refine lv_goto (tgt := 114) hx hb db_hasRightLeaves_110 (by decide) ?_
        cases hf
        exact er_z hx hb hr hlk rfl db_hasRightLeaves_114
    · have hf := ifn c1 hf
      refine lv_aload_n hx hb db_hasRightLeaves_24 rfl (lv_at hl 0 rfl) ?_
      refine lv_iload_n hx hb db_hasRightLeaves_25 rfl (lv_at hl 1 rfl) ?_
      refine lv_iload hx hb db_hasRightLeaves_26 (lv_at hl 5 rfl) ?_
      obtain ⟨r4, h5, hf⟩ := obs hf
      refine rmI (cb_pageOf (l := l) (hfl := hfl) h5) (cw_pageOf hts ⟨by decide, by decide⟩) hx hb hml hown hts hK hP va_S.rf hZ hl.1 rfl rfl (lv_room (Nat.le_of_ble_eq_true rfl)) db_hasRightLeaves_28 ⟨by decide, by decide⟩ ?_
      refine lv_istore (lv' := [(8, .int r4), (0, .ref (gm 0)), (1, .int x1), (2, .long x2), (4, .long x4), (6, .int x6), (7, .int x7)]) hx hb db_hasRightLeaves_31 hl (by decide) rfl (fun ls hl => ?_)
      refine lv_aload_n hx hb db_hasRightLeaves_33 rfl (lv_at hl 1 rfl) ?_
      refine lv_iload hx hb db_hasRightLeaves_34 (lv_at hl 0 rfl) ?_
      obtain ⟨r6, h7, hf⟩ := obs hf
      refine rmI (cb_isRightPage (l := l) (hfl := hfl) h7) (cw_isRightPage hts ⟨by decide, by decide⟩) hx hb hml hown hts hK hP va_S.rf hZ hl.1 rfl rfl (lv_room (Nat.le_of_ble_eq_true rfl)) db_hasRightLeaves_36 ⟨by decide, by decide⟩ ?_
      refine lv_if_eq (tgt := 51) hx hb db_hasRightLeaves_39 (by decide) (fun c8 => ?_) (fun c8 => ?_)
      · have hf := ifp c8 hf
        refine lv_iconst (v := 0) hx hb db_hasRightLeaves_51 (by decide) ?_
        cases hf
        exact er_z hx hb hr hlk rfl db_hasRightLeaves_52
      · have hf := ifn c8 hf
        refine lv_aload_n hx hb db_hasRightLeaves_42 rfl (lv_at hl 1 rfl) ?_
        refine lv_iload hx hb db_hasRightLeaves_43 (lv_at hl 0 rfl) ?_
        obtain ⟨r9, h10, hf⟩ := obs hf
        refine rmI (cb_entriesOf (l := l) (hfl := hfl) h10) (cw_entriesOf hts ⟨by decide, by decide⟩) hx hb hml hown hts hK hP va_S.rf hZ hl.1 rfl rfl (lv_room (Nat.le_of_ble_eq_true rfl)) db_hasRightLeaves_45 ⟨by decide, by decide⟩ ?_
        refine lv_if_ne (tgt := 53) hx hb db_hasRightLeaves_48 (by decide) (fun c11 => ?_) (fun c11 => ?_)
        · have hf := ifn c11 hf
          refine lv_aload_n hx hb db_hasRightLeaves_53 rfl (lv_at hl 1 rfl) ?_
          refine lv_iload hx hb db_hasRightLeaves_54 (lv_at hl 0 rfl) ?_
          obtain ⟨r12, h13, hf⟩ := obs hf
          refine rmL (cb_firstKey (l := l) (hfl := hfl) h13) (cw_firstKey hts ⟨by decide, by decide⟩) hx hb hml hown hts hK hP va_S.rf hZ hl.1 rfl rfl (lv_room (Nat.le_of_ble_eq_true rfl)) db_hasRightLeaves_56 ⟨by decide, by decide⟩ ?_
          refine lv_lload_n hx hb db_hasRightLeaves_59 rfl (lv_at hl 3 rfl) ?_
          refine W.lcmp hx hb db_hasRightLeaves_60 ?_
          refine lv_if_gt (tgt := 66) hx hb db_hasRightLeaves_61 (by decide) (fun c14 => ?_) (fun c14 => ?_)
          · have hf := ifp c14 hf
            refine lv_aload_n hx hb db_hasRightLeaves_66 rfl (lv_at hl 1 rfl) ?_
            refine lv_iload hx hb db_hasRightLeaves_67 (lv_at hl 0 rfl) ?_
            obtain ⟨r15, h16, hf⟩ := obs hf
            refine rmL (cb_lastKey (l := l) (hfl := hfl) h16) (cw_lastKey hts ⟨by decide, by decide⟩) hx hb hml hown hts hK hP va_S.rf hZ hl.1 rfl rfl (lv_room (Nat.le_of_ble_eq_true rfl)) db_hasRightLeaves_69 ⟨by decide, by decide⟩ ?_
            refine lv_lstore_n (lv' := [(2, .long r15), (8, .int r4), (0, .ref (gm 0)), (1, .int x1), (4, .long x4), (6, .int x6), (7, .int x7)]) hx hb db_hasRightLeaves_72 rfl hl (by decide) rfl (fun ls hl => ?_)
            refine lv_lload hx hb db_hasRightLeaves_73 (lv_at hl 4 rfl) ?_
            refine lv_aload_n hx hb db_hasRightLeaves_75 rfl (lv_at hl 2 rfl) ?_
            refine lv_iload hx hb db_hasRightLeaves_76 (lv_at hl 1 rfl) ?_
            obtain ⟨r17, h18, hf⟩ := obs hf
            refine rmI (cb_entriesOf (l := l) (hfl := hfl) h18) (cw_entriesOf hts ⟨by decide, by decide⟩) hx hb hml hown hts hK hP va_S.rf hZ hl.1 rfl rfl (lv_room (Nat.le_of_ble_eq_true rfl)) db_hasRightLeaves_78 ⟨by decide, by decide⟩ ?_
            refine lv_i2l hx hb db_hasRightLeaves_81 rfl ?_
            refine lv_ladd hx hb db_hasRightLeaves_82 ?_
            refine lv_lstore (lv' := [(4, .long (x4 + r17.toInt64)), (2, .long r15), (8, .int r4), (0, .ref (gm 0)), (1, .int x1), (6, .int x6), (7, .int x7)]) hx hb db_hasRightLeaves_83 hl (by decide) rfl (fun ls hl => ?_)
            refine lv_iinc (v := (x7 + 1)) (lv' := [(7, .int (x7 + 1)), (4, .long (x4 + r17.toInt64)), (2, .long r15), (8, .int r4), (0, .ref (gm 0)), (1, .int x1), (6, .int x6)]) hx hb db_hasRightLeaves_85 hl (k := 6) rfl rfl (by decide) rfl (fun ls hl => ?_)
            refine lv_goto (tgt := 17) hx hb db_hasRightLeaves_88 (by decide) ?_
            exact ih _ _ _ _ _ _ (lv_sub hl [4, 5, 2, 1, 6, 0] rfl) hf
          · have hf := ifn c14 hf
            refine lv_iconst (v := 0) hx hb db_hasRightLeaves_64 (by decide) ?_
            cases hf
            exact er_z hx hb hr hlk rfl db_hasRightLeaves_65
        · have hf := ifp c11 hf
          refine lv_iconst (v := 0) hx hb db_hasRightLeaves_51 (by decide) ?_
          cases hf
          exact er_z hx hb hr hlk rfl db_hasRightLeaves_52
set_option maxRecDepth 100000 in
set_option maxHeartbeats 4000000 in
theorem wb_hasRightLeaves_0 {p : Program} {l : Launch} {e : Env} {s : State} {m : MethodId} {args : Array Value} {below : List Frame} {meth : Method} {c : Code} {D : va_G} {gm : Nat → Nat} {ca : Nat → ClassId} {A : Nat → Prop} {st : BSt} (hX : BX p l e rmb_hasRightLeaves s m args meth c D ca A kb_hasRightLeaves 9 (some .boolean)) (hP : va_P D vwCl (wB gm ca st) s.heap) (n : Nat) : ∀ (x1 : Int32) {r : Int32} (ls : Array Slot), lv_has ls 9 [(0, .ref (gm 0)), (1, .int x1)] → fb_hasRightLeaves n st x1 = some r → W p l e rmb_hasRightLeaves s m args below meth c s.heap [] 0 0 (MQX below (xx_Q (XI r)) args s 0 0 (fun _ => False)) (F0 m 0 ls []) := by
  obtain ⟨hx, hb, hml, hr, hlk, hown, hts, hK, htr, hZ, hnh, hA, hfl⟩ := id hX
  intro x1 r ls hl hf
  rw [fb_hasRightLeaves] at hf
  refine lv_ldc2 (v := (-1)) hx hb hown (kcb_190 hts) db_hasRightLeaves_0 ?_
  refine lv_lstore_n (lv' := [(2, .long (-1)), (0, .ref (gm 0)), (1, .int x1)]) hx hb db_hasRightLeaves_3 rfl hl (by decide) rfl (fun ls hl => ?_)
  refine lv_lconst (v := 0) hx hb db_hasRightLeaves_4 (by decide) ?_
  refine lv_lstore (lv' := [(4, .long 0), (2, .long (-1)), (0, .ref (gm 0)), (1, .int x1)]) hx hb db_hasRightLeaves_5 hl (by decide) rfl (fun ls hl => ?_)
  refine lv_aload_n hx hb db_hasRightLeaves_7 rfl (lv_at hl 2 rfl) ?_
  refine lv_iload_n hx hb db_hasRightLeaves_8 rfl (lv_at hl 3 rfl) ?_
  obtain ⟨r1, h2, hf⟩ := obs hf
  refine rmI (cb_leavesOf (l := l) (hfl := hfl) h2) (cw_leavesOf hts ⟨by decide, by decide⟩) hx hb hml hown hts hK hP va_S.rf hZ hl.1 rfl rfl (lv_room (Nat.le_of_ble_eq_true rfl)) db_hasRightLeaves_9 ⟨by decide, by decide⟩ ?_
  refine lv_istore (lv' := [(6, .int r1), (4, .long 0), (2, .long (-1)), (0, .ref (gm 0)), (1, .int x1)]) hx hb db_hasRightLeaves_12 hl (by decide) rfl (fun ls hl => ?_)
  refine lv_iconst (v := 0) hx hb db_hasRightLeaves_14 (by decide) ?_
  refine lv_istore (lv' := [(7, .int 0), (6, .int r1), (4, .long 0), (2, .long (-1)), (0, .ref (gm 0)), (1, .int x1)]) hx hb db_hasRightLeaves_15 hl (by decide) rfl (fun ls hl => ?_)
  exact wb_hasRightLeaves_17 hX hP n n _ _ _ _ _ _ (lv_sub hl [4, 5, 3, 2, 1, 0] rfl) hf
set_option maxRecDepth 100000 in
set_option maxHeartbeats 4000000 in
theorem cb_hasRightLeaves {l : Launch} (hfl : l.flags = flags0) {D : va_G} {gm : Nat → Nat} {ca : Nat → ClassId} {st : BSt} {n : Nat} {x1 : Int32} {r : Int32} (hf : fb_hasRightLeaves n st x1 = some r) : RM l yb_hasRightLeaves rmb_hasRightLeaves D gm ca [.int x1] st (XI r) :=
  RM.of hfl (by decide +kernel) rfl mcb_hasRightLeaves (fun p e s m below meth c hX hP => wb_hasRightLeaves_0 hX hP n _ _ (lv_entry _ (Nat.le_of_ble_eq_true rfl)) hf)
set_option maxRecDepth 100000 in
set_option maxHeartbeats 4000000 in
theorem wb_isRightRoot_0 {p : Program} {l : Launch} {e : Env} {s : State} {m : MethodId} {args : Array Value} {below : List Frame} {meth : Method} {c : Code} {D : va_G} {gm : Nat → Nat} {ca : Nat → ClassId} {A : Nat → Prop} {st : BSt} (hX : BX p l e rmb_isRightRoot s m args meth c D ca A kb_isRightRoot 2 (some .boolean)) (hP : va_P D vwCl (wB gm ca st) s.heap) (n : Nat) : ∀ (x1 : Int32) {r : Int32} (ls : Array Slot), lv_has ls 2 [(0, .ref (gm 0)), (1, .int x1)] → fb_isRightRoot n st x1 = some r → W p l e rmb_isRightRoot s m args below meth c s.heap [] 0 0 (MQX below (xx_Q (XI r)) args s 0 0 (fun _ => False)) (F0 m 0 ls []) := by
  obtain ⟨hx, hb, hml, hr, hlk, hown, hts, hK, htr, hZ, hnh, hA, hfl⟩ := id hX
  intro x1 r ls hl hf
  rw [fb_isRightRoot] at hf
  refine lv_aload_n hx hb db_isRightRoot_0 rfl (lv_at hl 0 rfl) ?_
  refine lv_iload_n hx hb db_isRightRoot_1 rfl (lv_at hl 1 rfl) ?_
  obtain ⟨r1, h2, hf⟩ := obs hf
  refine rmI (cb_hasRootSum (l := l) (hfl := hfl) h2) (cw_hasRootSum hts ⟨by decide, by decide⟩) hx hb hml hown hts hK hP va_S.rf hZ hl.1 rfl rfl (lv_room (Nat.le_of_ble_eq_true rfl)) db_isRightRoot_2 ⟨by decide, by decide⟩ ?_
  refine lv_if_eq (tgt := 28) hx hb db_isRightRoot_5 (by decide) (fun c3 => ?_) (fun c3 => ?_)
  · have hf := ifp c3 hf
    refine lv_iconst (v := 0) hx hb db_isRightRoot_28 (by decide) ?_
    cases hf
    exact er_z hx hb hr hlk rfl db_isRightRoot_29
  · have hf := ifn c3 hf
    refine lv_aload_n hx hb db_isRightRoot_8 rfl (lv_at hl 0 rfl) ?_
    refine lv_iload_n hx hb db_isRightRoot_9 rfl (lv_at hl 1 rfl) ?_
    obtain ⟨r4, h5, hf⟩ := obs hf
    refine rmI (cb_isSound (l := l) (hfl := hfl) h5) (cw_isSound hts ⟨by decide, by decide⟩) hx hb hml hown hts hK hP va_S.rf hZ hl.1 rfl rfl (lv_room (Nat.le_of_ble_eq_true rfl)) db_isRightRoot_10 ⟨by decide, by decide⟩ ?_
    refine lv_if_eq (tgt := 28) hx hb db_isRightRoot_13 (by decide) (fun c6 => ?_) (fun c6 => ?_)
    · have hf := ifp c6 hf
      refine lv_iconst (v := 0) hx hb db_isRightRoot_28 (by decide) ?_
      cases hf
      exact er_z hx hb hr hlk rfl db_isRightRoot_29
    · have hf := ifn c6 hf
      refine lv_aload_n hx hb db_isRightRoot_16 rfl (lv_at hl 0 rfl) ?_
      refine lv_iload_n hx hb db_isRightRoot_17 rfl (lv_at hl 1 rfl) ?_
      obtain ⟨r7, h8, hf⟩ := obs hf
      refine rmI (cb_hasRightLeaves (l := l) (hfl := hfl) h8) (cw_hasRightLeaves hts ⟨by decide, by decide⟩) hx hb hml hown hts hK hP va_S.rf hZ hl.1 rfl rfl (lv_room (Nat.le_of_ble_eq_true rfl)) db_isRightRoot_18 ⟨by decide, by decide⟩ ?_
      refine lv_if_eq (tgt := 28) hx hb db_isRightRoot_21 (by decide) (fun c9 => ?_) (fun c9 => ?_)
      · have hf := ifp c9 hf
        refine lv_iconst (v := 0) hx hb db_isRightRoot_28 (by decide) ?_
        cases hf
        exact er_z hx hb hr hlk rfl db_isRightRoot_29
      · have hf := ifn c9 hf
        refine lv_iconst (v := 1) hx hb db_isRightRoot_24 (by decide) ?_
        refine lv_goto (tgt := 29) hx hb db_isRightRoot_25 (by decide) ?_
        cases hf
        exact er_z hx hb hr hlk rfl db_isRightRoot_29
set_option maxRecDepth 100000 in
set_option maxHeartbeats 4000000 in
theorem cb_isRightRoot {l : Launch} (hfl : l.flags = flags0) {D : va_G} {gm : Nat → Nat} {ca : Nat → ClassId} {st : BSt} {n : Nat} {x1 : Int32} {r : Int32} (hf : fb_isRightRoot n st x1 = some r) : RM l yb_isRightRoot rmb_isRightRoot D gm ca [.int x1] st (XI r) :=
  RM.of hfl (by decide +kernel) rfl mcb_isRightRoot (fun p e s m below meth c hX hP => wb_isRightRoot_0 hX hP n _ _ (lv_entry _ (Nat.le_of_ble_eq_true rfl)) hf)
set_option maxRecDepth 100000 in
set_option maxHeartbeats 4000000 in
theorem wb_isKept_0 {p : Program} {l : Launch} {e : Env} {s : State} {m : MethodId} {args : Array Value} {below : List Frame} {meth : Method} {c : Code} {D : va_G} {gm : Nat → Nat} {ca : Nat → ClassId} {A : Nat → Prop} {st : BSt} (hX : BX p l e rmb_isKept s m args meth c D ca A kb_isKept 3 (some .boolean)) (hP : va_P D vwCl (wB gm ca st) s.heap) (n : Nat) : ∀ (x1 : Int32) {r : Int32} (ls : Array Slot), lv_has ls 3 [(0, .ref (gm 0)), (1, .int x1)] → fb_isKept n st x1 = some r → W p l e rmb_isKept s m args below meth c s.heap [] 0 0 (MQX below (xx_Q (XI r)) args s 0 0 (fun _ => False)) (F0 m 0 ls []) := by
  obtain ⟨hx, hb, hml, hr, hlk, hown, hts, hK, htr, hZ, hnh, hA, hfl⟩ := id hX
  intro x1 r ls hl hf
  rw [fb_isKept] at hf
  refine lv_iload_n hx hb db_isKept_0 rfl (lv_at hl 1 rfl) ?_
  obtain ⟨r1, h2, hf⟩ := obs hf
  refine smI (cb_rootOf (l := l) (hfl := hfl) h2) (cw_rootOf hts ⟨by decide, by decide⟩) hx hb hml hown hts hl.1 rfl rfl (lv_room (Nat.le_of_ble_eq_true rfl)) db_isKept_1 ⟨by decide, by decide⟩ ?_
  refine lv_istore_n (lv' := [(2, .int r1), (0, .ref (gm 0)), (1, .int x1)]) hx hb db_isKept_4 rfl hl (by decide) rfl (fun ls hl => ?_)
  refine lv_iload_n hx hb db_isKept_5 rfl (lv_at hl 2 rfl) ?_
  refine lv_aload_n hx hb db_isKept_6 rfl (lv_at hl 1 rfl) ?_
  refine bg_newest hx hb hown hts hK hP db_isKept_7 ?_
  refine lv_icmp_gt (tgt := 40) hx hb db_isKept_10 (by decide) (fun c3 => ?_) (fun c3 => ?_)
  · have hf := ifp c3 hf
    refine lv_iconst (v := 0) hx hb db_isKept_40 (by decide) ?_
    cases hf
    exact er_z hx hb hr hlk rfl db_isKept_41
  · have hf := ifn c3 hf
    refine lv_aload_n hx hb db_isKept_13 rfl (lv_at hl 1 rfl) ?_
    refine bg_roots hx hb hown hts hK hP db_isKept_14 ?_
    refine lv_iload_n hx hb db_isKept_17 rfl (lv_at hl 0 rfl) ?_
    refine lv_bipush (v := 20) hx hb db_isKept_18 (by decide) ?_
    refine lv_imul hx hb db_isKept_20 ?_
    obtain ⟨r4, er4, ir4, hf⟩ := rdL_some hf
    refine bl_roots hx hb hK hP ir4 er4 db_isKept_21 ?_
    refine lv_iload_n hx hb db_isKept_22 rfl (lv_at hl 2 rfl) ?_
    refine lv_i2l hx hb db_isKept_23 rfl ?_
    refine W.lcmp hx hb db_isKept_24 ?_
    refine lv_if_ne (tgt := 40) hx hb db_isKept_25 (by decide) (fun c5 => ?_) (fun c5 => ?_)
    · have hf := ifn c5 hf
      refine lv_iconst (v := 0) hx hb db_isKept_40 (by decide) ?_
      cases hf
      exact er_z hx hb hr hlk rfl db_isKept_41
    · have hf := ifp c5 hf
      refine lv_aload_n hx hb db_isKept_28 rfl (lv_at hl 1 rfl) ?_
      refine lv_iload_n hx hb db_isKept_29 rfl (lv_at hl 0 rfl) ?_
      obtain ⟨r6, h7, hf⟩ := obs hf
      refine rmI (cb_isRightRoot (l := l) (hfl := hfl) h7) (cw_isRightRoot hts ⟨by decide, by decide⟩) hx hb hml hown hts hK hP va_S.rf hZ hl.1 rfl rfl (lv_room (Nat.le_of_ble_eq_true rfl)) db_isKept_30 ⟨by decide, by decide⟩ ?_
      refine lv_if_eq (tgt := 40) hx hb db_isKept_33 (by decide) (fun c8 => ?_) (fun c8 => ?_)
      · have hf := ifp c8 hf
        refine lv_iconst (v := 0) hx hb db_isKept_40 (by decide) ?_
        cases hf
        exact er_z hx hb hr hlk rfl db_isKept_41
      · have hf := ifn c8 hf
        refine lv_iconst (v := 1) hx hb db_isKept_36 (by decide) ?_
        refine lv_goto (tgt := 41) hx hb db_isKept_37 (by decide) ?_
        cases hf
        exact er_z hx hb hr hlk rfl db_isKept_41
set_option maxRecDepth 100000 in
set_option maxHeartbeats 4000000 in
theorem cb_isKept {l : Launch} (hfl : l.flags = flags0) {D : va_G} {gm : Nat → Nat} {ca : Nat → ClassId} {st : BSt} {n : Nat} {x1 : Int32} {r : Int32} (hf : fb_isKept n st x1 = some r) : RM l yb_isKept rmb_isKept D gm ca [.int x1] st (XI r) :=
  RM.of hfl (by decide +kernel) rfl mcb_isKept (fun p e s m below meth c hX hP => wb_isKept_0 hX hP n _ _ (lv_entry _ (Nat.le_of_ble_eq_true rfl)) hf)
set_option maxRecDepth 100000 in
set_option maxHeartbeats 4000000 in
theorem wb_requireWritable_0 {p : Program} {l : Launch} {e : Env} {s : State} {m : MethodId} {args : Array Value} {below : List Frame} {meth : Method} {c : Code} {D : va_G} {gm : Nat → Nat} {ca : Nat → ClassId} {A : Nat → Prop} {st : BSt} (hX : BX p l e rmb_requireWritable s m args meth c D ca A kb_requireWritable 1 (none)) (hP : va_P D vwCl (wB gm ca st) s.heap) (n : Nat) : ∀ {r : Unit ⊕ Nat} (ls : Array Slot), lv_has ls 1 [(0, .ref (gm 0))] → fb_requireWritable n st = some r → W p l e rmb_requireWritable s m args below meth c s.heap [] 0 0 (MQX below (xx_Q (xu r)) args s 2 12 (fun _ => False)) (F0 m 0 ls []) := by
  obtain ⟨hx, hb, hml, hr, hlk, hown, hts, hK, htr, hZ, hnh, hA, hfl⟩ := id hX
  intro r ls hl hf
  rw [fb_requireWritable] at hf
  refine lv_aload_n hx hb db_requireWritable_0 rfl (lv_at hl 0 rfl) ?_
  rcases thn_some hf with ⟨r1, h2, hf⟩ | ⟨k3, h2, hf⟩
  rotate_left 1
  · cases hf
    refine rmT (cb_requireOpen (l := l) (hfl := hfl) h2) (cw_requireOpen hts ⟨by decide, by decide⟩) hx hb hml hown hts hK hP va_S.rf hZ hl.1 rfl rfl (lv_room (Nat.le_of_ble_eq_true rfl)) db_requireWritable_1 ⟨by decide, by decide⟩ (fun x t h1 h2 h3 h4 h5 => ?_)
    refine WT.widen (k := 2) (n := 12) (by decide) (by decide) ?_
    exact rt_out hX h1 h2 h3 h4 h5
  refine rmV (cb_requireOpen (l := l) (hfl := hfl) h2) (cw_requireOpen hts ⟨by decide, by decide⟩) hx hb hml hown hts hK hP va_S.rf hZ hl.1 rfl rfl (lv_room (Nat.le_of_ble_eq_true rfl)) db_requireWritable_1 ⟨by decide, by decide⟩ ?_
  refine lv_aload_n hx hb db_requireWritable_4 rfl (lv_at hl 0 rfl) ?_
  refine lv_aload_n hx hb db_requireWritable_5 rfl (lv_at hl 0 rfl) ?_
  refine bg_newest hx hb hown hts hK hP db_requireWritable_6 ?_
  obtain ⟨r4, h5, hf⟩ := obs hf
  refine rmI (cb_isKept (l := l) (hfl := hfl) h5) (cw_isKept hts ⟨by decide, by decide⟩) hx hb hml hown hts hK hP va_S.rf hZ hl.1 rfl rfl (lv_room (Nat.le_of_ble_eq_true rfl)) db_requireWritable_9 ⟨by decide, by decide⟩ ?_
  refine lv_if_ne (tgt := 25) hx hb db_requireWritable_12 (by decide) (fun c6 => ?_) (fun c6 => ?_)
  · have hf := ifn c6 hf
    cases hf
    refine W.widen (k := 2) (n := 12) (by decide) (by decide) ?_
    exact er_v hx hb hr hlk db_requireWritable_25
  · have hf := ifp c6 hf
    cases hf
    exact rt_throw th_0_173 hX hl.1 db_requireWritable_15 db_requireWritable_18 db_requireWritable_19 db_requireWritable_21 db_requireWritable_24 ⟨by decide, by decide⟩ ⟨by decide, by decide⟩
set_option maxRecDepth 100000 in
set_option maxHeartbeats 4000000 in
theorem cb_requireWritable {l : Launch} (hfl : l.flags = flags0) {D : va_G} {gm : Nat → Nat} {ca : Nat → ClassId} {st : BSt} {n : Nat} {r : Unit ⊕ Nat} (hf : fb_requireWritable n st = some r) : RM l yb_requireWritable rmb_requireWritable D gm ca [] st (xu r) :=
  RM.of hfl (by decide +kernel) rfl mcb_requireWritable (fun p e s m below meth c hX hP => wb_requireWritable_0 hX hP n _ (lv_entry _ (Nat.le_of_ble_eq_true rfl)) hf)
set_option maxRecDepth 100000 in
set_option maxHeartbeats 4000000 in
theorem wb_requireKey_0 {p : Program} {l : Launch} {e : Env} {s : State} {m : MethodId} {args : Array Value} {below : List Frame} {meth : Method} {c : Code} {D : va_G} {gm : Nat → Nat} {ca : Nat → ClassId} {A : Nat → Prop} {st : BSt} (hX : BX p l e rmb_requireKey s m args meth c D ca A kb_requireKey 2 (none)) (hP : va_P D vwCl (wB gm ca st) s.heap) (n : Nat) : ∀ (x1 : Int32) {r : Unit ⊕ Nat} (ls : Array Slot), lv_has ls 2 [(0, .ref (gm 0)), (1, .int x1)] → fb_requireKey n st x1 = some r → W p l e rmb_requireKey s m args below meth c s.heap [] 0 0 (MQX below (xx_Q (xu r)) args s 1 6 (fun _ => False)) (F0 m 0 ls []) := by
  obtain ⟨hx, hb, hml, hr, hlk, hown, hts, hK, htr, hZ, hnh, hA, hfl⟩ := id hX
  intro x1 r ls hl hf
  rw [fb_requireKey] at hf
  refine lv_iload_n hx hb db_requireKey_0 rfl (lv_at hl 1 rfl) ?_
  refine lv_if_lt (tgt := 10) hx hb db_requireKey_1 (by decide) (fun c1 => ?_) (fun c1 => ?_)
  · have hf := ifp c1 hf
    cases hf
    exact rt_throw th_1_176 hX hl.1 db_requireKey_10 db_requireKey_13 db_requireKey_14 db_requireKey_16 db_requireKey_19 ⟨by decide, by decide⟩ ⟨by decide, by decide⟩
  · have hf := ifn c1 hf
    refine lv_iload_n hx hb db_requireKey_4 rfl (lv_at hl 1 rfl) ?_
    refine lv_ldc (v := 1000000) hx hb hown (kcb_175 hts) db_requireKey_5 ?_
    refine lv_icmp_le (tgt := 20) hx hb db_requireKey_7 (by decide) (fun c2 => ?_) (fun c2 => ?_)
    · have hf := ifp c2 hf
      cases hf
      refine W.widen (k := 1) (n := 6) (by decide) (by decide) ?_
      exact er_v hx hb hr hlk db_requireKey_20
    · have hf := ifn c2 hf
      cases hf
      exact rt_throw th_1_176 hX hl.1 db_requireKey_10 db_requireKey_13 db_requireKey_14 db_requireKey_16 db_requireKey_19 ⟨by decide, by decide⟩ ⟨by decide, by decide⟩
set_option maxRecDepth 100000 in
set_option maxHeartbeats 4000000 in
theorem cb_requireKey {l : Launch} (hfl : l.flags = flags0) {D : va_G} {gm : Nat → Nat} {ca : Nat → ClassId} {st : BSt} {n : Nat} {x1 : Int32} {r : Unit ⊕ Nat} (hf : fb_requireKey n st x1 = some r) : RM l yb_requireKey rmb_requireKey D gm ca [.int x1] st (xu r) :=
  RM.of hfl (by decide +kernel) rfl mcb_requireKey (fun p e s m below meth c hX hP => wb_requireKey_0 hX hP n _ _ (lv_entry _ (Nat.le_of_ble_eq_true rfl)) hf)
set_option maxRecDepth 100000 in
set_option maxHeartbeats 4000000 in
theorem wb_leafFor_18 {p : Program} {l : Launch} {e : Env} {s : State} {m : MethodId} {args : Array Value} {below : List Frame} {meth : Method} {c : Code} {D : va_G} {gm : Nat → Nat} {ca : Nat → ClassId} {A : Nat → Prop} {st : BSt} (hX : BX p l e rmb_leafFor s m args meth c D ca A kb_leafFor 6 (some .int)) (hP : va_P D vwCl (wB gm ca st) s.heap) (n : Nat) :∀ (k : Nat), ∀ (x1 : Int32) (x2 : Int32) (x3 : Int32) (x4 : Int32) (x5 : Int32) {r : Int32} (ls : Array Slot), lv_has ls 6 [(0, .ref (gm 0)), (1, .int x1), (2, .int x2), (3, .int x3), (4, .int x4), (5, .int x5)] → fb_leafFor_18 n k st x1 x2 x3 x4 x5 = some r → W p l e rmb_leafFor s m args below meth c s.heap [] 0 0 (MQX below (xx_Q (XI r)) args s 0 0 (fun _ => False)) (F0 m 18 ls []) := by
  obtain ⟨hx, hb, hml, hr, hlk, hown, hts, hK, htr, hZ, hnh, hA, hfl⟩ := id hX
  intro k
  induction k with
  | zero =>
    intro x1 x2 x3 x4 x5 r ls hl hf
    rw [fb_leafFor_18] at hf
    cases hf
  | succ k ih =>
    intro x1 x2 x3 x4 x5 r ls hl hf
    rw [fb_leafFor_18] at hf
    refine lv_iload hx hb db_leafFor_18 (lv_at hl 5 rfl) ?_
    refine lv_iload_n hx hb db_leafFor_20 rfl (lv_at hl 3 rfl) ?_
    refine lv_icmp_ge (tgt := 51) hx hb db_leafFor_21 (by decide) (fun c1 => ?_) (fun c1 => ?_)
    · have hf := ifp c1 hf
      refine lv_iload hx hb db_leafFor_51 (lv_at hl 4 rfl) ?_
      cases hf
      exact er_i hx hb hr hlk db_leafFor_53
    · have hf := ifn c1 hf
      refine lv_aload_n hx hb db_leafFor_24 rfl (lv_at hl 0 rfl) ?_
      refine lv_aload_n hx hb db_leafFor_25 rfl (lv_at hl 0 rfl) ?_
      refine lv_iload_n hx hb db_leafFor_26 rfl (lv_at hl 1 rfl) ?_
      refine lv_iload hx hb db_leafFor_27 (lv_at hl 5 rfl) ?_
      obtain ⟨r2, h3, hf⟩ := obs hf
      refine rmI (cb_pageOf (l := l) (hfl := hfl) h3) (cw_pageOf hts ⟨by decide, by decide⟩) hx hb hml hown hts hK hP va_S.rf hZ hl.1 rfl rfl (lv_room (Nat.le_of_ble_eq_true rfl)) db_leafFor_29 ⟨by decide, by decide⟩ ?_
      obtain ⟨r4, h5, hf⟩ := obs hf
      refine rmL (cb_firstKey (l := l) (hfl := hfl) h5) (cw_firstKey hts ⟨by decide, by decide⟩) hx hb hml hown hts hK hP va_S.rf hZ hl.1 rfl rfl (lv_room (Nat.le_of_ble_eq_true rfl)) db_leafFor_32 ⟨by decide, by decide⟩ ?_
      refine lv_iload_n hx hb db_leafFor_35 rfl (lv_at hl 2 rfl) ?_
      refine lv_i2l hx hb db_leafFor_36 rfl ?_
      refine W.lcmp hx hb db_leafFor_37 ?_
      refine lv_if_gt (tgt := 45) hx hb db_leafFor_38 (by decide) (fun c6 => ?_) (fun c6 => ?_)
      · have hf := ifp c6 hf
        refine lv_iinc (v := (x5 + 1)) (lv' := [(5, .int (x5 + 1)), (0, .ref (gm 0)), (1, .int x1), (2, .int x2), (3, .int x3), (4, .int x4)]) hx hb db_leafFor_45 hl (k := 5) rfl rfl (by decide) rfl (fun ls hl => ?_)
        refine lv_goto (tgt := 18) hx hb db_leafFor_48 (by decide) ?_
        exact ih _ _ _ _ _ _ (lv_sub hl [1, 2, 3, 4, 5, 0] rfl) hf
      · have hf := ifn c6 hf
        refine lv_iload hx hb db_leafFor_41 (lv_at hl 5 rfl) ?_
        refine lv_istore (lv' := [(4, .int x5), (0, .ref (gm 0)), (1, .int x1), (2, .int x2), (3, .int x3), (5, .int x5)]) hx hb db_leafFor_43 hl (by decide) rfl (fun ls hl => ?_)
        refine lv_iinc (v := (x5 + 1)) (lv' := [(5, .int (x5 + 1)), (4, .int x5), (0, .ref (gm 0)), (1, .int x1), (2, .int x2), (3, .int x3)]) hx hb db_leafFor_45 hl (k := 5) rfl rfl (by decide) rfl (fun ls hl => ?_)
        refine lv_goto (tgt := 18) hx hb db_leafFor_48 (by decide) ?_
        exact ih _ _ _ _ _ _ (lv_sub hl [2, 3, 4, 5, 1, 0] rfl) hf
set_option maxRecDepth 100000 in
set_option maxHeartbeats 4000000 in
theorem wb_leafFor_0 {p : Program} {l : Launch} {e : Env} {s : State} {m : MethodId} {args : Array Value} {below : List Frame} {meth : Method} {c : Code} {D : va_G} {gm : Nat → Nat} {ca : Nat → ClassId} {A : Nat → Prop} {st : BSt} (hX : BX p l e rmb_leafFor s m args meth c D ca A kb_leafFor 6 (some .int)) (hP : va_P D vwCl (wB gm ca st) s.heap) (n : Nat) : ∀ (x1 : Int32) (x2 : Int32) {r : Int32} (ls : Array Slot), lv_has ls 6 [(0, .ref (gm 0)), (1, .int x1), (2, .int x2)] → fb_leafFor n st x1 x2 = some r → W p l e rmb_leafFor s m args below meth c s.heap [] 0 0 (MQX below (xx_Q (XI r)) args s 0 0 (fun _ => False)) (F0 m 0 ls []) := by
  obtain ⟨hx, hb, hml, hr, hlk, hown, hts, hK, htr, hZ, hnh, hA, hfl⟩ := id hX
  intro x1 x2 r ls hl hf
  rw [fb_leafFor] at hf
  refine lv_aload_n hx hb db_leafFor_0 rfl (lv_at hl 0 rfl) ?_
  refine lv_iload_n hx hb db_leafFor_1 rfl (lv_at hl 1 rfl) ?_
  obtain ⟨r1, h2, hf⟩ := obs hf
  refine rmI (cb_leavesOf (l := l) (hfl := hfl) h2) (cw_leavesOf hts ⟨by decide, by decide⟩) hx hb hml hown hts hK hP va_S.rf hZ hl.1 rfl rfl (lv_room (Nat.le_of_ble_eq_true rfl)) db_leafFor_2 ⟨by decide, by decide⟩ ?_
  refine lv_istore_n (lv' := [(3, .int r1), (0, .ref (gm 0)), (1, .int x1), (2, .int x2)]) hx hb db_leafFor_5 rfl hl (by decide) rfl (fun ls hl => ?_)
  refine lv_iload_n hx hb db_leafFor_6 rfl (lv_at hl 0 rfl) ?_
  refine lv_if_ne (tgt := 12) hx hb db_leafFor_7 (by decide) (fun c3 => ?_) (fun c3 => ?_)
  · have hf := ifn c3 hf
    refine lv_iconst (v := 0) hx hb db_leafFor_12 (by decide) ?_
    refine lv_istore (lv' := [(4, .int 0), (3, .int r1), (0, .ref (gm 0)), (1, .int x1), (2, .int x2)]) hx hb db_leafFor_13 hl (by decide) rfl (fun ls hl => ?_)
    refine lv_iconst (v := 1) hx hb db_leafFor_15 (by decide) ?_
    refine lv_istore (lv' := [(5, .int 1), (4, .int 0), (3, .int r1), (0, .ref (gm 0)), (1, .int x1), (2, .int x2)]) hx hb db_leafFor_16 hl (by decide) rfl (fun ls hl => ?_)
    exact wb_leafFor_18 hX hP n n _ _ _ _ _ _ (lv_sub hl [3, 4, 5, 2, 1, 0] rfl) hf
  · have hf := ifp c3 hf
    refine lv_iconst (v := (-1)) hx hb db_leafFor_10 (by decide) ?_
    cases hf
    exact er_i hx hb hr hlk db_leafFor_11
set_option maxRecDepth 100000 in
set_option maxHeartbeats 4000000 in
theorem cb_leafFor {l : Launch} (hfl : l.flags = flags0) {D : va_G} {gm : Nat → Nat} {ca : Nat → ClassId} {st : BSt} {n : Nat} {x1 : Int32} {x2 : Int32} {r : Int32} (hf : fb_leafFor n st x1 x2 = some r) : RM l yb_leafFor rmb_leafFor D gm ca [.int x1, .int x2] st (XI r) :=
  RM.of hfl (by decide +kernel) rfl mcb_leafFor (fun p e s m below meth c hX hP => wb_leafFor_0 hX hP n _ _ _ (lv_entry _ (Nat.le_of_ble_eq_true rfl)) hf)
set_option maxRecDepth 100000 in
set_option maxHeartbeats 4000000 in
theorem wb_loadDraft_28 {p : Program} {l : Launch} {e : Env} {s : State} {m : MethodId} {args : Array Value} {below : List Frame} {meth : Method} {c : Code} {D : va_G} {gm : Nat → Nat} {ca : Nat → ClassId} {A : Nat → Prop} (hX : BX p l e rmb_loadDraft s m args meth c D ca A kb_loadDraft 6 (none)) (n : Nat) :∀ (k : Nat), ∀ (st : BSt) (x3 : Int32) (x4 : Int32) (x5 : Int32) {st' : BSt} (ls : Array Slot) (H : Heap) (locs : List Loc), BWd D gm ca A s.heap st H locs → lv_has ls 6 [(0, .ref (gm 0)), (3, .int x3), (4, .int x4), (5, .int x5)] → fb_loadDraft_28 n k st x3 x4 x5 = some st' → W p l e rmb_loadDraft s m args below meth c H locs 0 0 (MQX below (mm_Q D gm ca A (XV) st') args s 0 0 A) (F0 m 28 ls []) := by
  obtain ⟨hx, hb, hml, hr, hlk, hown, hts, hK, htr, hZ, hnh, hA, hfl⟩ := id hX
  intro k
  induction k with
  | zero =>
    intro st x3 x4 x5 st' ls H locs hB hl hf
    rw [fb_loadDraft_28] at hf
    cases hf
  | succ k ih =>
    intro st x3 x4 x5 st' ls H locs hB hl hf
    rw [fb_loadDraft_28] at hf
    refine lv_iload hx hb db_loadDraft_28 (lv_at hl 3 rfl) ?_
    refine lv_iload hx hb db_loadDraft_30 (lv_at hl 2 rfl) ?_
    refine lv_icmp_ge (tgt := 79) hx hb db_loadDraft_32 (by decide) (fun c1 => ?_) (fun c1 => ?_)
    · have hf := ifp c1 hf
      refine lv_aload_n hx hb db_loadDraft_79 rfl (lv_at hl 0 rfl) ?_
      refine lv_iload hx hb db_loadDraft_80 (lv_at hl 2 rfl) ?_
      refine bp_draftCount hx hb hown hts hK hB db_loadDraft_82 (fun H locs hB => ?_)
      cases hf
      exact em_v hx hb hr hlk hB db_loadDraft_85
    · have hf := ifn c1 hf
      refine lv_aload_n hx hb db_loadDraft_35 rfl (lv_at hl 0 rfl) ?_
      refine bg_draftKeys hx hb hown hts hK hB.1 db_loadDraft_36 ?_
      refine lv_iload hx hb db_loadDraft_39 (lv_at hl 3 rfl) ?_
      refine lv_aload_n hx hb db_loadDraft_41 rfl (lv_at hl 0 rfl) ?_
      refine bg_pages hx hb hown hts hK hB.1 db_loadDraft_42 ?_
      refine lv_iload_n hx hb db_loadDraft_45 rfl (lv_at hl 1 rfl) ?_
      refine lv_iload hx hb db_loadDraft_46 (lv_at hl 3 rfl) ?_
      obtain ⟨r2, h3, hf⟩ := obs hf
      refine smI (cb_entryAt (l := l) (hfl := hfl) h3) (cw_entryAt hts ⟨by decide, by decide⟩) hx hb hml hown hts hl.1 rfl rfl (lv_room (Nat.le_of_ble_eq_true rfl)) db_loadDraft_48 ⟨by decide, by decide⟩ ?_
      obtain ⟨r4, er4, ir4, hf⟩ := rdL_some hf
      refine bl_pages hx hb hK hB.1 ir4 er4 db_loadDraft_51 ?_
      obtain ⟨a5, ea5, ia5, hf⟩ := wrL_some hf
      refine bt_draftKeys hx hb hK hB ia5 ea5 db_loadDraft_52 (fun H locs hB => ?_)
      refine lv_aload_n hx hb db_loadDraft_53 rfl (lv_at hl 0 rfl) ?_
      refine bg_draftValues hx hb hown hts hK hB.1 db_loadDraft_54 ?_
      refine lv_iload hx hb db_loadDraft_57 (lv_at hl 3 rfl) ?_
      refine lv_aload_n hx hb db_loadDraft_59 rfl (lv_at hl 0 rfl) ?_
      refine bg_pages hx hb hown hts hK hB.1 db_loadDraft_60 ?_
      refine lv_iload_n hx hb db_loadDraft_63 rfl (lv_at hl 1 rfl) ?_
      refine lv_iload hx hb db_loadDraft_64 (lv_at hl 3 rfl) ?_
      obtain ⟨r6, h7, hf⟩ := obs hf
      refine smI (cb_entryAt (l := l) (hfl := hfl) h7) (cw_entryAt hts ⟨by decide, by decide⟩) hx hb hml hown hts hl.1 rfl rfl (lv_room (Nat.le_of_ble_eq_true rfl)) db_loadDraft_66 ⟨by decide, by decide⟩ ?_
      refine lv_iconst (v := 1) hx hb db_loadDraft_69 (by decide) ?_
      refine lv_iadd hx hb db_loadDraft_70 ?_
      obtain ⟨r8, er8, ir8, hf⟩ := rdL_some hf
      refine bl_pages hx hb hK hB.1 ir8 er8 db_loadDraft_71 ?_
      obtain ⟨a9, ea9, ia9, hf⟩ := wrL_some hf
      refine bt_draftValues hx hb hK hB ia9 ea9 db_loadDraft_72 (fun H locs hB => ?_)
      refine lv_iinc (v := (x5 + 1)) (lv' := [(5, .int (x5 + 1)), (0, .ref (gm 0)), (3, .int x3), (4, .int x4)]) hx hb db_loadDraft_73 hl (k := 3) rfl rfl (by decide) rfl (fun ls hl => ?_)
      refine lv_goto (tgt := 28) hx hb db_loadDraft_76 (by decide) ?_
      exact ih _ _ _ _ _ _ _ hB (lv_sub hl [1, 2, 3, 0] rfl) hf
set_option maxRecDepth 100000 in
set_option maxHeartbeats 4000000 in
theorem wb_loadDraft_0 {p : Program} {l : Launch} {e : Env} {s : State} {m : MethodId} {args : Array Value} {below : List Frame} {meth : Method} {c : Code} {D : va_G} {gm : Nat → Nat} {ca : Nat → ClassId} {A : Nat → Prop} {st : BSt} (hX : BX p l e rmb_loadDraft s m args meth c D ca A kb_loadDraft 6 (none)) (hB : BWd D gm ca A s.heap st s.heap []) (n : Nat) : ∀ (x1 : Int32) (x2 : Int32) {st' : BSt} (ls : Array Slot), lv_has ls 6 [(0, .ref (gm 0)), (1, .int x1), (2, .int x2)] → fb_loadDraft n st x1 x2 = some st' → W p l e rmb_loadDraft s m args below meth c s.heap [] 0 0 (MQX below (mm_Q D gm ca A (XV) st') args s 0 0 A) (F0 m 0 ls []) := by
  obtain ⟨hx, hb, hml, hr, hlk, hown, hts, hK, htr, hZ, hnh, hA, hfl⟩ := id hX
  intro x1 x2 st' ls hl hf
  rw [fb_loadDraft] at hf
  refine lv_aload_n hx hb db_loadDraft_0 rfl (lv_at hl 0 rfl) ?_
  refine lv_iconst (v := 0) hx hb db_loadDraft_1 (by decide) ?_
  refine bp_draftCount hx hb hown hts hK hB db_loadDraft_2 (fun H locs hB => ?_)
  refine lv_iload_n hx hb db_loadDraft_5 rfl (lv_at hl 2 rfl) ?_
  refine lv_iconst (v := (-1)) hx hb db_loadDraft_6 (by decide) ?_
  refine lv_icmp_ne (tgt := 11) hx hb db_loadDraft_7 (by decide) (fun c1 => ?_) (fun c1 => ?_)
  · have hf := ifn c1 hf
    refine lv_aload_n hx hb db_loadDraft_11 rfl (lv_at hl 0 rfl) ?_
    refine lv_iload_n hx hb db_loadDraft_12 rfl (lv_at hl 1 rfl) ?_
    refine lv_iload_n hx hb db_loadDraft_13 rfl (lv_at hl 2 rfl) ?_
    obtain ⟨r2, h3, hf⟩ := obs hf
    refine rmI (cb_pageOf (l := l) (hfl := hfl) h3) (cw_pageOf hts ⟨by decide, by decide⟩) hx hb hml hown hts hK hB.1 hB.2.2 hZ hl.1 rfl rfl (lv_room (Nat.le_of_ble_eq_true rfl)) db_loadDraft_14 ⟨by decide, by decide⟩ ?_
    refine lv_istore_n (lv' := [(3, .int r2), (0, .ref (gm 0)), (1, .int x1), (2, .int x2)]) hx hb db_loadDraft_17 rfl hl (by decide) rfl (fun ls hl => ?_)
    refine lv_aload_n hx hb db_loadDraft_18 rfl (lv_at hl 1 rfl) ?_
    refine lv_iload_n hx hb db_loadDraft_19 rfl (lv_at hl 0 rfl) ?_
    obtain ⟨r4, h5, hf⟩ := obs hf
    refine rmI (cb_entriesOf (l := l) (hfl := hfl) h5) (cw_entriesOf hts ⟨by decide, by decide⟩) hx hb hml hown hts hK hB.1 hB.2.2 hZ hl.1 rfl rfl (lv_room (Nat.le_of_ble_eq_true rfl)) db_loadDraft_20 ⟨by decide, by decide⟩ ?_
    refine lv_istore (lv' := [(4, .int r4), (3, .int r2), (0, .ref (gm 0)), (1, .int x1), (2, .int x2)]) hx hb db_loadDraft_23 hl (by decide) rfl (fun ls hl => ?_)
    refine lv_iconst (v := 0) hx hb db_loadDraft_25 (by decide) ?_
    refine lv_istore (lv' := [(5, .int 0), (4, .int r4), (3, .int r2), (0, .ref (gm 0)), (1, .int x1), (2, .int x2)]) hx hb db_loadDraft_26 hl (by decide) rfl (fun ls hl => ?_)
    exact wb_loadDraft_28 hX n n _ _ _ _ _ _ _ hB (lv_sub hl [3, 2, 1, 0] rfl) hf
  · have hf := ifp c1 hf
    cases hf
    exact em_v hx hb hr hlk hB db_loadDraft_10
set_option maxRecDepth 100000 in
set_option maxHeartbeats 4000000 in
theorem cb_loadDraft {l : Launch} (hfl : l.flags = flags0) {D : va_G} {gm : Nat → Nat} {ca : Nat → ClassId} {st : BSt} {n : Nat} {x1 : Int32} {x2 : Int32} {st' : BSt} (hf : fb_loadDraft n st x1 x2 = some st') : MM l yb_loadDraft rmb_loadDraft D gm ca [.int x1, .int x2] st (XV) st' :=
  MM.of hfl (by decide +kernel) rfl mcb_loadDraft (fun p e s m below meth c A _ hX hB => wb_loadDraft_0 hX hB n _ _ _ (lv_entry _ (Nat.le_of_ble_eq_true rfl)) hf)
set_option maxRecDepth 100000 in
set_option maxHeartbeats 4000000 in
theorem wb_placeInDraft_2 {p : Program} {l : Launch} {e : Env} {s : State} {m : MethodId} {args : Array Value} {below : List Frame} {meth : Method} {c : Code} {D : va_G} {gm : Nat → Nat} {ca : Nat → ClassId} {A : Nat → Prop} {st : BSt} (hX : BX p l e rmb_placeInDraft s m args meth c D ca A kb_placeInDraft 3 (some .int)) (hP : va_P D vwCl (wB gm ca st) s.heap) (n : Nat) :∀ (k : Nat), ∀ (x1 : Int32) (x2 : Int32) {r : Int32} (ls : Array Slot), lv_has ls 3 [(0, .ref (gm 0)), (1, .int x1), (2, .int x2)] → fb_placeInDraft_2 n k st x1 x2 = some r → W p l e rmb_placeInDraft s m args below meth c s.heap [] 0 0 (MQX below (xx_Q (XI r)) args s 0 0 (fun _ => False)) (F0 m 2 ls []) := by
  obtain ⟨hx, hb, hml, hr, hlk, hown, hts, hK, htr, hZ, hnh, hA, hfl⟩ := id hX
  intro k
  induction k with
  | zero =>
    intro x1 x2 r ls hl hf
    rw [fb_placeInDraft_2] at hf
    cases hf
  | succ k ih =>
    intro x1 x2 r ls hl hf
    rw [fb_placeInDraft_2] at hf
    refine lv_iload_n hx hb db_placeInDraft_2 rfl (lv_at hl 2 rfl) ?_
    refine lv_aload_n hx hb db_placeInDraft_3 rfl (lv_at hl 0 rfl) ?_
    refine bg_draftCount hx hb hown hts hK hP db_placeInDraft_4 ?_
    refine lv_icmp_ge (tgt := 28) hx hb db_placeInDraft_7 (by decide) (fun c1 => ?_) (fun c1 => ?_)
    · have hf := ifp c1 hf
      refine lv_iload_n hx hb db_placeInDraft_28 rfl (lv_at hl 2 rfl) ?_
      cases hf
      exact er_i hx hb hr hlk db_placeInDraft_29
    · have hf := ifn c1 hf
      refine lv_aload_n hx hb db_placeInDraft_10 rfl (lv_at hl 0 rfl) ?_
      refine bg_draftKeys hx hb hown hts hK hP db_placeInDraft_11 ?_
      refine lv_iload_n hx hb db_placeInDraft_14 rfl (lv_at hl 2 rfl) ?_
      obtain ⟨r2, er2, ir2, hf⟩ := rdL_some hf
      refine bl_draftKeys hx hb hK hP ir2 er2 db_placeInDraft_15 ?_
      refine lv_iload_n hx hb db_placeInDraft_16 rfl (lv_at hl 1 rfl) ?_
      refine lv_i2l hx hb db_placeInDraft_17 rfl ?_
      refine W.lcmp hx hb db_placeInDraft_18 ?_
      refine lv_if_ge (tgt := 28) hx hb db_placeInDraft_19 (by decide) (fun c3 => ?_) (fun c3 => ?_)
      · have hf := ifp c3 hf
        refine lv_iload_n hx hb db_placeInDraft_28 rfl (lv_at hl 2 rfl) ?_
        cases hf
        exact er_i hx hb hr hlk db_placeInDraft_29
      · have hf := ifn c3 hf
        refine lv_iinc (v := (x2 + 1)) (lv' := [(2, .int (x2 + 1)), (0, .ref (gm 0)), (1, .int x1)]) hx hb db_placeInDraft_22 hl (k := 2) rfl rfl (by decide) rfl (fun ls hl => ?_)
        refine lv_goto (tgt := 2) hx hb db_placeInDraft_25 (by decide) ?_
        exact ih _ _ _ (lv_sub hl [1, 2, 0] rfl) hf
set_option maxRecDepth 100000 in
set_option maxHeartbeats 4000000 in
theorem wb_placeInDraft_0 {p : Program} {l : Launch} {e : Env} {s : State} {m : MethodId} {args : Array Value} {below : List Frame} {meth : Method} {c : Code} {D : va_G} {gm : Nat → Nat} {ca : Nat → ClassId} {A : Nat → Prop} {st : BSt} (hX : BX p l e rmb_placeInDraft s m args meth c D ca A kb_placeInDraft 3 (some .int)) (hP : va_P D vwCl (wB gm ca st) s.heap) (n : Nat) : ∀ (x1 : Int32) {r : Int32} (ls : Array Slot), lv_has ls 3 [(0, .ref (gm 0)), (1, .int x1)] → fb_placeInDraft n st x1 = some r → W p l e rmb_placeInDraft s m args below meth c s.heap [] 0 0 (MQX below (xx_Q (XI r)) args s 0 0 (fun _ => False)) (F0 m 0 ls []) := by
  obtain ⟨hx, hb, hml, hr, hlk, hown, hts, hK, htr, hZ, hnh, hA, hfl⟩ := id hX
  intro x1 r ls hl hf
  rw [fb_placeInDraft] at hf
  refine lv_iconst (v := 0) hx hb db_placeInDraft_0 (by decide) ?_
  refine lv_istore_n (lv' := [(2, .int 0), (0, .ref (gm 0)), (1, .int x1)]) hx hb db_placeInDraft_1 rfl hl (by decide) rfl (fun ls hl => ?_)
  exact wb_placeInDraft_2 hX hP n n _ _ _ (lv_sub hl [1, 2, 0] rfl) hf
set_option maxRecDepth 100000 in
set_option maxHeartbeats 4000000 in
theorem cb_placeInDraft {l : Launch} (hfl : l.flags = flags0) {D : va_G} {gm : Nat → Nat} {ca : Nat → ClassId} {st : BSt} {n : Nat} {x1 : Int32} {r : Int32} (hf : fb_placeInDraft n st x1 = some r) : RM l yb_placeInDraft rmb_placeInDraft D gm ca [.int x1] st (XI r) :=
  RM.of hfl (by decide +kernel) rfl mcb_placeInDraft (fun p e s m below meth c hX hP => wb_placeInDraft_0 hX hP n _ _ (lv_entry _ (Nat.le_of_ble_eq_true rfl)) hf)
set_option maxRecDepth 100000 in
set_option maxHeartbeats 4000000 in
theorem wb_draftHasAt_0 {p : Program} {l : Launch} {e : Env} {s : State} {m : MethodId} {args : Array Value} {below : List Frame} {meth : Method} {c : Code} {D : va_G} {gm : Nat → Nat} {ca : Nat → ClassId} {A : Nat → Prop} {st : BSt} (hX : BX p l e rmb_draftHasAt s m args meth c D ca A kb_draftHasAt 3 (some .boolean)) (hP : va_P D vwCl (wB gm ca st) s.heap) (n : Nat) : ∀ (x1 : Int32) (x2 : Int32) {r : Int32} (ls : Array Slot), lv_has ls 3 [(0, .ref (gm 0)), (1, .int x1), (2, .int x2)] → fb_draftHasAt n st x1 x2 = some r → W p l e rmb_draftHasAt s m args below meth c s.heap [] 0 0 (MQX below (xx_Q (XI r)) args s 0 0 (fun _ => False)) (F0 m 0 ls []) := by
  obtain ⟨hx, hb, hml, hr, hlk, hown, hts, hK, htr, hZ, hnh, hA, hfl⟩ := id hX
  intro x1 x2 r ls hl hf
  rw [fb_draftHasAt] at hf
  refine lv_iload_n hx hb db_draftHasAt_0 rfl (lv_at hl 1 rfl) ?_
  refine lv_aload_n hx hb db_draftHasAt_1 rfl (lv_at hl 0 rfl) ?_
  refine bg_draftCount hx hb hown hts hK hP db_draftHasAt_2 ?_
  refine lv_icmp_ge (tgt := 24) hx hb db_draftHasAt_5 (by decide) (fun c1 => ?_) (fun c1 => ?_)
  · have hf := ifp c1 hf
    refine lv_iconst (v := 0) hx hb db_draftHasAt_24 (by decide) ?_
    cases hf
    exact er_z hx hb hr hlk rfl db_draftHasAt_25
  · have hf := ifn c1 hf
    refine lv_aload_n hx hb db_draftHasAt_8 rfl (lv_at hl 0 rfl) ?_
    refine bg_draftKeys hx hb hown hts hK hP db_draftHasAt_9 ?_
    refine lv_iload_n hx hb db_draftHasAt_12 rfl (lv_at hl 1 rfl) ?_
    obtain ⟨r2, er2, ir2, hf⟩ := rdL_some hf
    refine bl_draftKeys hx hb hK hP ir2 er2 db_draftHasAt_13 ?_
    refine lv_iload_n hx hb db_draftHasAt_14 rfl (lv_at hl 2 rfl) ?_
    refine lv_i2l hx hb db_draftHasAt_15 rfl ?_
    refine W.lcmp hx hb db_draftHasAt_16 ?_
    refine lv_if_ne (tgt := 24) hx hb db_draftHasAt_17 (by decide) (fun c3 => ?_) (fun c3 => ?_)
    · have hf := ifn c3 hf
      refine lv_iconst (v := 0) hx hb db_draftHasAt_24 (by decide) ?_
      cases hf
      exact er_z hx hb hr hlk rfl db_draftHasAt_25
    · have hf := ifp c3 hf
      refine lv_iconst (v := 1) hx hb db_draftHasAt_20 (by decide) ?_
      refine lv_goto (tgt := 25) hx hb db_draftHasAt_21 (by decide) ?_
      cases hf
      exact er_z hx hb hr hlk rfl db_draftHasAt_25
set_option maxRecDepth 100000 in
set_option maxHeartbeats 4000000 in
theorem cb_draftHasAt {l : Launch} (hfl : l.flags = flags0) {D : va_G} {gm : Nat → Nat} {ca : Nat → ClassId} {st : BSt} {n : Nat} {x1 : Int32} {x2 : Int32} {r : Int32} (hf : fb_draftHasAt n st x1 x2 = some r) : RM l yb_draftHasAt rmb_draftHasAt D gm ca [.int x1, .int x2] st (XI r) :=
  RM.of hfl (by decide +kernel) rfl mcb_draftHasAt (fun p e s m below meth c hX hP => wb_draftHasAt_0 hX hP n _ _ _ (lv_entry _ (Nat.le_of_ble_eq_true rfl)) hf)
set_option maxRecDepth 100000 in
set_option maxHeartbeats 4000000 in
theorem wb_putInDraft_23 {p : Program} {l : Launch} {e : Env} {s : State} {m : MethodId} {args : Array Value} {below : List Frame} {meth : Method} {c : Code} {D : va_G} {gm : Nat → Nat} {ca : Nat → ClassId} {A : Nat → Prop} (hX : BX p l e rmb_putInDraft s m args meth c D ca A kb_putInDraft 6 (none)) (n : Nat) :∀ (k : Nat), ∀ (st : BSt) (x1 : Int32) (x2 : Int64) (x4 : Int32) (x5 : Int32) {st' : BSt} (ls : Array Slot) (H : Heap) (locs : List Loc), BWd D gm ca A s.heap st H locs → lv_has ls 6 [(0, .ref (gm 0)), (1, .int x1), (2, .long x2), (4, .int x4), (5, .int x5)] → fb_putInDraft_23 n k st x1 x2 x4 x5 = some st' → W p l e rmb_putInDraft s m args below meth c H locs 0 0 (MQX below (mm_Q D gm ca A (XV) st') args s 0 0 A) (F0 m 23 ls []) := by
  obtain ⟨hx, hb, hml, hr, hlk, hown, hts, hK, htr, hZ, hnh, hA, hfl⟩ := id hX
  intro k
  induction k with
  | zero =>
    intro st x1 x2 x4 x5 st' ls H locs hB hl hf
    rw [fb_putInDraft_23] at hf
    cases hf
  | succ k ih =>
    intro st x1 x2 x4 x5 st' ls H locs hB hl hf
    rw [fb_putInDraft_23] at hf
    refine lv_iload hx hb db_putInDraft_23 (lv_at hl 4 rfl) ?_
    refine lv_iload hx hb db_putInDraft_25 (lv_at hl 3 rfl) ?_
    refine lv_icmp_le (tgt := 68) hx hb db_putInDraft_27 (by decide) (fun c1 => ?_) (fun c1 => ?_)
    · have hf := ifp c1 hf
      refine lv_aload_n hx hb db_putInDraft_68 rfl (lv_at hl 0 rfl) ?_
      refine lv_dup hx hb db_putInDraft_69 rfl ?_
      refine bg_draftCount hx hb hown hts hK hB.1 db_putInDraft_70 ?_
      refine lv_iconst (v := 1) hx hb db_putInDraft_73 (by decide) ?_
      refine lv_iadd hx hb db_putInDraft_74 ?_
      refine bp_draftCount hx hb hown hts hK hB db_putInDraft_75 (fun H locs hB => ?_)
      refine lv_aload_n hx hb db_putInDraft_78 rfl (lv_at hl 0 rfl) ?_
      refine bg_draftKeys hx hb hown hts hK hB.1 db_putInDraft_79 ?_
      refine lv_iload hx hb db_putInDraft_82 (lv_at hl 3 rfl) ?_
      refine lv_iload_n hx hb db_putInDraft_84 rfl (lv_at hl 1 rfl) ?_
      refine lv_i2l hx hb db_putInDraft_85 rfl ?_
      obtain ⟨a2, ea2, ia2, hf⟩ := wrL_some hf
      refine bt_draftKeys hx hb hK hB ia2 ea2 db_putInDraft_86 (fun H locs hB => ?_)
      refine lv_aload_n hx hb db_putInDraft_87 rfl (lv_at hl 0 rfl) ?_
      refine bg_draftValues hx hb hown hts hK hB.1 db_putInDraft_88 ?_
      refine lv_iload hx hb db_putInDraft_91 (lv_at hl 3 rfl) ?_
      refine lv_lload_n hx hb db_putInDraft_93 rfl (lv_at hl 2 rfl) ?_
      obtain ⟨a3, ea3, ia3, hf⟩ := wrL_some hf
      refine bt_draftValues hx hb hK hB ia3 ea3 db_putInDraft_94 (fun H locs hB => ?_)
      cases hf
      exact em_v hx hb hr hlk hB db_putInDraft_95
    · have hf := ifn c1 hf
      refine lv_aload_n hx hb db_putInDraft_30 rfl (lv_at hl 0 rfl) ?_
      refine bg_draftKeys hx hb hown hts hK hB.1 db_putInDraft_31 ?_
      refine lv_iload hx hb db_putInDraft_34 (lv_at hl 4 rfl) ?_
      refine lv_aload_n hx hb db_putInDraft_36 rfl (lv_at hl 0 rfl) ?_
      refine bg_draftKeys hx hb hown hts hK hB.1 db_putInDraft_37 ?_
      refine lv_iload hx hb db_putInDraft_40 (lv_at hl 4 rfl) ?_
      refine lv_iconst (v := 1) hx hb db_putInDraft_42 (by decide) ?_
      refine lv_isub hx hb db_putInDraft_43 ?_
      obtain ⟨r4, er4, ir4, hf⟩ := rdL_some hf
      refine bl_draftKeys hx hb hK hB.1 ir4 er4 db_putInDraft_44 ?_
      obtain ⟨a5, ea5, ia5, hf⟩ := wrL_some hf
      refine bt_draftKeys hx hb hK hB ia5 ea5 db_putInDraft_45 (fun H locs hB => ?_)
      refine lv_aload_n hx hb db_putInDraft_46 rfl (lv_at hl 0 rfl) ?_
      refine bg_draftValues hx hb hown hts hK hB.1 db_putInDraft_47 ?_
      refine lv_iload hx hb db_putInDraft_50 (lv_at hl 4 rfl) ?_
      refine lv_aload_n hx hb db_putInDraft_52 rfl (lv_at hl 0 rfl) ?_
      refine bg_draftValues hx hb hown hts hK hB.1 db_putInDraft_53 ?_
      refine lv_iload hx hb db_putInDraft_56 (lv_at hl 4 rfl) ?_
      refine lv_iconst (v := 1) hx hb db_putInDraft_58 (by decide) ?_
      refine lv_isub hx hb db_putInDraft_59 ?_
      obtain ⟨r6, er6, ir6, hf⟩ := rdL_some hf
      refine bl_draftValues hx hb hK hB.1 ir6 er6 db_putInDraft_60 ?_
      obtain ⟨a7, ea7, ia7, hf⟩ := wrL_some hf
      refine bt_draftValues hx hb hK hB ia7 ea7 db_putInDraft_61 (fun H locs hB => ?_)
      refine lv_iinc (v := (x5 + (-1))) (lv' := [(5, .int (x5 + (-1))), (0, .ref (gm 0)), (1, .int x1), (2, .long x2), (4, .int x4)]) hx hb db_putInDraft_62 hl (k := 4) rfl rfl (by decide) rfl (fun ls hl => ?_)
      refine lv_goto (tgt := 23) hx hb db_putInDraft_65 (by decide) ?_
      exact ih _ _ _ _ _ _ _ _ hB (lv_sub hl [1, 2, 3, 4, 0] rfl) hf
set_option maxRecDepth 100000 in
set_option maxHeartbeats 4000000 in
theorem wb_putInDraft_0 {p : Program} {l : Launch} {e : Env} {s : State} {m : MethodId} {args : Array Value} {below : List Frame} {meth : Method} {c : Code} {D : va_G} {gm : Nat → Nat} {ca : Nat → ClassId} {A : Nat → Prop} {st : BSt} (hX : BX p l e rmb_putInDraft s m args meth c D ca A kb_putInDraft 6 (none)) (hB : BWd D gm ca A s.heap st s.heap []) (n : Nat) : ∀ (x1 : Int32) (x2 : Int64) {st' : BSt} (ls : Array Slot), lv_has ls 6 [(0, .ref (gm 0)), (1, .int x1), (2, .long x2)] → fb_putInDraft n st x1 x2 = some st' → W p l e rmb_putInDraft s m args below meth c s.heap [] 0 0 (MQX below (mm_Q D gm ca A (XV) st') args s 0 0 A) (F0 m 0 ls []) := by
  obtain ⟨hx, hb, hml, hr, hlk, hown, hts, hK, htr, hZ, hnh, hA, hfl⟩ := id hX
  intro x1 x2 st' ls hl hf
  rw [fb_putInDraft] at hf
  refine lv_aload_n hx hb db_putInDraft_0 rfl (lv_at hl 0 rfl) ?_
  refine lv_iload_n hx hb db_putInDraft_1 rfl (lv_at hl 1 rfl) ?_
  obtain ⟨r1, h2, hf⟩ := obs hf
  refine rmI (cb_placeInDraft (l := l) (hfl := hfl) h2) (cw_placeInDraft hts ⟨by decide, by decide⟩) hx hb hml hown hts hK hB.1 hB.2.2 hZ hl.1 rfl rfl (lv_room (Nat.le_of_ble_eq_true rfl)) db_putInDraft_2 ⟨by decide, by decide⟩ ?_
  refine lv_istore (lv' := [(4, .int r1), (0, .ref (gm 0)), (1, .int x1), (2, .long x2)]) hx hb db_putInDraft_5 hl (by decide) rfl (fun ls hl => ?_)
  refine lv_aload_n hx hb db_putInDraft_7 rfl (lv_at hl 1 rfl) ?_
  refine lv_iload hx hb db_putInDraft_8 (lv_at hl 0 rfl) ?_
  refine lv_iload_n hx hb db_putInDraft_10 rfl (lv_at hl 2 rfl) ?_
  obtain ⟨r3, h4, hf⟩ := obs hf
  refine rmI (cb_draftHasAt (l := l) (hfl := hfl) h4) (cw_draftHasAt hts ⟨by decide, by decide⟩) hx hb hml hown hts hK hB.1 hB.2.2 hZ hl.1 rfl rfl (lv_room (Nat.le_of_ble_eq_true rfl)) db_putInDraft_11 ⟨by decide, by decide⟩ ?_
  refine lv_if_ne (tgt := 78) hx hb db_putInDraft_14 (by decide) (fun c5 => ?_) (fun c5 => ?_)
  · have hf := ifn c5 hf
    refine lv_aload_n hx hb db_putInDraft_78 rfl (lv_at hl 1 rfl) ?_
    refine bg_draftKeys hx hb hown hts hK hB.1 db_putInDraft_79 ?_
    refine lv_iload hx hb db_putInDraft_82 (lv_at hl 0 rfl) ?_
    refine lv_iload_n hx hb db_putInDraft_84 rfl (lv_at hl 2 rfl) ?_
    refine lv_i2l hx hb db_putInDraft_85 rfl ?_
    obtain ⟨a6, ea6, ia6, hf⟩ := wrL_some hf
    refine bt_draftKeys hx hb hK hB ia6 ea6 db_putInDraft_86 (fun H locs hB => ?_)
    refine lv_aload_n hx hb db_putInDraft_87 rfl (lv_at hl 1 rfl) ?_
    refine bg_draftValues hx hb hown hts hK hB.1 db_putInDraft_88 ?_
    refine lv_iload hx hb db_putInDraft_91 (lv_at hl 0 rfl) ?_
    refine lv_lload_n hx hb db_putInDraft_93 rfl (lv_at hl 3 rfl) ?_
    obtain ⟨a7, ea7, ia7, hf⟩ := wrL_some hf
    refine bt_draftValues hx hb hK hB ia7 ea7 db_putInDraft_94 (fun H locs hB => ?_)
    cases hf
    exact em_v hx hb hr hlk hB db_putInDraft_95
  · have hf := ifp c5 hf
    refine lv_aload_n hx hb db_putInDraft_17 rfl (lv_at hl 1 rfl) ?_
    refine bg_draftCount hx hb hown hts hK hB.1 db_putInDraft_18 ?_
    refine lv_istore (lv' := [(5, .int (bs_draftCount st)), (4, .int r1), (0, .ref (gm 0)), (1, .int x1), (2, .long x2)]) hx hb db_putInDraft_21 hl (by decide) rfl (fun ls hl => ?_)
    exact wb_putInDraft_23 hX n n _ _ _ _ _ _ _ _ hB (lv_sub hl [2, 3, 4, 1, 0] rfl) hf
set_option maxRecDepth 100000 in
set_option maxHeartbeats 4000000 in
theorem cb_putInDraft {l : Launch} (hfl : l.flags = flags0) {D : va_G} {gm : Nat → Nat} {ca : Nat → ClassId} {st : BSt} {n : Nat} {x1 : Int32} {x2 : Int64} {st' : BSt} (hf : fb_putInDraft n st x1 x2 = some st') : MM l yb_putInDraft rmb_putInDraft D gm ca [.int x1, .long x2] st (XV) st' :=
  MM.of hfl (by decide +kernel) rfl mcb_putInDraft (fun p e s m below meth c A _ hX hB => wb_putInDraft_0 hX hB n _ _ _ (lv_entry _ (Nat.le_of_ble_eq_true rfl)) hf)
set_option maxRecDepth 100000 in
set_option maxHeartbeats 4000000 in
theorem wb_pagesOf_12 {p : Program} {l : Launch} {e : Env} {s : State} {m : MethodId} {args : Array Value} {below : List Frame} {meth : Method} {c : Code} {D : va_G} {gm : Nat → Nat} {ca : Nat → ClassId} {A : Nat → Prop} {st : BSt} (hX : BX p l e rmb_pagesOf s m args meth c D ca A kb_pagesOf 6 (some .long)) (hP : va_P D vwCl (wB gm ca st) s.heap) (n : Nat) :∀ (k : Nat), ∀ (x1 : Int32) (x2 : Int64) (x4 : Int32) (x5 : Int32) {r : Int64} (ls : Array Slot), lv_has ls 6 [(0, .ref (gm 0)), (1, .int x1), (2, .long x2), (4, .int x4), (5, .int x5)] → fb_pagesOf_12 n k st x1 x2 x4 x5 = some r → W p l e rmb_pagesOf s m args below meth c s.heap [] 0 0 (MQX below (xx_Q (XL r)) args s 0 0 (fun _ => False)) (F0 m 12 ls []) := by
  obtain ⟨hx, hb, hml, hr, hlk, hown, hts, hK, htr, hZ, hnh, hA, hfl⟩ := id hX
  intro k
  induction k with
  | zero =>
    intro x1 x2 x4 x5 r ls hl hf
    rw [fb_pagesOf_12] at hf
    cases hf
  | succ k ih =>
    intro x1 x2 x4 x5 r ls hl hf
    rw [fb_pagesOf_12] at hf
    refine lv_iload hx hb db_pagesOf_12 (lv_at hl 4 rfl) ?_
    refine lv_iload hx hb db_pagesOf_14 (lv_at hl 3 rfl) ?_
    refine lv_icmp_ge (tgt := 37) hx hb db_pagesOf_16 (by decide) (fun c1 => ?_) (fun c1 => ?_)
    · have hf := ifp c1 hf
      refine lv_lload_n hx hb db_pagesOf_37 rfl (lv_at hl 2 rfl) ?_
      cases hf
      exact er_l hx hb hr hlk db_pagesOf_38
    · have hf := ifn c1 hf
      refine lv_lload_n hx hb db_pagesOf_19 rfl (lv_at hl 2 rfl) ?_
      refine lv_lconst (v := 1) hx hb db_pagesOf_20 (by decide) ?_
      refine lv_aload_n hx hb db_pagesOf_21 rfl (lv_at hl 0 rfl) ?_
      refine lv_iload_n hx hb db_pagesOf_22 rfl (lv_at hl 1 rfl) ?_
      refine lv_iload hx hb db_pagesOf_23 (lv_at hl 4 rfl) ?_
      obtain ⟨r2, h3, hf⟩ := obs hf
      refine rmI (cb_pageOf (l := l) (hfl := hfl) h3) (cw_pageOf hts ⟨by decide, by decide⟩) hx hb hml hown hts hK hP va_S.rf hZ hl.1 rfl rfl (lv_room (Nat.le_of_ble_eq_true rfl)) db_pagesOf_25 ⟨by decide, by decide⟩ ?_
      refine lv_lshl hx hb db_pagesOf_28 rfl ?_
      refine lv_lor hx hb db_pagesOf_29 ?_
      refine lv_lstore_n (lv' := [(2, .long (x2 ||| ((1 : Int64) <<< (r2.toInt64 &&& 63)))), (0, .ref (gm 0)), (1, .int x1), (4, .int x4), (5, .int x5)]) hx hb db_pagesOf_30 rfl hl (by decide) rfl (fun ls hl => ?_)
      refine lv_iinc (v := (x5 + 1)) (lv' := [(5, .int (x5 + 1)), (2, .long (x2 ||| ((1 : Int64) <<< (r2.toInt64 &&& 63)))), (0, .ref (gm 0)), (1, .int x1), (4, .int x4)]) hx hb db_pagesOf_31 hl (k := 4) rfl rfl (by decide) rfl (fun ls hl => ?_)
      refine lv_goto (tgt := 12) hx hb db_pagesOf_34 (by decide) ?_
      exact ih _ _ _ _ _ (lv_sub hl [2, 3, 1, 4, 0] rfl) hf
set_option maxRecDepth 100000 in
set_option maxHeartbeats 4000000 in
theorem wb_pagesOf_0 {p : Program} {l : Launch} {e : Env} {s : State} {m : MethodId} {args : Array Value} {below : List Frame} {meth : Method} {c : Code} {D : va_G} {gm : Nat → Nat} {ca : Nat → ClassId} {A : Nat → Prop} {st : BSt} (hX : BX p l e rmb_pagesOf s m args meth c D ca A kb_pagesOf 6 (some .long)) (hP : va_P D vwCl (wB gm ca st) s.heap) (n : Nat) : ∀ (x1 : Int32) {r : Int64} (ls : Array Slot), lv_has ls 6 [(0, .ref (gm 0)), (1, .int x1)] → fb_pagesOf n st x1 = some r → W p l e rmb_pagesOf s m args below meth c s.heap [] 0 0 (MQX below (xx_Q (XL r)) args s 0 0 (fun _ => False)) (F0 m 0 ls []) := by
  obtain ⟨hx, hb, hml, hr, hlk, hown, hts, hK, htr, hZ, hnh, hA, hfl⟩ := id hX
  intro x1 r ls hl hf
  rw [fb_pagesOf] at hf
  refine lv_lconst (v := 0) hx hb db_pagesOf_0 (by decide) ?_
  refine lv_lstore_n (lv' := [(2, .long 0), (0, .ref (gm 0)), (1, .int x1)]) hx hb db_pagesOf_1 rfl hl (by decide) rfl (fun ls hl => ?_)
  refine lv_aload_n hx hb db_pagesOf_2 rfl (lv_at hl 1 rfl) ?_
  refine lv_iload_n hx hb db_pagesOf_3 rfl (lv_at hl 2 rfl) ?_
  obtain ⟨r1, h2, hf⟩ := obs hf
  refine rmI (cb_leavesOf (l := l) (hfl := hfl) h2) (cw_leavesOf hts ⟨by decide, by decide⟩) hx hb hml hown hts hK hP va_S.rf hZ hl.1 rfl rfl (lv_room (Nat.le_of_ble_eq_true rfl)) db_pagesOf_4 ⟨by decide, by decide⟩ ?_
  refine lv_istore (lv' := [(4, .int r1), (2, .long 0), (0, .ref (gm 0)), (1, .int x1)]) hx hb db_pagesOf_7 hl (by decide) rfl (fun ls hl => ?_)
  refine lv_iconst (v := 0) hx hb db_pagesOf_9 (by decide) ?_
  refine lv_istore (lv' := [(5, .int 0), (4, .int r1), (2, .long 0), (0, .ref (gm 0)), (1, .int x1)]) hx hb db_pagesOf_10 hl (by decide) rfl (fun ls hl => ?_)
  exact wb_pagesOf_12 hX hP n n _ _ _ _ _ (lv_sub hl [3, 4, 2, 1, 0] rfl) hf
set_option maxRecDepth 100000 in
set_option maxHeartbeats 4000000 in
theorem cb_pagesOf {l : Launch} (hfl : l.flags = flags0) {D : va_G} {gm : Nat → Nat} {ca : Nat → ClassId} {st : BSt} {n : Nat} {x1 : Int32} {r : Int64} (hf : fb_pagesOf n st x1 = some r) : RM l yb_pagesOf rmb_pagesOf D gm ca [.int x1] st (XL r) :=
  RM.of hfl (by decide +kernel) rfl mcb_pagesOf (fun p e s m below meth c hX hP => wb_pagesOf_0 hX hP n _ _ (lv_entry _ (Nat.le_of_ble_eq_true rfl)) hf)
