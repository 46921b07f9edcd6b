set_option maxRecDepth 100000 in
set_option maxHeartbeats 4000000 in
theorem wm_isFree_54 {p : Program} {l : Launch} {e : Env} {s : State} {m : MethodId} {args : Array Value} {below : List Frame} {meth : Method} {c : Code} {D : va_G} {gm : Nat → Nat} {ca : Nat → ClassId} {A : Nat → Prop} {st : MSt} (hX : MX p l e rmm_isFree s m args meth c D ca A km_isFree 7 (some .boolean)) (hP : va_P D vwCl (wM gm ca st) s.heap) (n : Nat) (kb : MSt → Int32 → Int32 → Int32 → Option Int32) (hkb : ∀ (x1 : Int32) (x2 : Int32) (x3 : Int32) {r : Int32} (ls : Array Slot), lv_has ls 7 [(0, .ref (gm 0)), (1, .int x1), (2, .int x2), (3, .int x3)] → kb st x1 x2 x3 = some r → W p l e rmm_isFree s m args below meth c s.heap [] 0 0 (MQX below (xx_Q (XI r)) args s 0 0 (fun _ => False)) (F0 m 4 ls [])) :∀ (k : Nat), ∀ (x1 : Int32) (x2 : Int32) (x3 : Int32) (x4 : Int32) (x5 : Int32) (x6 : Int32) {r : Int32} (ls : Array Slot), lv_has ls 7 [(0, .ref (gm 0)), (1, .int x1), (2, .int x2), (3, .int x3), (4, .int x4), (5, .int x5), (6, .int x6)] → fm_isFree_54 n kb k st x1 x2 x3 x4 x5 x6 = some r → W p l e rmm_isFree s m args below meth c s.heap [] 0 0 (MQX below (xx_Q (XI r)) args s 0 0 (fun _ => False)) (F0 m 54 ls []) := by
  obtain ⟨hx, hb, hml, hr, hlk, hown, hts, hK, htr, hZ, hnh, hA, hfl⟩ := id hX
  intro k
  induction k with
  | zero =>
    intro x1 x2 x3 x4 x5 x6 r ls hl hf
    rw [fm_isFree_54] at hf
    cases hf
  | succ k ih =>
    intro x1 x2 x3 x4 x5 x6 r ls hl hf
    rw [fm_isFree_54] at hf
    refine lv_iload hx hb dm_isFree_54 (lv_at hl 5 rfl) ?_
    refine lv_if_eq (tgt := 109) hx hb dm_isFree_56 (by decide) (fun c1 => ?_) (fun c1 => ?_)
    · have hf := ifp c1 hf
      refine lv_iinc (v := (x3 + 1)) (lv' := [(3, .int (x3 + 1)), (0, .ref (gm 0)), (1, .int x1), (2, .int x2), (4, .int x4), (5, .int x5), (6, .int x6)]) hx hb dm_isFree_109 hl (k := 3) rfl rfl (by decide) rfl (fun ls hl => ?_)
      refine lv_goto (tgt := 4) hx hb dm_isFree_112 (by decide) ?_
      exact hkb _ _ _ _ (lv_sub hl [1, 2, 3, 0] rfl) hf
    · have hf := ifn c1 hf
      refine lv_iload hx hb dm_isFree_59 (lv_at hl 6 rfl) ?_
      refine lv_i2l hx hb dm_isFree_61 rfl ?_
      refine lv_aload_n hx hb dm_isFree_62 rfl (lv_at hl 0 rfl) ?_
      refine qbg_words hx hb hown hts hK hP dm_isFree_63 ?_
      refine lv_iload hx hb dm_isFree_66 (lv_at hl 4 rfl) ?_
      refine lv_iconst (v := 1) hx hb dm_isFree_68 (by decide) ?_
      refine lv_iadd hx hb dm_isFree_69 ?_
      obtain ⟨r2, er2, ir2, hf⟩ := rdL_some hf
      refine qbl_words hx hb hK hP ir2 er2 dm_isFree_70 ?_
      refine W.lcmp hx hb dm_isFree_71 ?_
      refine lv_if_ge (tgt := 109) hx hb dm_isFree_72 (by decide) (fun c3 => ?_) (fun c3 => ?_)
      · have hf := ifp c3 hf
        refine lv_iinc (v := (x3 + 1)) (lv' := [(3, .int (x3 + 1)), (0, .ref (gm 0)), (1, .int x1), (2, .int x2), (4, .int x4), (5, .int x5), (6, .int x6)]) hx hb dm_isFree_109 hl (k := 3) rfl rfl (by decide) rfl (fun ls hl => ?_)
        refine lv_goto (tgt := 4) hx hb dm_isFree_112 (by decide) ?_
        exact hkb _ _ _ _ (lv_sub hl [1, 2, 3, 0] rfl) hf
      · have hf := ifn c3 hf
        refine lv_iload_n hx hb dm_isFree_75 rfl (lv_at hl 2 rfl) ?_
        refine lv_if_eq (tgt := 101) hx hb dm_isFree_76 (by decide) (fun c4 => ?_) (fun c4 => ?_)
        · have hf := ifp c4 hf
          refine lv_iconst (v := 0) hx hb dm_isFree_101 (by decide) ?_
          refine lv_istore_n (lv' := [(2, .int 0), (0, .ref (gm 0)), (1, .int x1), (3, .int x3), (4, .int x4), (5, .int x5), (6, .int x6)]) hx hb dm_isFree_102 rfl hl (by decide) rfl (fun ls hl => ?_)
          refine lv_iinc (v := (x6 + 1)) (lv' := [(6, .int (x6 + 1)), (2, .int 0), (0, .ref (gm 0)), (1, .int x1), (3, .int x3), (4, .int x4), (5, .int x5)]) hx hb dm_isFree_103 hl (k := 6) rfl rfl (by decide) rfl (fun ls hl => ?_)
          refine lv_goto (tgt := 54) hx hb dm_isFree_106 (by decide) ?_
          exact ih _ _ _ _ _ _ _ (lv_sub hl [2, 3, 1, 4, 5, 6, 0] rfl) hf
        · have hf := ifn c4 hf
          refine lv_aload_n hx hb dm_isFree_79 rfl (lv_at hl 0 rfl) ?_
          refine qbg_words hx hb hown hts hK hP dm_isFree_80 ?_
          refine lv_iload hx hb dm_isFree_83 (lv_at hl 4 rfl) ?_
          refine lv_iconst (v := 2) hx hb dm_isFree_85 (by decide) ?_
          refine lv_iadd hx hb dm_isFree_86 ?_
          refine lv_iload hx hb dm_isFree_87 (lv_at hl 6 rfl) ?_
          refine lv_iadd hx hb dm_isFree_89 ?_
          obtain ⟨r5, er5, ir5, hf⟩ := rdL_some hf
          refine qbl_words hx hb hK hP ir5 er5 dm_isFree_90 ?_
          refine lv_iload_n hx hb dm_isFree_91 rfl (lv_at hl 1 rfl) ?_
          refine lv_i2l hx hb dm_isFree_92 rfl ?_
          refine W.lcmp hx hb dm_isFree_93 ?_
          refine lv_if_eq (tgt := 101) hx hb dm_isFree_94 (by decide) (fun c6 => ?_) (fun c6 => ?_)
          · have hf := ifp c6 hf
            refine lv_iconst (v := 0) hx hb dm_isFree_101 (by decide) ?_
            refine lv_istore_n (lv' := [(2, .int 0), (0, .ref (gm 0)), (1, .int x1), (3, .int x3), (4, .int x4), (5, .int x5), (6, .int x6)]) hx hb dm_isFree_102 rfl hl (by decide) rfl (fun ls hl => ?_)
            refine lv_iinc (v := (x6 + 1)) (lv' := [(6, .int (x6 + 1)), (2, .int 0), (0, .ref (gm 0)), (1, .int x1), (3, .int x3), (4, .int x4), (5, .int x5)]) hx hb dm_isFree_103 hl (k := 6) rfl rfl (by decide) rfl (fun ls hl => ?_)
            refine lv_goto (tgt := 54) hx hb dm_isFree_106 (by decide) ?_
            exact ih _ _ _ _ _ _ _ (lv_sub hl [2, 3, 1, 4, 5, 6, 0] rfl) hf
          · have hf := ifn c6 hf
            refine lv_iconst (v := 1) hx hb dm_isFree_97 (by decide) ?_
            refine lv_goto (tgt := 102) hx hb dm_isFree_98 (by decide) ?_
            refine lv_istore_n (lv' := [(2, .int 1), (0, .ref (gm 0)), (1, .int x1), (3, .int x3), (4, .int x4), (5, .int x5), (6, .int x6)]) hx hb dm_isFree_102 rfl hl (by decide) rfl (fun ls hl => ?_)
            refine lv_iinc (v := (x6 + 1)) (lv' := [(6, .int (x6 + 1)), (2, .int 1), (0, .ref (gm 0)), (1, .int x1), (3, .int x3), (4, .int x4), (5, .int x5)]) hx hb dm_isFree_103 hl (k := 6) rfl rfl (by decide) rfl (fun ls hl => ?_)
            refine lv_goto (tgt := 54) hx hb dm_isFree_106 (by decide) ?_
            exact ih _ _ _ _ _ _ _ (lv_sub hl [2, 3, 1, 4, 5, 6, 0] rfl) hf
set_option maxRecDepth 100000 in
set_option maxHeartbeats 4000000 in
theorem wm_isFree_4 {p : Program} {l : Launch} {e : Env} {s : State} {m : MethodId} {args : Array Value} {below : List Frame} {meth : Method} {c : Code} {D : va_G} {gm : Nat → Nat} {ca : Nat → ClassId} {A : Nat → Prop} {st : MSt} (hX : MX p l e rmm_isFree s m args meth c D ca A km_isFree 7 (some .boolean)) (hP : va_P D vwCl (wM gm ca st) s.heap) (n : Nat) :∀ (k : Nat), ∀ (x1 : Int32) (x2 : Int32) (x3 : Int32) {r : Int32} (ls : Array Slot), lv_has ls 7 [(0, .ref (gm 0)), (1, .int x1), (2, .int x2), (3, .int x3)] → fm_isFree_4 n k st x1 x2 x3 = some r → W p l e rmm_isFree s m args below meth c s.heap [] 0 0 (MQX below (xx_Q (XI r)) args s 0 0 (fun _ => False)) (F0 m 4 ls []) := by
  obtain ⟨hx, hb, hml, hr, hlk, hown, hts, hK, htr, hZ, hnh, hA, hfl⟩ := id hX
  intro k
  induction k with
  | zero =>
    intro x1 x2 x3 r ls hl hf
    rw [fm_isFree_4] at hf
    cases hf
  | succ k ih =>
    intro x1 x2 x3 r ls hl hf
    rw [fm_isFree_4] at hf
    refine lv_iload_n hx hb dm_isFree_4 rfl (lv_at hl 3 rfl) ?_
    refine lv_bipush (v := 8) hx hb dm_isFree_5 (by decide) ?_
    refine lv_icmp_ge (tgt := 115) hx hb dm_isFree_7 (by decide) (fun c1 => ?_) (fun c1 => ?_)
    · have hf := ifp c1 hf
      refine lv_iload_n hx hb dm_isFree_115 rfl (lv_at hl 2 rfl) ?_
      obtain ⟨_, hzb, hf⟩ := obs hf
      cases hf
      exact er_z hx hb hr hlk (zb_ok hzb) dm_isFree_116
    · have hf := ifn c1 hf
      refine lv_sipush (v := 1024) hx hb dm_isFree_10 (by decide) ?_
      refine lv_bipush (v := 20) hx hb dm_isFree_13 (by decide) ?_
      refine lv_iload_n hx hb dm_isFree_15 rfl (lv_at hl 3 rfl) ?_
      refine lv_imul hx hb dm_isFree_16 ?_
      refine lv_iadd hx hb dm_isFree_17 ?_
      refine lv_istore (lv' := [(4, .int (1024 + (20 * x3))), (0, .ref (gm 0)), (1, .int x1), (2, .int x2), (3, .int x3)]) hx hb dm_isFree_18 hl (by decide) rfl (fun ls hl => ?_)
      refine lv_aload_n hx hb dm_isFree_20 rfl (lv_at hl 1 rfl) ?_
      refine qbg_words hx hb hown hts hK hP dm_isFree_21 ?_
      refine lv_iload hx hb dm_isFree_24 (lv_at hl 0 rfl) ?_
      obtain ⟨r2, er2, ir2, hf⟩ := rdL_some hf
      refine qbl_words hx hb hK hP ir2 er2 dm_isFree_26 ?_
      refine lv_aload_n hx hb dm_isFree_27 rfl (lv_at hl 1 rfl) ?_
      refine qbg_newest hx hb hown hts hK hP dm_isFree_28 ?_
      refine lv_i2l hx hb dm_isFree_31 rfl ?_
      refine W.lcmp hx hb dm_isFree_32 ?_
      refine lv_if_gt (tgt := 48) hx hb dm_isFree_33 (by decide) (fun c3 => ?_) (fun c3 => ?_)
      · have hf := ifp c3 hf
        refine lv_iconst (v := 0) hx hb dm_isFree_48 (by decide) ?_
        refine lv_istore (lv' := [(5, .int 0), (4, .int (1024 + (20 * x3))), (0, .ref (gm 0)), (1, .int x1), (2, .int x2), (3, .int x3)]) hx hb dm_isFree_49 hl (by decide) rfl (fun ls hl => ?_)
        refine lv_iconst (v := 0) hx hb dm_isFree_51 (by decide) ?_
        refine lv_istore (lv' := [(6, .int 0), (5, .int 0), (4, .int (1024 + (20 * x3))), (0, .ref (gm 0)), (1, .int x1), (2, .int x2), (3, .int x3)]) hx hb dm_isFree_52 hl (by decide) rfl (fun ls hl => ?_)
        exact wm_isFree_54 hX hP n _ ih n _ _ _ _ _ _ _ (lv_sub hl [3, 4, 5, 6, 2, 1, 0] rfl) hf
      · have hf := ifn c3 hf
        refine lv_aload_n hx hb dm_isFree_36 rfl (lv_at hl 1 rfl) ?_
        refine lv_iload_n hx hb dm_isFree_37 rfl (lv_at hl 4 rfl) ?_
        obtain ⟨r4, h5, hf⟩ := obs hf
        refine qrmI (cq_isSound (l := l) (hfl := hfl) h5) (cw_m_isSound hts ⟨by decide, by decide⟩) hx hb hml hown hts hK hP va_S.rf hZ hl.1 rfl rfl (lv_room (Nat.le_of_ble_eq_true rfl)) dm_isFree_38 ⟨by decide, by decide⟩ ?_
        refine lv_if_eq (tgt := 48) hx hb dm_isFree_41 (by decide) (fun c6 => ?_) (fun c6 => ?_)
        · have hf := ifp c6 hf
          refine lv_iconst (v := 0) hx hb dm_isFree_48 (by decide) ?_
          refine lv_istore (lv' := [(5, .int 0), (4, .int (1024 + (20 * x3))), (0, .ref (gm 0)), (1, .int x1), (2, .int x2), (3, .int x3)]) hx hb dm_isFree_49 hl (by decide) rfl (fun ls hl => ?_)
          refine lv_iconst (v := 0) hx hb dm_isFree_51 (by decide) ?_
          refine lv_istore (lv' := [(6, .int 0), (5, .int 0), (4, .int (1024 + (20 * x3))), (0, .ref (gm 0)), (1, .int x1), (2, .int x2), (3, .int x3)]) hx hb dm_isFree_52 hl (by decide) rfl (fun ls hl => ?_)
          exact wm_isFree_54 hX hP n _ ih n _ _ _ _ _ _ _ (lv_sub hl [3, 4, 5, 6, 2, 1, 0] rfl) hf
        · have hf := ifn c6 hf
          refine lv_iconst (v := 1) hx hb dm_isFree_44 (by decide) ?_
          refine lv_goto (tgt := 49) hx hb dm_isFree_45 (by decide) ?_
          refine lv_istore (lv' := [(5, .int 1), (4, .int (1024 + (20 * x3))), (0, .ref (gm 0)), (1, .int x1), (2, .int x2), (3, .int x3)]) hx hb dm_isFree_49 hl (by decide) rfl (fun ls hl => ?_)
          refine lv_iconst (v := 0) hx hb dm_isFree_51 (by decide) ?_
          refine lv_istore (lv' := [(6, .int 0), (5, .int 1), (4, .int (1024 + (20 * x3))), (0, .ref (gm 0)), (1, .int x1), (2, .int x2), (3, .int x3)]) hx hb dm_isFree_52 hl (by decide) rfl (fun ls hl => ?_)
          exact wm_isFree_54 hX hP n _ ih n _ _ _ _ _ _ _ (lv_sub hl [3, 4, 5, 6, 2, 1, 0] rfl) hf
set_option maxRecDepth 100000 in
set_option maxHeartbeats 4000000 in
theorem wm_isFree_0 {p : Program} {l : Launch} {e : Env} {s : State} {m : MethodId} {args : Array Value} {below : List Frame} {meth : Method} {c : Code} {D : va_G} {gm : Nat → Nat} {ca : Nat → ClassId} {A : Nat → Prop} {st : MSt} (hX : MX p l e rmm_isFree s m args meth c D ca A km_isFree 7 (some .boolean)) (hP : va_P D vwCl (wM gm ca st) s.heap) (n : Nat) : ∀ (x1 : Int32) {r : Int32} (ls : Array Slot), lv_has ls 7 [(0, .ref (gm 0)), (1, .int x1)] → fm_isFree n st x1 = some r → W p l e rmm_isFree s m args below meth c s.heap [] 0 0 (MQX below (xx_Q (XI r)) args s 0 0 (fun _ => False)) (F0 m 0 ls []) := by
  obtain ⟨hx, hb, hml, hr, hlk, hown, hts, hK, htr, hZ, hnh, hA, hfl⟩ := id hX
  intro x1 r ls hl hf
  rw [fm_isFree] at hf
  refine lv_iconst (v := 1) hx hb dm_isFree_0 (by decide) ?_
  refine lv_istore_n (lv' := [(2, .int 1), (0, .ref (gm 0)), (1, .int x1)]) hx hb dm_isFree_1 rfl hl (by decide) rfl (fun ls hl => ?_)
  refine lv_iconst (v := 0) hx hb dm_isFree_2 (by decide) ?_
  refine lv_istore_n (lv' := [(3, .int 0), (2, .int 1), (0, .ref (gm 0)), (1, .int x1)]) hx hb dm_isFree_3 rfl hl (by decide) rfl (fun ls hl => ?_)
  exact wm_isFree_4 hX hP n n _ _ _ _ (lv_sub hl [2, 3, 1, 0] rfl) hf
set_option maxRecDepth 100000 in
set_option maxHeartbeats 4000000 in
theorem cq_isFree {l : Launch} (hfl : l.flags = flags0) {D : va_G} {gm : Nat → Nat} {ca : Nat → ClassId} {st : MSt} {n : Nat} {x1 : Int32} {r : Int32} (hf : fm_isFree n st x1 = some r) : RMm l ym_isFree rmm_isFree D gm ca [.int x1] st (XI r) :=
  RMm.of hfl (by decide +kernel) rfl mcm_isFree (fun p e s m below meth c hX hP => wm_isFree_0 hX hP n _ _ (lv_entry _ (Nat.le_of_ble_eq_true rfl)) hf)
set_option maxRecDepth 100000 in
set_option maxHeartbeats 4000000 in
theorem wm_leafOf_0 {p : Program} {l : Launch} {e : Env} {s : State} {m : MethodId} {args : Array Value} {below : List Frame} {meth : Method} {c : Code} {D : va_G} {gm : Nat → Nat} {ca : Nat → ClassId} {A : Nat → Prop} {st : MSt} (hX : MX p l e rmm_leafOf s m args meth c D ca A km_leafOf 3 (some .int)) (hP : va_P D vwCl (wM gm ca st) s.heap) (n : Nat) : ∀ (x1 : Int32) (x2 : Int32) {r : Int32} (ls : Array Slot), lv_has ls 3 [(0, .ref (gm 0)), (1, .int x1), (2, .int x2)] → fm_leafOf n st x1 x2 = some r → W p l e rmm_leafOf s m args below meth c s.heap [] 0 0 (MQX below (xx_Q (XI r)) args s 0 0 (fun _ => False)) (F0 m 0 ls []) := by
  obtain ⟨hx, hb, hml, hr, hlk, hown, hts, hK, htr, hZ, hnh, hA, hfl⟩ := id hX
  intro x1 x2 r ls hl hf
  rw [fm_leafOf] at hf
  refine lv_aload_n hx hb dm_leafOf_0 rfl (lv_at hl 0 rfl) ?_
  refine qbg_words hx hb hown hts hK hP dm_leafOf_1 ?_
  refine lv_sipush (v := 1024) hx hb dm_leafOf_4 (by decide) ?_
  refine lv_bipush (v := 20) hx hb dm_leafOf_7 (by decide) ?_
  refine lv_iload_n hx hb dm_leafOf_9 rfl (lv_at hl 1 rfl) ?_
  refine lv_bipush (v := 8) hx hb dm_leafOf_10 (by decide) ?_
  refine lv_irem hx hb dm_leafOf_12 (by decide) ?_
  refine lv_imul hx hb dm_leafOf_13 ?_
  refine lv_iadd hx hb dm_leafOf_14 ?_
  refine lv_iconst (v := 2) hx hb dm_leafOf_15 (by decide) ?_
  refine lv_iadd hx hb dm_leafOf_16 ?_
  refine lv_iload_n hx hb dm_leafOf_17 rfl (lv_at hl 2 rfl) ?_
  refine lv_iadd hx hb dm_leafOf_18 ?_
  obtain ⟨r1, er1, ir1, hf⟩ := rdL_some hf
  refine qbl_words hx hb hK hP ir1 er1 dm_leafOf_19 ?_
  refine lv_l2i hx hb dm_leafOf_20 rfl ?_
  cases hf
  exact er_i hx hb hr hlk dm_leafOf_21
set_option maxRecDepth 100000 in
set_option maxHeartbeats 4000000 in
theorem cq_leafOf {l : Launch} (hfl : l.flags = flags0) {D : va_G} {gm : Nat → Nat} {ca : Nat → ClassId} {st : MSt} {n : Nat} {x1 : Int32} {x2 : Int32} {r : Int32} (hf : fm_leafOf n st x1 x2 = some r) : RMm l ym_leafOf rmm_leafOf D gm ca [.int x1, .int x2] st (XI r) :=
  RMm.of hfl (by decide +kernel) rfl mcm_leafOf (fun p e s m below meth c hX hP => wm_leafOf_0 hX hP n _ _ _ (lv_entry _ (Nat.le_of_ble_eq_true rfl)) hf)
set_option maxRecDepth 100000 in
set_option maxHeartbeats 4000000 in
theorem wm_leavesOf_0 {p : Program} {l : Launch} {e : Env} {s : State} {m : MethodId} {args : Array Value} {below : List Frame} {meth : Method} {c : Code} {D : va_G} {gm : Nat → Nat} {ca : Nat → ClassId} {A : Nat → Prop} {st : MSt} (hX : MX p l e rmm_leavesOf s m args meth c D ca A km_leavesOf 2 (some .int)) (hP : va_P D vwCl (wM gm ca st) s.heap) (n : Nat) : ∀ (x1 : Int32) {r : Int32} (ls : Array Slot), lv_has ls 2 [(0, .ref (gm 0)), (1, .int x1)] → fm_leavesOf n st x1 = some r → W p l e rmm_leavesOf s m args below meth c s.heap [] 0 0 (MQX below (xx_Q (XI r)) args s 0 0 (fun _ => False)) (F0 m 0 ls []) := by
  obtain ⟨hx, hb, hml, hr, hlk, hown, hts, hK, htr, hZ, hnh, hA, hfl⟩ := id hX
  intro x1 r ls hl hf
  rw [fm_leavesOf] at hf
  refine lv_aload_n hx hb dm_leavesOf_0 rfl (lv_at hl 0 rfl) ?_
  refine qbg_words hx hb hown hts hK hP dm_leavesOf_1 ?_
  refine lv_sipush (v := 1024) hx hb dm_leavesOf_4 (by decide) ?_
  refine lv_bipush (v := 20) hx hb dm_leavesOf_7 (by decide) ?_
  refine lv_iload_n hx hb dm_leavesOf_9 rfl (lv_at hl 1 rfl) ?_
  refine lv_bipush (v := 8) hx hb dm_leavesOf_10 (by decide) ?_
  refine lv_irem hx hb dm_leavesOf_12 (by decide) ?_
  refine lv_imul hx hb dm_leavesOf_13 ?_
  refine lv_iadd hx hb dm_leavesOf_14 ?_
  refine lv_iconst (v := 1) hx hb dm_leavesOf_15 (by decide) ?_
  refine lv_iadd hx hb dm_leavesOf_16 ?_
  obtain ⟨r1, er1, ir1, hf⟩ := rdL_some hf
  refine qbl_words hx hb hK hP ir1 er1 dm_leavesOf_17 ?_
  refine lv_l2i hx hb dm_leavesOf_18 rfl ?_
  cases hf
  exact er_i hx hb hr hlk dm_leavesOf_19
set_option maxRecDepth 100000 in
set_option maxHeartbeats 4000000 in
theorem cq_leavesOf {l : Launch} (hfl : l.flags = flags0) {D : va_G} {gm : Nat → Nat} {ca : Nat → ClassId} {st : MSt} {n : Nat} {x1 : Int32} {r : Int32} (hf : fm_leavesOf n st x1 = some r) : RMm l ym_leavesOf rmm_leavesOf D gm ca [.int x1] st (XI r) :=
  RMm.of hfl (by decide +kernel) rfl mcm_leavesOf (fun p e s m below meth c hX hP => wm_leavesOf_0 hX hP n _ _ (lv_entry _ (Nat.le_of_ble_eq_true rfl)) hf)
set_option maxRecDepth 100000 in
set_option maxHeartbeats 4000000 in
theorem wm_entriesOf_0 {p : Program} {l : Launch} {e : Env} {s : State} {m : MethodId} {args : Array Value} {below : List Frame} {meth : Method} {c : Code} {D : va_G} {gm : Nat → Nat} {ca : Nat → ClassId} {A : Nat → Prop} {st : MSt} (hX : MX p l e rmm_entriesOf s m args meth c D ca A km_entriesOf 2 (some .int)) (hP : va_P D vwCl (wM gm ca st) s.heap) (n : Nat) : ∀ (x1 : Int32) {r : Int32} (ls : Array Slot), lv_has ls 2 [(0, .ref (gm 0)), (1, .int x1)] → fm_entriesOf n st x1 = some r → W p l e rmm_entriesOf s m args below meth c s.heap [] 0 0 (MQX below (xx_Q (XI r)) args s 0 0 (fun _ => False)) (F0 m 0 ls []) := by
  obtain ⟨hx, hb, hml, hr, hlk, hown, hts, hK, htr, hZ, hnh, hA, hfl⟩ := id hX
  intro x1 r ls hl hf
  rw [fm_entriesOf] at hf
  refine lv_aload_n hx hb dm_entriesOf_0 rfl (lv_at hl 0 rfl) ?_
  refine qbg_words hx hb hown hts hK hP dm_entriesOf_1 ?_
  refine lv_sipush (v := 1024) hx hb dm_entriesOf_4 (by decide) ?_
  refine lv_bipush (v := 20) hx hb dm_entriesOf_7 (by decide) ?_
  refine lv_iload_n hx hb dm_entriesOf_9 rfl (lv_at hl 1 rfl) ?_
  refine lv_bipush (v := 8) hx hb dm_entriesOf_10 (by decide) ?_
  refine lv_irem hx hb dm_entriesOf_12 (by decide) ?_
  refine lv_imul hx hb dm_entriesOf_13 ?_
  refine lv_iadd hx hb dm_entriesOf_14 ?_
  refine lv_bipush (v := 18) hx hb dm_entriesOf_15 (by decide) ?_
  refine lv_iadd hx hb dm_entriesOf_17 ?_
  obtain ⟨r1, er1, ir1, hf⟩ := rdL_some hf
  refine qbl_words hx hb hK hP ir1 er1 dm_entriesOf_18 ?_
  refine lv_l2i hx hb dm_entriesOf_19 rfl ?_
  cases hf
  exact er_i hx hb hr hlk dm_entriesOf_20
set_option maxRecDepth 100000 in
set_option maxHeartbeats 4000000 in
theorem cq_entriesOf {l : Launch} (hfl : l.flags = flags0) {D : va_G} {gm : Nat → Nat} {ca : Nat → ClassId} {st : MSt} {n : Nat} {x1 : Int32} {r : Int32} (hf : fm_entriesOf n st x1 = some r) : RMm l ym_entriesOf rmm_entriesOf D gm ca [.int x1] st (XI r) :=
  RMm.of hfl (by decide +kernel) rfl mcm_entriesOf (fun p e s m below meth c hX hP => wm_entriesOf_0 hX hP n _ _ (lv_entry _ (Nat.le_of_ble_eq_true rfl)) hf)
set_option maxRecDepth 100000 in
set_option maxHeartbeats 4000000 in
theorem wm_entry_5 {p : Program} {l : Launch} {e : Env} {s : State} {m : MethodId} {args : Array Value} {below : List Frame} {meth : Method} {c : Code} {D : va_G} {gm : Nat → Nat} {ca : Nat → ClassId} {A : Nat → Prop} {st : MSt} (hX : MX p l e rmm_entry s m args meth c D ca A km_entry 5 (some .int)) (hP : va_P D vwCl (wM gm ca st) s.heap) (n : Nat) :∀ (k : Nat), ∀ (x1 : Int32) (x3 : Int32) (x4 : Int32) {r : Int32} (ls : Array Slot), lv_has ls 5 [(0, .ref (gm 0)), (1, .int x1), (3, .int x3), (4, .int x4)] → fm_entry_5 n k st x1 x3 x4 = some r → W p l e rmm_entry s m args below meth c s.heap [] 0 0 (MQX below (xx_Q (XI r)) args s 0 0 (fun _ => False)) (F0 m 5 ls []) := by
  obtain ⟨hx, hb, hml, hr, hlk, hown, hts, hK, htr, hZ, hnh, hA, hfl⟩ := id hX
  intro k
  induction k with
  | zero =>
    intro x1 x3 x4 r ls hl hf
    rw [fm_entry_5] at hf
    cases hf
  | succ k ih =>
    intro x1 x3 x4 r ls hl hf
    rw [fm_entry_5] at hf
    refine lv_iload hx hb dm_entry_5 (lv_at hl 3 rfl) ?_
    refine lv_i2l hx hb dm_entry_7 rfl ?_
    refine lv_aload_n hx hb dm_entry_8 rfl (lv_at hl 0 rfl) ?_
    refine qbg_words hx hb hown hts hK hP dm_entry_9 ?_
    refine lv_bipush (v := 16) hx hb dm_entry_12 (by decide) ?_
    refine lv_aload_n hx hb dm_entry_14 rfl (lv_at hl 0 rfl) ?_
    refine lv_iload_n hx hb dm_entry_15 rfl (lv_at hl 1 rfl) ?_
    refine lv_iload_n hx hb dm_entry_16 rfl (lv_at hl 2 rfl) ?_
    obtain ⟨r1, h2, hf⟩ := obs hf
    refine qrmI (cq_leafOf (l := l) (hfl := hfl) h2) (cw_m_leafOf hts ⟨by decide, by decide⟩) hx hb hml hown hts hK hP va_S.rf hZ hl.1 rfl rfl (lv_room (Nat.le_of_ble_eq_true rfl)) dm_entry_17 ⟨by decide, by decide⟩ ?_
    refine lv_imul hx hb dm_entry_20 ?_
    obtain ⟨r3, er3, ir3, hf⟩ := rdL_some hf
    refine qbl_words hx hb hK hP ir3 er3 dm_entry_21 ?_
    refine W.lcmp hx hb dm_entry_22 ?_
    refine lv_if_lt (tgt := 52) hx hb dm_entry_23 (by decide) (fun c4 => ?_) (fun c4 => ?_)
    · have hf := ifp c4 hf
      refine lv_bipush (v := 16) hx hb dm_entry_52 (by decide) ?_
      refine lv_aload_n hx hb dm_entry_54 rfl (lv_at hl 0 rfl) ?_
      refine lv_iload_n hx hb dm_entry_55 rfl (lv_at hl 1 rfl) ?_
      refine lv_iload_n hx hb dm_entry_56 rfl (lv_at hl 2 rfl) ?_
      obtain ⟨r5, h6, hf⟩ := obs hf
      refine qrmI (cq_leafOf (l := l) (hfl := hfl) h6) (cw_m_leafOf hts ⟨by decide, by decide⟩) hx hb hml hown hts hK hP va_S.rf hZ hl.1 rfl rfl (lv_room (Nat.le_of_ble_eq_true rfl)) dm_entry_57 ⟨by decide, by decide⟩ ?_
      refine lv_imul hx hb dm_entry_60 ?_
      refine lv_iconst (v := 1) hx hb dm_entry_61 (by decide) ?_
      refine lv_iadd hx hb dm_entry_62 ?_
      refine lv_iconst (v := 2) hx hb dm_entry_63 (by decide) ?_
      refine lv_iload hx hb dm_entry_64 (lv_at hl 3 rfl) ?_
      refine lv_imul hx hb dm_entry_66 ?_
      refine lv_iadd hx hb dm_entry_67 ?_
      cases hf
      exact er_i hx hb hr hlk dm_entry_68
    · have hf := ifn c4 hf
      refine lv_iload hx hb dm_entry_26 (lv_at hl 3 rfl) ?_
      refine lv_aload_n hx hb dm_entry_28 rfl (lv_at hl 0 rfl) ?_
      refine qbg_words hx hb hown hts hK hP dm_entry_29 ?_
      refine lv_bipush (v := 16) hx hb dm_entry_32 (by decide) ?_
      refine lv_aload_n hx hb dm_entry_34 rfl (lv_at hl 0 rfl) ?_
      refine lv_iload_n hx hb dm_entry_35 rfl (lv_at hl 1 rfl) ?_
      refine lv_iload_n hx hb dm_entry_36 rfl (lv_at hl 2 rfl) ?_
      obtain ⟨r7, h8, hf⟩ := obs hf
      refine qrmI (cq_leafOf (l := l) (hfl := hfl) h8) (cw_m_leafOf hts ⟨by decide, by decide⟩) hx hb hml hown hts hK hP va_S.rf hZ hl.1 rfl rfl (lv_room (Nat.le_of_ble_eq_true rfl)) dm_entry_37 ⟨by decide, by decide⟩ ?_
      refine lv_imul hx hb dm_entry_40 ?_
      obtain ⟨r9, er9, ir9, hf⟩ := rdL_some hf
      refine qbl_words hx hb hK hP ir9 er9 dm_entry_41 ?_
      refine lv_l2i hx hb dm_entry_42 rfl ?_
      refine lv_isub hx hb dm_entry_43 ?_
      refine lv_istore (lv' := [(4, .int (x4 - r9.toInt32)), (0, .ref (gm 0)), (1, .int x1), (3, .int x3)]) hx hb dm_entry_44 hl (by decide) rfl (fun ls hl => ?_)
      refine lv_iinc (v := (x3 + 1)) (lv' := [(3, .int (x3 + 1)), (4, .int (x4 - r9.toInt32)), (0, .ref (gm 0)), (1, .int x1)]) hx hb dm_entry_46 hl (k := 3) rfl rfl (by decide) rfl (fun ls hl => ?_)
      refine lv_goto (tgt := 5) hx hb dm_entry_49 (by decide) ?_
      exact ih _ _ _ _ (lv_sub hl [2, 3, 0, 1] rfl) hf
set_option maxRecDepth 100000 in
set_option maxHeartbeats 4000000 in
theorem wm_entry_0 {p : Program} {l : Launch} {e : Env} {s : State} {m : MethodId} {args : Array Value} {below : List Frame} {meth : Method} {c : Code} {D : va_G} {gm : Nat → Nat} {ca : Nat → ClassId} {A : Nat → Prop} {st : MSt} (hX : MX p l e rmm_entry s m args meth c D ca A km_entry 5 (some .int)) (hP : va_P D vwCl (wM gm ca st) s.heap) (n : Nat) : ∀ (x1 : Int32) (x2 : Int32) {r : Int32} (ls : Array Slot), lv_has ls 5 [(0, .ref (gm 0)), (1, .int x1), (2, .int x2)] → fm_entry n st x1 x2 = some r → W p l e rmm_entry s m args below meth c s.heap [] 0 0 (MQX below (xx_Q (XI r)) args s 0 0 (fun _ => False)) (F0 m 0 ls []) := by
  obtain ⟨hx, hb, hml, hr, hlk, hown, hts, hK, htr, hZ, hnh, hA, hfl⟩ := id hX
  intro x1 x2 r ls hl hf
  rw [fm_entry] at hf
  refine lv_iconst (v := 0) hx hb dm_entry_0 (by decide) ?_
  refine lv_istore_n (lv' := [(3, .int 0), (0, .ref (gm 0)), (1, .int x1), (2, .int x2)]) hx hb dm_entry_1 rfl hl (by decide) rfl (fun ls hl => ?_)
  refine lv_iload_n hx hb dm_entry_2 rfl (lv_at hl 3 rfl) ?_
  refine lv_istore (lv' := [(4, .int x2), (3, .int 0), (0, .ref (gm 0)), (1, .int x1), (2, .int x2)]) hx hb dm_entry_3 hl (by decide) rfl (fun ls hl => ?_)
  exact wm_entry_5 hX hP n n _ _ _ _ (lv_sub hl [2, 3, 1, 0] rfl) hf
set_option maxRecDepth 100000 in
set_option maxHeartbeats 4000000 in
theorem cq_entry {l : Launch} (hfl : l.flags = flags0) {D : va_G} {gm : Nat → Nat} {ca : Nat → ClassId} {st : MSt} {n : Nat} {x1 : Int32} {x2 : Int32} {r : Int32} (hf : fm_entry n st x1 x2 = some r) : RMm l ym_entry rmm_entry D gm ca [.int x1, .int x2] st (XI r) :=
  RMm.of hfl (by decide +kernel) rfl mcm_entry (fun p e s m below meth c hX hP => wm_entry_0 hX hP n _ _ _ (lv_entry _ (Nat.le_of_ble_eq_true rfl)) hf)
set_option maxRecDepth 100000 in
set_option maxHeartbeats 4000000 in
theorem wm_place_5 {p : Program} {l : Launch} {e : Env} {s : State} {m : MethodId} {args : Array Value} {below : List Frame} {meth : Method} {c : Code} {D : va_G} {gm : Nat → Nat} {ca : Nat → ClassId} {A : Nat → Prop} {st : MSt} (hX : MX p l e rmm_place s m args meth c D ca A km_place 6 (some .int)) (hP : va_P D vwCl (wM gm ca st) s.heap) (n : Nat) :∀ (k : Nat), ∀ (x1 : Int32) (x2 : Int32) (x3 : Int32) (x4 : Int32) {r : Int32} (ls : Array Slot), lv_has ls 6 [(0, .ref (gm 0)), (1, .int x1), (2, .int x2), (3, .int x3), (4, .int x4)] → fm_place_5 n k st x1 x2 x3 x4 = some r → W p l e rmm_place s m args below meth c s.heap [] 0 0 (MQX below (xx_Q (XI r)) args s 0 0 (fun _ => False)) (F0 m 5 ls []) := by
  obtain ⟨hx, hb, hml, hr, hlk, hown, hts, hK, htr, hZ, hnh, hA, hfl⟩ := id hX
  intro k
  induction k with
  | zero =>
    intro x1 x2 x3 x4 r ls hl hf
    rw [fm_place_5] at hf
    cases hf
  | succ k ih =>
    intro x1 x2 x3 x4 r ls hl hf
    rw [fm_place_5] at hf
    refine lv_iload hx hb dm_place_5 (lv_at hl 4 rfl) ?_
    refine lv_aload_n hx hb dm_place_7 rfl (lv_at hl 0 rfl) ?_
    refine lv_iload_n hx hb dm_place_8 rfl (lv_at hl 1 rfl) ?_
    obtain ⟨r1, h2, hf⟩ := obs hf
    refine qrmI (cq_entriesOf (l := l) (hfl := hfl) h2) (cw_m_entriesOf hts ⟨by decide, by decide⟩) hx hb hml hown hts hK hP va_S.rf hZ hl.1 rfl rfl (lv_room (Nat.le_of_ble_eq_true rfl)) dm_place_9 ⟨by decide, by decide⟩ ?_
    refine lv_icmp_ge (tgt := 50) hx hb dm_place_12 (by decide) (fun c3 => ?_) (fun c3 => ?_)
    · have hf := ifp c3 hf
      refine lv_iload_n hx hb dm_place_50 rfl (lv_at hl 3 rfl) ?_
      cases hf
      exact er_i hx hb hr hlk dm_place_51
    · have hf := ifn c3 hf
      refine lv_aload_n hx hb dm_place_15 rfl (lv_at hl 0 rfl) ?_
      refine lv_iload_n hx hb dm_place_16 rfl (lv_at hl 1 rfl) ?_
      refine lv_iload hx hb dm_place_17 (lv_at hl 4 rfl) ?_
      obtain ⟨r4, h5, hf⟩ := obs hf
      refine qrmI (cq_entry (l := l) (hfl := hfl) h5) (cw_m_entry hts ⟨by decide, by decide⟩) hx hb hml hown hts hK hP va_S.rf hZ hl.1 rfl rfl (lv_room (Nat.le_of_ble_eq_true rfl)) dm_place_19 ⟨by decide, by decide⟩ ?_
      refine lv_istore (lv' := [(5, .int r4), (0, .ref (gm 0)), (1, .int x1), (2, .int x2), (3, .int x3), (4, .int x4)]) hx hb dm_place_22 hl (by decide) rfl (fun ls hl => ?_)
      refine lv_aload_n hx hb dm_place_24 rfl (lv_at hl 1 rfl) ?_
      refine qbg_words hx hb hown hts hK hP dm_place_25 ?_
      refine lv_iload hx hb dm_place_28 (lv_at hl 0 rfl) ?_
      obtain ⟨r6, er6, ir6, hf⟩ := rdL_some hf
      refine qbl_words hx hb hK hP ir6 er6 dm_place_30 ?_
      refine lv_iload_n hx hb dm_place_31 rfl (lv_at hl 3 rfl) ?_
      refine lv_i2l hx hb dm_place_32 rfl ?_
      refine W.lcmp hx hb dm_place_33 ?_
      refine lv_if_ne (tgt := 42) hx hb dm_place_34 (by decide) (fun c7 => ?_) (fun c7 => ?_)
      · have hf := ifn c7 hf
        refine lv_iload_n hx hb dm_place_42 rfl (lv_at hl 4 rfl) ?_
        refine lv_istore_n (lv' := [(3, .int x3), (5, .int r4), (0, .ref (gm 0)), (1, .int x1), (2, .int x2), (4, .int x4)]) hx hb dm_place_43 rfl hl (by decide) rfl (fun ls hl => ?_)
        refine lv_iinc (v := (x4 + 1)) (lv' := [(4, .int (x4 + 1)), (3, .int x3), (5, .int r4), (0, .ref (gm 0)), (1, .int x1), (2, .int x2)]) hx hb dm_place_44 hl (k := 5) rfl rfl (by decide) rfl (fun ls hl => ?_)
        refine lv_goto (tgt := 5) hx hb dm_place_47 (by decide) ?_
        exact ih _ _ _ _ _ (lv_sub hl [3, 4, 5, 1, 0] rfl) hf
      · have hf := ifp c7 hf
        refine lv_iload hx hb dm_place_37 (lv_at hl 0 rfl) ?_
        refine lv_goto (tgt := 43) hx hb dm_place_39 (by decide) ?_
        refine lv_istore_n (lv' := [(3, .int r4), (5, .int r4), (0, .ref (gm 0)), (1, .int x1), (2, .int x2), (4, .int x4)]) hx hb dm_place_43 rfl hl (by decide) rfl (fun ls hl => ?_)
        refine lv_iinc (v := (x4 + 1)) (lv' := [(4, .int (x4 + 1)), (3, .int r4), (5, .int r4), (0, .ref (gm 0)), (1, .int x1), (2, .int x2)]) hx hb dm_place_44 hl (k := 5) rfl rfl (by decide) rfl (fun ls hl => ?_)
        refine lv_goto (tgt := 5) hx hb dm_place_47 (by decide) ?_
        exact ih _ _ _ _ _ (lv_sub hl [3, 4, 5, 1, 0] rfl) hf
set_option maxRecDepth 100000 in
set_option maxHeartbeats 4000000 in
theorem wm_place_0 {p : Program} {l : Launch} {e : Env} {s : State} {m : MethodId} {args : Array Value} {below : List Frame} {meth : Method} {c : Code} {D : va_G} {gm : Nat → Nat} {ca : Nat → ClassId} {A : Nat → Prop} {st : MSt} (hX : MX p l e rmm_place s m args meth c D ca A km_place 6 (some .int)) (hP : va_P D vwCl (wM gm ca st) s.heap) (n : Nat) : ∀ (x1 : Int32) (x2 : Int32) {r : Int32} (ls : Array Slot), lv_has ls 6 [(0, .ref (gm 0)), (1, .int x1), (2, .int x2)] → fm_place n st x1 x2 = some r → W p l e rmm_place s m args below meth c s.heap [] 0 0 (MQX below (xx_Q (XI r)) args s 0 0 (fun _ => False)) (F0 m 0 ls []) := by
  obtain ⟨hx, hb, hml, hr, hlk, hown, hts, hK, htr, hZ, hnh, hA, hfl⟩ := id hX
  intro x1 x2 r ls hl hf
  rw [fm_place] at hf
  refine lv_iconst (v := (-1)) hx hb dm_place_0 (by decide) ?_
  refine lv_istore_n (lv' := [(3, .int (-1)), (0, .ref (gm 0)), (1, .int x1), (2, .int x2)]) hx hb dm_place_1 rfl hl (by decide) rfl (fun ls hl => ?_)
  refine lv_iconst (v := 0) hx hb dm_place_2 (by decide) ?_
  refine lv_istore (lv' := [(4, .int 0), (3, .int (-1)), (0, .ref (gm 0)), (1, .int x1), (2, .int x2)]) hx hb dm_place_3 hl (by decide) rfl (fun ls hl => ?_)
  exact wm_place_5 hX hP n n _ _ _ _ _ (lv_sub hl [2, 3, 4, 1, 0] rfl) hf
set_option maxRecDepth 100000 in
set_option maxHeartbeats 4000000 in
theorem cq_place {l : Launch} (hfl : l.flags = flags0) {D : va_G} {gm : Nat → Nat} {ca : Nat → ClassId} {st : MSt} {n : Nat} {x1 : Int32} {x2 : Int32} {r : Int32} (hf : fm_place n st x1 x2 = some r) : RMm l ym_place rmm_place D gm ca [.int x1, .int x2] st (XI r) :=
  RMm.of hfl (by decide +kernel) rfl mcm_place (fun p e s m below meth c hX hP => wm_place_0 hX hP n _ _ _ (lv_entry _ (Nat.le_of_ble_eq_true rfl)) hf)
set_option maxRecDepth 100000 in
set_option maxHeartbeats 4000000 in
theorem wm_check_0 {p : Program} {l : Launch} {e : Env} {s : State} {m : MethodId} {args : Array Value} {below : List Frame} {meth : Method} {c : Code} {D : va_G} {gm : Nat → Nat} {ca : Nat → ClassId} {A : Nat → Prop} {st : MSt} (hX : MX p l e rmm_check s m args meth c D ca A km_check 2 (some .int)) (hP : va_P D vwCl (wM gm ca st) s.heap) (n : Nat) : ∀ (x1 : Int32) {r : Int32} (ls : Array Slot), lv_has ls 2 [(0, .ref (gm 0)), (1, .int x1)] → fm_check n st x1 = some r → W p l e rmm_check s m args below meth c s.heap [] 0 0 (MQX below (xx_Q (XI r)) args s 0 0 (fun _ => False)) (F0 m 0 ls []) := by
  obtain ⟨hx, hb, hml, hr, hlk, hown, hts, hK, htr, hZ, hnh, hA, hfl⟩ := id hX
  intro x1 r ls hl hf
  rw [fm_check] at hf
  refine lv_aload_n hx hb dm_check_0 rfl (lv_at hl 0 rfl) ?_
  refine qbg_closed hx hb hown hts hK hP dm_check_1 ?_
  refine lv_if_eq (tgt := 11) hx hb dm_check_4 (by decide) (fun c1 => ?_) (fun c1 => ?_)
  · have hf := ifp c1 hf
    refine lv_iload_n hx hb dm_check_11 rfl (lv_at hl 1 rfl) ?_
    refine lv_if_eq (tgt := 19) hx hb dm_check_12 (by decide) (fun c2 => ?_) (fun c2 => ?_)
    · have hf := ifp c2 hf
      refine lv_iconst (v := 2) hx hb dm_check_19 (by decide) ?_
      cases hf
      exact er_i hx hb hr hlk dm_check_20
    · have hf := ifn c2 hf
      refine lv_iconst (v := 0) hx hb dm_check_15 (by decide) ?_
      refine lv_goto (tgt := 20) hx hb dm_check_16 (by decide) ?_
      cases hf
      exact er_i hx hb hr hlk dm_check_20
  · have hf := ifn c1 hf
    refine lv_iconst (v := 1) hx hb dm_check_7 (by decide) ?_
    refine lv_goto (tgt := 20) hx hb dm_check_8 (by decide) ?_
    cases hf
    exact er_i hx hb hr hlk dm_check_20
set_option maxRecDepth 100000 in
set_option maxHeartbeats 4000000 in
theorem cq_check {l : Launch} (hfl : l.flags = flags0) {D : va_G} {gm : Nat → Nat} {ca : Nat → ClassId} {st : MSt} {n : Nat} {x1 : Int32} {r : Int32} (hf : fm_check n st x1 = some r) : RMm l ym_check rmm_check D gm ca [.int x1] st (XI r) :=
  RMm.of hfl (by decide +kernel) rfl mcm_check (fun p e s m below meth c hX hP => wm_check_0 hX hP n _ _ (lv_entry _ (Nat.le_of_ble_eq_true rfl)) hf)
set_option maxRecDepth 100000 in
set_option maxHeartbeats 4000000 in
theorem wm_version_0 {p : Program} {l : Launch} {e : Env} {s : State} {m : MethodId} {args : Array Value} {below : List Frame} {meth : Method} {c : Code} {D : va_G} {gm : Nat → Nat} {ca : Nat → ClassId} {A : Nat → Prop} {st : MSt} (hX : MX p l e rmm_version s m args meth c D ca A km_version 1 (some .int)) (hB : MWd D gm ca A s.heap st s.heap []) (n : Nat) : ∀ {r : Int32} {st' : MSt} (ls : Array Slot), lv_has ls 1 [(0, .ref (gm 0))] → fm_version n st = some (r, st') → W p l e rmm_version s m args below meth c s.heap [] 0 0 (MQX below (qmm_Q D gm ca A (XI r) st') args s 0 0 A) (F0 m 0 ls []) := by
  obtain ⟨hx, hb, hml, hr, hlk, hown, hts, hK, htr, hZ, hnh, hA, hfl⟩ := id hX
  intro r st' ls hl hf
  rw [fm_version] at hf
  refine lv_aload_n hx hb dm_version_0 rfl (lv_at hl 0 rfl) ?_
  refine lv_aload_n hx hb dm_version_1 rfl (lv_at hl 0 rfl) ?_
  refine qbg_closed hx hb hown hts hK hB.1 dm_version_2 ?_
  refine lv_if_eq (tgt := 12) hx hb dm_version_5 (by decide) (fun c1 => ?_) (fun c1 => ?_)
  · have hf := ifp c1 hf
    refine lv_iconst (v := 0) hx hb dm_version_12 (by decide) ?_
    refine qbp_thrown hx hb hown hts hK hB dm_version_13 (fun H locs hB => ?_)
    refine lv_aload_n hx hb dm_version_16 rfl (lv_at hl 0 rfl) ?_
    refine qbg_thrown hx hb hown hts hK hB.1 dm_version_17 ?_
    refine lv_if_le (tgt := 27) hx hb dm_version_20 (by decide) (fun c2 => ?_) (fun c2 => ?_)
    · skip
      refine lv_aload_n hx hb dm_version_27 rfl (lv_at hl 0 rfl) ?_
      refine qbg_newest hx hb hown hts hK hB.1 dm_version_28 ?_
      cases hf
      exact qem_i hx hb hr hlk hB dm_version_31
    · exact absurd (show (0 : Int32) ≤ 0 by decide) c2
  · have hf := ifn c1 hf
    refine lv_iconst (v := 1) hx hb dm_version_8 (by decide) ?_
    refine lv_goto (tgt := 13) hx hb dm_version_9 (by decide) ?_
    refine qbp_thrown hx hb hown hts hK hB dm_version_13 (fun H locs hB => ?_)
    refine lv_aload_n hx hb dm_version_16 rfl (lv_at hl 0 rfl) ?_
    refine qbg_thrown hx hb hown hts hK hB.1 dm_version_17 ?_
    refine lv_if_le (tgt := 27) hx hb dm_version_20 (by decide) (fun c3 => ?_) (fun c3 => ?_)
    · exact absurd c3 (show ¬ ((1 : Int32) ≤ 0) by decide)
    · skip
      refine lv_iconst (v := 0) hx hb dm_version_23 (by decide) ?_
      refine lv_goto (tgt := 31) hx hb dm_version_24 (by decide) ?_
      cases hf
      exact qem_i hx hb hr hlk hB dm_version_31
set_option maxRecDepth 100000 in
set_option maxHeartbeats 4000000 in
theorem cq_version {l : Launch} (hfl : l.flags = flags0) {D : va_G} {gm : Nat → Nat} {ca : Nat → ClassId} {st : MSt} {n : Nat} {r : Int32} {st' : MSt} (hf : fm_version n st = some (r, st')) : MMm l ym_version rmm_version D gm ca [] st (XI r) st' :=
  MMm.of hfl (by decide +kernel) rfl mcm_version (fun p e s m below meth c A _ hX hB => wm_version_0 hX hB n _ (lv_entry _ (Nat.le_of_ble_eq_true rfl)) hf)
set_option maxRecDepth 100000 in
set_option maxHeartbeats 4000000 in
theorem wm_has_0 {p : Program} {l : Launch} {e : Env} {s : State} {m : MethodId} {args : Array Value} {below : List Frame} {meth : Method} {c : Code} {D : va_G} {gm : Nat → Nat} {ca : Nat → ClassId} {A : Nat → Prop} {st : MSt} (hX : MX p l e rmm_has s m args meth c D ca A km_has 3 (some .boolean)) (hB : MWd D gm ca A s.heap st s.heap []) (n : Nat) : ∀ (x1 : Int32) (x2 : Int32) {r : Int32} {st' : MSt} (ls : Array Slot), lv_has ls 3 [(0, .ref (gm 0)), (1, .int x1), (2, .int x2)] → fm_has n st x1 x2 = some (r, st') → W p l e rmm_has s m args below meth c s.heap [] 0 0 (MQX below (qmm_Q D gm ca A (XI r) st') args s 0 0 A) (F0 m 0 ls []) := by
  obtain ⟨hx, hb, hml, hr, hlk, hown, hts, hK, htr, hZ, hnh, hA, hfl⟩ := id hX
  intro x1 x2 r st' ls hl hf
  rw [fm_has] at hf
  refine lv_aload_n hx hb dm_has_0 rfl (lv_at hl 0 rfl) ?_
  refine lv_aload_n hx hb dm_has_1 rfl (lv_at hl 0 rfl) ?_
  refine lv_aload_n hx hb dm_has_2 rfl (lv_at hl 0 rfl) ?_
  refine lv_iload_n hx hb dm_has_3 rfl (lv_at hl 1 rfl) ?_
  obtain ⟨r1, h2, hf⟩ := obs hf
  refine qrmI (cq_isKept (l := l) (hfl := hfl) h2) (cw_m_isKept hts ⟨by decide, by decide⟩) hx hb hml hown hts hK hB.1 hB.2.2 hZ hl.1 rfl rfl (lv_room (Nat.le_of_ble_eq_true rfl)) dm_has_4 ⟨by decide, by decide⟩ ?_
  obtain ⟨r3, h4, hf⟩ := obs hf
  refine qrmI (cq_check (l := l) (hfl := hfl) h4) (cw_m_check hts ⟨by decide, by decide⟩) hx hb hml hown hts hK hB.1 hB.2.2 hZ hl.1 rfl rfl (lv_room (Nat.le_of_ble_eq_true rfl)) dm_has_7 ⟨by decide, by decide⟩ ?_
  refine qbp_thrown hx hb hown hts hK hB dm_has_10 (fun H locs hB => ?_)
  refine lv_aload_n hx hb dm_has_13 rfl (lv_at hl 0 rfl) ?_
  refine qbg_thrown hx hb hown hts hK hB.1 dm_has_14 ?_
  refine lv_if_ne (tgt := 34) hx hb dm_has_17 (by decide) (fun c5 => ?_) (fun c5 => ?_)
  · have hf := ifn c5 hf
    refine lv_iconst (v := 0) hx hb dm_has_34 (by decide) ?_
    cases hf
    exact qem_z hx hb hr hlk hB rfl dm_has_35
  · have hf := ifp c5 hf
    refine lv_aload_n hx hb dm_has_20 rfl (lv_at hl 0 rfl) ?_
    refine lv_iload_n hx hb dm_has_21 rfl (lv_at hl 1 rfl) ?_
    refine lv_iload_n hx hb dm_has_22 rfl (lv_at hl 2 rfl) ?_
    obtain ⟨r6, h7, hf⟩ := obs hf
    refine qrmI (cq_place (l := l) (hfl := hfl) h7) (cw_m_place hts ⟨by decide, by decide⟩) hx hb hml hown hts hK hB.1 hB.2.2 hZ hl.1 rfl rfl (lv_room (Nat.le_of_ble_eq_true rfl)) dm_has_23 ⟨by decide, by decide⟩ ?_
    refine lv_iconst (v := (-1)) hx hb dm_has_26 (by decide) ?_
    refine lv_icmp_eq (tgt := 34) hx hb dm_has_27 (by decide) (fun c8 => ?_) (fun c8 => ?_)
    · have hf := ifp c8 hf
      refine lv_iconst (v := 0) hx hb dm_has_34 (by decide) ?_
      cases hf
      exact qem_z hx hb hr hlk hB rfl dm_has_35
    · have hf := ifn c8 hf
      refine lv_iconst (v := 1) hx hb dm_has_30 (by decide) ?_
      refine lv_goto (tgt := 35) hx hb dm_has_31 (by decide) ?_
      cases hf
      exact qem_z hx hb hr hlk hB rfl dm_has_35
set_option maxRecDepth 100000 in
set_option maxHeartbeats 4000000 in
theorem cq_has {l : Launch} (hfl : l.flags = flags0) {D : va_G} {gm : Nat → Nat} {ca : Nat → ClassId} {st : MSt} {n : Nat} {x1 : Int32} {x2 : Int32} {r : Int32} {st' : MSt} (hf : fm_has n st x1 x2 = some (r, st')) : MMm l ym_has rmm_has D gm ca [.int x1, .int x2] st (XI r) st' :=
  MMm.of hfl (by decide +kernel) rfl mcm_has (fun p e s m below meth c A _ hX hB => wm_has_0 hX hB n _ _ _ (lv_entry _ (Nat.le_of_ble_eq_true rfl)) hf)
set_option maxRecDepth 100000 in
set_option maxHeartbeats 4000000 in
theorem wm_find_0 {p : Program} {l : Launch} {e : Env} {s : State} {m : MethodId} {args : Array Value} {below : List Frame} {meth : Method} {c : Code} {D : va_G} {gm : Nat → Nat} {ca : Nat → ClassId} {A : Nat → Prop} {st : MSt} (hX : MX p l e rmm_find s m args meth c D ca A km_find 4 (some .long)) (hB : MWd D gm ca A s.heap st s.heap []) (n : Nat) : ∀ (x1 : Int32) (x2 : Int32) {r : Int64} {st' : MSt} (ls : Array Slot), lv_has ls 4 [(0, .ref (gm 0)), (1, .int x1), (2, .int x2)] → fm_find n st x1 x2 = some (r, st') → W p l e rmm_find s m args below meth c s.heap [] 0 0 (MQX below (qmm_Q D gm ca A (XL r) st') args s 0 0 A) (F0 m 0 ls []) := by
  obtain ⟨hx, hb, hml, hr, hlk, hown, hts, hK, htr, hZ, hnh, hA, hfl⟩ := id hX
  intro x1 x2 r st' ls hl hf
  rw [fm_find] at hf
  refine lv_aload_n hx hb dm_find_0 rfl (lv_at hl 0 rfl) ?_
  refine lv_aload_n hx hb dm_find_1 rfl (lv_at hl 0 rfl) ?_
  refine lv_aload_n hx hb dm_find_2 rfl (lv_at hl 0 rfl) ?_
  refine lv_iload_n hx hb dm_find_3 rfl (lv_at hl 1 rfl) ?_
  obtain ⟨r1, h2, hf⟩ := obs hf
  refine qrmI (cq_isKept (l := l) (hfl := hfl) h2) (cw_m_isKept hts ⟨by decide, by decide⟩) hx hb hml hown hts hK hB.1 hB.2.2 hZ hl.1 rfl rfl (lv_room (Nat.le_of_ble_eq_true rfl)) dm_find_4 ⟨by decide, by decide⟩ ?_
  obtain ⟨r3, h4, hf⟩ := obs hf
  refine qrmI (cq_check (l := l) (hfl := hfl) h4) (cw_m_check hts ⟨by decide, by decide⟩) hx hb hml hown hts hK hB.1 hB.2.2 hZ hl.1 rfl rfl (lv_room (Nat.le_of_ble_eq_true rfl)) dm_find_7 ⟨by decide, by decide⟩ ?_
  refine qbp_thrown hx hb hown hts hK hB dm_find_10 (fun H locs hB => ?_)
  refine lv_aload_n hx hb dm_find_13 rfl (lv_at hl 0 rfl) ?_
  refine qbg_thrown hx hb hown hts hK hB.1 dm_find_14 ?_
  refine lv_if_le (tgt := 24) hx hb dm_find_17 (by decide) (fun c5 => ?_) (fun c5 => ?_)
  · have hf := ifp c5 hf
    refine lv_aload_n hx hb dm_find_24 rfl (lv_at hl 0 rfl) ?_
    refine lv_iload_n hx hb dm_find_25 rfl (lv_at hl 1 rfl) ?_
    refine lv_iload_n hx hb dm_find_26 rfl (lv_at hl 2 rfl) ?_
    obtain ⟨r6, h7, hf⟩ := obs hf
    refine qrmI (cq_place (l := l) (hfl := hfl) h7) (cw_m_place hts ⟨by decide, by decide⟩) hx hb hml hown hts hK hB.1 hB.2.2 hZ hl.1 rfl rfl (lv_room (Nat.le_of_ble_eq_true rfl)) dm_find_27 ⟨by decide, by decide⟩ ?_
    refine lv_istore_n (lv' := [(3, .int r6), (0, .ref (gm 0)), (1, .int x1), (2, .int x2)]) hx hb dm_find_30 rfl hl (by decide) rfl (fun ls hl => ?_)
    refine lv_iload_n hx hb dm_find_31 rfl (lv_at hl 0 rfl) ?_
    refine lv_iconst (v := (-1)) hx hb dm_find_32 (by decide) ?_
    refine lv_icmp_ne (tgt := 40) hx hb dm_find_33 (by decide) (fun c8 => ?_) (fun c8 => ?_)
    · have hf := ifn c8 hf
      refine lv_aload_n hx hb dm_find_40 rfl (lv_at hl 1 rfl) ?_
      refine qbg_words hx hb hown hts hK hB.1 dm_find_41 ?_
      refine lv_iload_n hx hb dm_find_44 rfl (lv_at hl 0 rfl) ?_
      refine lv_iconst (v := 1) hx hb dm_find_45 (by decide) ?_
      refine lv_iadd hx hb dm_find_46 ?_
      obtain ⟨r9, er9, ir9, hf⟩ := rdL_some hf
      refine qbl_words hx hb hK hB.1 ir9 er9 dm_find_47 ?_
      cases hf
      exact qem_l hx hb hr hlk hB dm_find_48
    · have hf := ifp c8 hf
      refine lv_lconst (v := 0) hx hb dm_find_36 (by decide) ?_
      refine lv_goto (tgt := 48) hx hb dm_find_37 (by decide) ?_
      cases hf
      exact qem_l hx hb hr hlk hB dm_find_48
  · have hf := ifn c5 hf
    refine lv_iconst (v := (-1)) hx hb dm_find_20 (by decide) ?_
    refine lv_goto (tgt := 30) hx hb dm_find_21 (by decide) ?_
    refine lv_istore_n (lv' := [(3, .int (-1)), (0, .ref (gm 0)), (1, .int x1), (2, .int x2)]) hx hb dm_find_30 rfl hl (by decide) rfl (fun ls hl => ?_)
    refine lv_iload_n hx hb dm_find_31 rfl (lv_at hl 0 rfl) ?_
    refine lv_iconst (v := (-1)) hx hb dm_find_32 (by decide) ?_
    refine lv_icmp_ne (tgt := 40) hx hb dm_find_33 (by decide) (fun c10 => ?_) (fun c10 => ?_)
    · exact absurd (show ((-1) : Int32) = (-1) by decide) c10
    · skip
      refine lv_lconst (v := 0) hx hb dm_find_36 (by decide) ?_
      refine lv_goto (tgt := 48) hx hb dm_find_37 (by decide) ?_
      cases hf
      exact qem_l hx hb hr hlk hB dm_find_48
set_option maxRecDepth 100000 in
set_option maxHeartbeats 4000000 in
theorem cq_find {l : Launch} (hfl : l.flags = flags0) {D : va_G} {gm : Nat → Nat} {ca : Nat → ClassId} {st : MSt} {n : Nat} {x1 : Int32} {x2 : Int32} {r : Int64} {st' : MSt} (hf : fm_find n st x1 x2 = some (r, st')) : MMm l ym_find rmm_find D gm ca [.int x1, .int x2] st (XL r) st' :=
  MMm.of hfl (by decide +kernel) rfl mcm_find (fun p e s m below meth c A _ hX hB => wm_find_0 hX hB n _ _ _ (lv_entry _ (Nat.le_of_ble_eq_true rfl)) hf)
set_option maxRecDepth 100000 in
set_option maxHeartbeats 4000000 in
theorem wm_count_38 {p : Program} {l : Launch} {e : Env} {s : State} {m : MethodId} {args : Array Value} {below : List Frame} {meth : Method} {c : Code} {D : va_G} {gm : Nat → Nat} {ca : Nat → ClassId} {A : Nat → Prop} (hX : MX p l e rmm_count s m args meth c D ca A km_count 3 (some .int)) (n : Nat) : ∀ (st : MSt) (x1 : Int32) (x2 : Int32) (y1 : Int32) {r : Int32} {st' : MSt} (ls : Array Slot) (H : Heap) (locs : List Loc), MWd D gm ca A s.heap st H locs → lv_has ls 3 [(0, .ref (gm 0)), (1, .int x1), (2, .int x2)] → fm_count_38 n st x1 x2 y1 = some (r, st') → W p l e rmm_count s m args below meth c H locs 0 0 (MQX below (qmm_Q D gm ca A (XI r) st') args s 0 0 A) (F0 m 38 ls [.int y1, .ref (gm 0)]) := by
  obtain ⟨hx, hb, hml, hr, hlk, hown, hts, hK, htr, hZ, hnh, hA, hfl⟩ := id hX
  intro st x1 x2 y1 r st' ls H locs hB hl hf
  rw [fm_count_38] at hf
  refine qbp_thrown hx hb hown hts hK hB dm_count_38 (fun H locs hB => ?_)
  refine lv_aload_n hx hb dm_count_41 rfl (lv_at hl 0 rfl) ?_
  refine qbg_thrown hx hb hown hts hK hB.1 dm_count_42 ?_
  refine lv_if_le (tgt := 52) hx hb dm_count_45 (by decide) (fun c1 => ?_) (fun c1 => ?_)
  · have hf := ifp c1 hf
    refine lv_iload_n hx hb dm_count_52 rfl (lv_at hl 2 rfl) ?_
    refine lv_if_ne (tgt := 64) hx hb dm_count_53 (by decide) (fun c2 => ?_) (fun c2 => ?_)
    · have hf := ifn c2 hf
      refine lv_aload_n hx hb dm_count_64 rfl (lv_at hl 0 rfl) ?_
      refine lv_iload_n hx hb dm_count_65 rfl (lv_at hl 1 rfl) ?_
      obtain ⟨r3, h4, hf⟩ := obs hf
      refine qrmI (cq_leavesOf (l := l) (hfl := hfl) h4) (cw_m_leavesOf hts ⟨by decide, by decide⟩) hx hb hml hown hts hK hB.1 hB.2.2 hZ hl.1 rfl rfl (lv_room (Nat.le_of_ble_eq_true rfl)) dm_count_66 ⟨by decide, by decide⟩ ?_
      cases hf
      exact qem_i hx hb hr hlk hB dm_count_69
    · have hf := ifp c2 hf
      refine lv_aload_n hx hb dm_count_56 rfl (lv_at hl 0 rfl) ?_
      refine lv_iload_n hx hb dm_count_57 rfl (lv_at hl 1 rfl) ?_
      obtain ⟨r5, h6, hf⟩ := obs hf
      refine qrmI (cq_entriesOf (l := l) (hfl := hfl) h6) (cw_m_entriesOf hts ⟨by decide, by decide⟩) hx hb hml hown hts hK hB.1 hB.2.2 hZ hl.1 rfl rfl (lv_room (Nat.le_of_ble_eq_true rfl)) dm_count_58 ⟨by decide, by decide⟩ ?_
      refine lv_goto (tgt := 69) hx hb dm_count_61 (by decide) ?_
      cases hf
      exact qem_i hx hb hr hlk hB dm_count_69
  · have hf := ifn c1 hf
    refine lv_iconst (v := 0) hx hb dm_count_48 (by decide) ?_
    refine lv_goto (tgt := 69) hx hb dm_count_49 (by decide) ?_
    cases hf
    exact qem_i hx hb hr hlk hB dm_count_69
set_option maxRecDepth 100000 in
set_option maxHeartbeats 4000000 in
theorem wm_count_0 {p : Program} {l : Launch} {e : Env} {s : State} {m : MethodId} {args : Array Value} {below : List Frame} {meth : Method} {c : Code} {D : va_G} {gm : Nat → Nat} {ca : Nat → ClassId} {A : Nat → Prop} {st : MSt} (hX : MX p l e rmm_count s m args meth c D ca A km_count 3 (some .int)) (hB : MWd D gm ca A s.heap st s.heap []) (n : Nat) : ∀ (x1 : Int32) (x2 : Int32) {r : Int32} {st' : MSt} (ls : Array Slot), lv_has ls 3 [(0, .ref (gm 0)), (1, .int x1), (2, .int x2)] → fm_count n st x1 x2 = some (r, st') → W p l e rmm_count s m args below meth c s.heap [] 0 0 (MQX below (qmm_Q D gm ca A (XI r) st') args s 0 0 A) (F0 m 0 ls []) := by
  obtain ⟨hx, hb, hml, hr, hlk, hown, hts, hK, htr, hZ, hnh, hA, hfl⟩ := id hX
  intro x1 x2 r st' ls hl hf
  rw [fm_count] at hf
  refine lv_aload_n hx hb dm_count_0 rfl (lv_at hl 0 rfl) ?_
  refine lv_aload_n hx hb dm_count_1 rfl (lv_at hl 0 rfl) ?_
  refine lv_aload_n hx hb dm_count_2 rfl (lv_at hl 0 rfl) ?_
  refine lv_iload_n hx hb dm_count_3 rfl (lv_at hl 1 rfl) ?_
  obtain ⟨r1, h2, hf⟩ := obs hf
  refine qrmI (cq_isKept (l := l) (hfl := hfl) h2) (cw_m_isKept hts ⟨by decide, by decide⟩) hx hb hml hown hts hK hB.1 hB.2.2 hZ hl.1 rfl rfl (lv_room (Nat.le_of_ble_eq_true rfl)) dm_count_4 ⟨by decide, by decide⟩ ?_
  obtain ⟨r3, h4, hf⟩ := obs hf
  refine qrmI (cq_check (l := l) (hfl := hfl) h4) (cw_m_check hts ⟨by decide, by decide⟩) hx hb hml hown hts hK hB.1 hB.2.2 hZ hl.1 rfl rfl (lv_room (Nat.le_of_ble_eq_true rfl)) dm_count_7 ⟨by decide, by decide⟩ ?_
  refine qbp_thrown hx hb hown hts hK hB dm_count_10 (fun H locs hB => ?_)
  refine lv_aload_n hx hb dm_count_13 rfl (lv_at hl 0 rfl) ?_
  refine lv_aload_n hx hb dm_count_14 rfl (lv_at hl 0 rfl) ?_
  refine qbg_thrown hx hb hown hts hK hB.1 dm_count_15 ?_
  refine lv_if_ne (tgt := 34) hx hb dm_count_18 (by decide) (fun c5 => ?_) (fun c5 => ?_)
  · have hf := ifn c5 hf
    refine lv_aload_n hx hb dm_count_34 rfl (lv_at hl 0 rfl) ?_
    refine qbg_thrown hx hb hown hts hK hB.1 dm_count_35 ?_
    exact wm_count_38 hX n _ _ _ _ _ _ _ hB (lv_sub hl [0, 1, 2] rfl) hf
  · have hf := ifp c5 hf
    refine lv_iload_n hx hb dm_count_21 rfl (lv_at hl 2 rfl) ?_
    refine lv_if_eq (tgt := 34) hx hb dm_count_22 (by decide) (fun c6 => ?_) (fun c6 => ?_)
    · have hf := ifp c6 hf
      refine lv_aload_n hx hb dm_count_34 rfl (lv_at hl 0 rfl) ?_
      refine qbg_thrown hx hb hown hts hK hB.1 dm_count_35 ?_
      exact wm_count_38 hX n _ _ _ _ _ _ _ hB (lv_sub hl [0, 1, 2] rfl) hf
    · have hf := ifn c6 hf
      refine lv_iload_n hx hb dm_count_25 rfl (lv_at hl 2 rfl) ?_
      refine lv_iconst (v := 1) hx hb dm_count_26 (by decide) ?_
      refine lv_icmp_eq (tgt := 34) hx hb dm_count_27 (by decide) (fun c7 => ?_) (fun c7 => ?_)
      · have hf := ifp c7 hf
        refine lv_aload_n hx hb dm_count_34 rfl (lv_at hl 0 rfl) ?_
        refine qbg_thrown hx hb hown hts hK hB.1 dm_count_35 ?_
        exact wm_count_38 hX n _ _ _ _ _ _ _ hB (lv_sub hl [0, 1, 2] rfl) hf
      · have hf := ifn c7 hf
        refine lv_iconst (v := 3) hx hb dm_count_30 (by decide) ?_
        refine lv_goto (tgt := 38) hx hb dm_count_31 (by decide) ?_
        exact wm_count_38 hX n _ _ _ _ _ _ _ hB (lv_sub hl [0, 1, 2] rfl) hf
set_option maxRecDepth 100000 in
set_option maxHeartbeats 4000000 in
theorem cq_count {l : Launch} (hfl : l.flags = flags0) {D : va_G} {gm : Nat → Nat} {ca : Nat → ClassId} {st : MSt} {n : Nat} {x1 : Int32} {x2 : Int32} {r : Int32} {st' : MSt} (hf : fm_count n st x1 x2 = some (r, st')) : MMm l ym_count rmm_count D gm ca [.int x1, .int x2] st (XI r) st' :=
  MMm.of hfl (by decide +kernel) rfl mcm_count (fun p e s m below meth c A _ hX hB => wm_count_0 hX hB n _ _ _ (lv_entry _ (Nat.le_of_ble_eq_true rfl)) hf)
