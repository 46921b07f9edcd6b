set_option maxRecDepth 100000 in
set_option maxHeartbeats 4000000 in
theorem wb_restoreFrom_16 {p : Program} {l : Launch} {e : Env} {s : State} {m : MethodId} {args : Array Value} {below : List Frame} {meth : Method} {c : Code} {D : va_G} {gm : Nat → Nat} {ca : Nat → ClassId} {A : Nat → Prop} (hX : BX p l e rmb_restoreFrom s m args meth c D ca A kb_restoreFrom 5 (none)) (n : Nat) :∀ (k : Nat), ∀ (st : BSt) (x2 : Int32) (x3 : Int32) (x4 : Int32) {st' : BSt} (ls : Array Slot) (H : Heap) (locs : List Loc), BWd D gm ca A s.heap st H locs → lv_has ls 5 [(0, .ref (gm 0)), (2, .int x2), (3, .int x3), (4, .int x4)] → fb_restoreFrom_16 n k st x2 x3 x4 = some st' → W p l e rmb_restoreFrom s m args below meth c H locs 0 0 (MQX below (mm_Q D gm ca A (XV) st') args s 0 0 A) (F0 m 16 ls []) := by
  obtain ⟨hx, hb, hml, hr, hlk, hown, hts, hK, htr, hZ, hnh, hA, hfl⟩ := id hX
  intro k
  induction k with
  | zero =>
    intro st x2 x3 x4 st' ls H locs hB hl hf
    rw [fb_restoreFrom_16] at hf
    cases hf
  | succ k ih =>
    intro st x2 x3 x4 st' ls H locs hB hl hf
    rw [fb_restoreFrom_16] at hf
    refine lv_iload hx hb db_restoreFrom_16 (lv_at hl 3 rfl) ?_
    refine lv_iload_n hx hb db_restoreFrom_18 rfl (lv_at hl 2 rfl) ?_
    refine lv_icmp_ge (tgt := 92) hx hb db_restoreFrom_19 (by decide) (fun c1 => ?_) (fun c1 => ?_)
    · have hf := ifp c1 hf
      cases hf
      exact em_v hx hb hr hlk hB db_restoreFrom_92
    · have hf := ifn c1 hf
      refine lv_iload hx hb db_restoreFrom_22 (lv_at hl 3 rfl) ?_
      refine lv_iload_n hx hb db_restoreFrom_24 rfl (lv_at hl 1 rfl) ?_
      refine lv_icmp_ge (tgt := 62) hx hb db_restoreFrom_25 (by decide) (fun c2 => ?_) (fun c2 => ?_)
      · have hf := ifp c2 hf
        refine lv_aload_n hx hb db_restoreFrom_62 rfl (lv_at hl 0 rfl) ?_
        refine bg_roots hx hb hown hts hK hB.1 db_restoreFrom_63 ?_
        refine lv_aload_n hx hb db_restoreFrom_66 rfl (lv_at hl 0 rfl) ?_
        refine bg_writtenRoot hx hb hown hts hK hB.1 db_restoreFrom_67 ?_
        refine lv_bipush (v := 20) hx hb db_restoreFrom_70 (by decide) ?_
        refine lv_imul hx hb db_restoreFrom_72 ?_
        refine lv_iload hx hb db_restoreFrom_73 (lv_at hl 3 rfl) ?_
        refine lv_iadd hx hb db_restoreFrom_75 ?_
        refine lv_iload_n hx hb db_restoreFrom_76 rfl (lv_at hl 1 rfl) ?_
        refine lv_isub hx hb db_restoreFrom_77 ?_
        refine lv_aload_n hx hb db_restoreFrom_78 rfl (lv_at hl 0 rfl) ?_
        refine bg_wordsBefore hx hb hown hts hK hB.1 db_restoreFrom_79 ?_
        refine lv_iload hx hb db_restoreFrom_82 (lv_at hl 3 rfl) ?_
        obtain ⟨r3, er3, ir3, hf⟩ := rdL_some hf
        refine bl_wordsBefore hx hb hK hB.1 ir3 er3 db_restoreFrom_84 ?_
        obtain ⟨a4, ea4, ia4, hf⟩ := wrL_some hf
        refine bt_roots hx hb hK hB ia4 ea4 db_restoreFrom_85 (fun H locs hB => ?_)
        refine lv_iinc (v := (x4 + 1)) (lv' := [(4, .int (x4 + 1)), (0, .ref (gm 0)), (2, .int x2), (3, .int x3)]) hx hb db_restoreFrom_86 hl (k := 3) rfl rfl (by decide) rfl (fun ls hl => ?_)
        refine lv_goto (tgt := 16) hx hb db_restoreFrom_89 (by decide) ?_
        exact ih _ _ _ _ _ _ _ hB (lv_sub hl [1, 2, 3, 0] rfl) hf
      · have hf := ifn c2 hf
        refine lv_aload_n hx hb db_restoreFrom_28 rfl (lv_at hl 0 rfl) ?_
        refine bg_pages hx hb hown hts hK hB.1 db_restoreFrom_29 ?_
        refine lv_aload_n hx hb db_restoreFrom_32 rfl (lv_at hl 0 rfl) ?_
        refine bg_takenPages hx hb hown hts hK hB.1 db_restoreFrom_33 ?_
        refine lv_iload hx hb db_restoreFrom_36 (lv_at hl 3 rfl) ?_
        refine lv_bipush (v := 16) hx hb db_restoreFrom_38 (by decide) ?_
        refine lv_idiv hx hb db_restoreFrom_40 (by decide) ?_
        obtain ⟨r5, er5, ir5, hf⟩ := rdI_some hf
        refine bl_takenPages hx hb hK hB.1 ir5 er5 db_restoreFrom_41 ?_
        refine lv_bipush (v := 16) hx hb db_restoreFrom_42 (by decide) ?_
        refine lv_imul hx hb db_restoreFrom_44 ?_
        refine lv_iload hx hb db_restoreFrom_45 (lv_at hl 3 rfl) ?_
        refine lv_bipush (v := 16) hx hb db_restoreFrom_47 (by decide) ?_
        refine lv_irem hx hb db_restoreFrom_49 (by decide) ?_
        refine lv_iadd hx hb db_restoreFrom_50 ?_
        refine lv_aload_n hx hb db_restoreFrom_51 rfl (lv_at hl 0 rfl) ?_
        refine bg_wordsBefore hx hb hown hts hK hB.1 db_restoreFrom_52 ?_
        refine lv_iload hx hb db_restoreFrom_55 (lv_at hl 3 rfl) ?_
        obtain ⟨r6, er6, ir6, hf⟩ := rdL_some hf
        refine bl_wordsBefore hx hb hK hB.1 ir6 er6 db_restoreFrom_57 ?_
        obtain ⟨a7, ea7, ia7, hf⟩ := wrL_some hf
        refine bt_pages hx hb hK hB ia7 ea7 db_restoreFrom_58 (fun H locs hB => ?_)
        refine lv_goto (tgt := 86) hx hb db_restoreFrom_59 (by decide) ?_
        refine lv_iinc (v := (x4 + 1)) (lv' := [(4, .int (x4 + 1)), (0, .ref (gm 0)), (2, .int x2), (3, .int x3)]) hx hb db_restoreFrom_86 hl (k := 3) rfl rfl (by decide) rfl (fun ls hl => ?_)
        refine lv_goto (tgt := 16) hx hb db_restoreFrom_89 (by decide) ?_
        exact ih _ _ _ _ _ _ _ hB (lv_sub hl [1, 2, 3, 0] rfl) hf
set_option maxRecDepth 100000 in
set_option maxHeartbeats 4000000 in
theorem wb_restoreFrom_0 {p : Program} {l : Launch} {e : Env} {s : State} {m : MethodId} {args : Array Value} {below : List Frame} {meth : Method} {c : Code} {D : va_G} {gm : Nat → Nat} {ca : Nat → ClassId} {A : Nat → Prop} {st : BSt} (hX : BX p l e rmb_restoreFrom s m args meth c D ca A kb_restoreFrom 5 (none)) (hB : BWd D gm ca A s.heap st s.heap []) (n : Nat) : ∀ (x1 : Int32) {st' : BSt} (ls : Array Slot), lv_has ls 5 [(0, .ref (gm 0)), (1, .int x1)] → fb_restoreFrom n st x1 = some st' → W p l e rmb_restoreFrom s m args below meth c s.heap [] 0 0 (MQX below (mm_Q D gm ca A (XV) st') args s 0 0 A) (F0 m 0 ls []) := by
  obtain ⟨hx, hb, hml, hr, hlk, hown, hts, hK, htr, hZ, hnh, hA, hfl⟩ := id hX
  intro x1 st' ls hl hf
  rw [fb_restoreFrom] at hf
  refine lv_aload_n hx hb db_restoreFrom_0 rfl (lv_at hl 0 rfl) ?_
  refine bg_takenCount hx hb hown hts hK hB.1 db_restoreFrom_1 ?_
  refine lv_bipush (v := 16) hx hb db_restoreFrom_4 (by decide) ?_
  refine lv_imul hx hb db_restoreFrom_6 ?_
  refine lv_istore_n (lv' := [(2, .int ((bs_takenCount st) * 16)), (0, .ref (gm 0)), (1, .int x1)]) hx hb db_restoreFrom_7 rfl hl (by decide) rfl (fun ls hl => ?_)
  refine lv_aload_n hx hb db_restoreFrom_8 rfl (lv_at hl 1 rfl) ?_
  obtain ⟨r1, h2, hf⟩ := obs hf
  refine rmI (cb_writtenWords (l := l) (hfl := hfl) h2) (cw_writtenWords hts ⟨by decide, by decide⟩) hx hb hml hown hts hK hB.1 hB.2.2 hZ hl.1 rfl rfl (lv_room (Nat.le_of_ble_eq_true rfl)) db_restoreFrom_9 ⟨by decide, by decide⟩ ?_
  refine lv_istore_n (lv' := [(3, .int r1), (2, .int ((bs_takenCount st) * 16)), (0, .ref (gm 0)), (1, .int x1)]) hx hb db_restoreFrom_12 rfl hl (by decide) rfl (fun ls hl => ?_)
  refine lv_iload_n hx hb db_restoreFrom_13 rfl (lv_at hl 3 rfl) ?_
  refine lv_istore (lv' := [(4, .int x1), (3, .int r1), (2, .int ((bs_takenCount st) * 16)), (0, .ref (gm 0)), (1, .int x1)]) hx hb db_restoreFrom_14 hl (by decide) rfl (fun ls hl => ?_)
  exact wb_restoreFrom_16 hX n n _ _ _ _ _ _ _ hB (lv_sub hl [3, 2, 1, 0] rfl) hf
set_option maxRecDepth 100000 in
set_option maxHeartbeats 4000000 in
theorem cb_restoreFrom {l : Launch} (hfl : l.flags = flags0) {D : va_G} {gm : Nat → Nat} {ca : Nat → ClassId} {st : BSt} {n : Nat} {x1 : Int32} {st' : BSt} (hf : fb_restoreFrom n st x1 = some st') : MM l yb_restoreFrom rmb_restoreFrom D gm ca [.int x1] st (XV) st' :=
  MM.of hfl (by decide +kernel) rfl mcb_restoreFrom (fun p e s m below meth c A _ hX hB => wb_restoreFrom_0 hX hB n _ _ (lv_entry _ (Nat.le_of_ble_eq_true rfl)) hf)
set_option maxRecDepth 100000 in
set_option maxHeartbeats 4000000 in
theorem wb_crash_0 {p : Program} {l : Launch} {e : Env} {s : State} {m : MethodId} {args : Array Value} {below : List Frame} {meth : Method} {c : Code} {D : va_G} {gm : Nat → Nat} {ca : Nat → ClassId} {A : Nat → Prop} {st : BSt} (hX : BX p l e rmb_crash s m args meth c D ca A kb_crash 2 (some .int)) (hB : BWd D gm ca A s.heap st s.heap []) (n : Nat) : ∀ (x1 : Int32) {r : Int32 ⊕ Nat} {st' : BSt} (ls : Array Slot), lv_has ls 2 [(0, .ref (gm 0)), (1, .int x1)] → fb_crash n st x1 = some (r, st') → W p l e rmb_crash s m args below meth c s.heap [] 0 0 (MQX below (mm_Q D gm ca A (xi r) st') args s 2 12 A) (F0 m 0 ls []) := by
  obtain ⟨hx, hb, hml, hr, hlk, hown, hts, hK, htr, hZ, hnh, hA, hfl⟩ := id hX
  intro x1 r st' ls hl hf
  rw [fb_crash] at hf
  refine lv_aload_n hx hb db_crash_0 rfl (lv_at hl 0 rfl) ?_
  rcases thnS_some hf with ⟨r1, h2, hf⟩ | ⟨k3, h2, hf⟩
  rotate_left 1
  · cases hf
    refine rmT (cb_requireOpen (l := l) (hfl := hfl) h2) (cw_requireOpen hts ⟨by decide, by decide⟩) hx hb hml hown hts hK hB.1 hB.2.2 hZ hl.1 rfl rfl (lv_room (Nat.le_of_ble_eq_true rfl)) db_crash_1 ⟨by decide, by decide⟩ (fun x t h1 h2 h3 h4 h5 => ?_)
    refine WT.widen (k := 2) (n := 12) (by decide) (by decide) ?_
    exact mt_outR hX hB h1 h2 h3 h4 h5
  refine rmV (cb_requireOpen (l := l) (hfl := hfl) h2) (cw_requireOpen hts ⟨by decide, by decide⟩) hx hb hml hown hts hK hB.1 hB.2.2 hZ hl.1 rfl rfl (lv_room (Nat.le_of_ble_eq_true rfl)) db_crash_1 ⟨by decide, by decide⟩ ?_
  refine lv_aload_n hx hb db_crash_4 rfl (lv_at hl 0 rfl) ?_
  refine bg_canBeCut hx hb hown hts hK hB.1 db_crash_5 ?_
  refine lv_if_ne (tgt := 21) hx hb db_crash_8 (by decide) (fun c4 => ?_) (fun c4 => ?_)
  · have hf := ifn c4 hf
    refine lv_iload_n hx hb db_crash_21 rfl (lv_at hl 1 rfl) ?_
    refine lv_if_ge (tgt := 35) hx hb db_crash_22 (by decide) (fun c5 => ?_) (fun c5 => ?_)
    · have hf := ifp c5 hf
      refine lv_aload_n hx hb db_crash_35 rfl (lv_at hl 0 rfl) ?_
      refine lv_iload_n hx hb db_crash_36 rfl (lv_at hl 1 rfl) ?_
      obtain ⟨st6, h7, hf⟩ := obs hf
      refine mmV (cb_restoreFrom (l := l) (hfl := hfl) h7) (cw_restoreFrom hts ⟨by decide, by decide⟩) hx hb hml hown hts hK hB hZ hA hl.1 rfl rfl (lv_room (Nat.le_of_ble_eq_true rfl)) db_crash_37 ⟨by decide, by decide⟩ (fun H locs hB => ?_)
      refine lv_aload_n hx hb db_crash_40 rfl (lv_at hl 0 rfl) ?_
      refine lv_iconst (v := 1) hx hb db_crash_41 (by decide) ?_
      refine bp_closed hx hb hown hts hK hB rfl rfl db_crash_42 (fun H locs hB => ?_)
      refine lv_aload_n hx hb db_crash_45 rfl (lv_at hl 0 rfl) ?_
      obtain ⟨r8, h9, hf⟩ := obs hf
      refine rmI (cb_writtenWords (l := l) (hfl := hfl) h9) (cw_writtenWords hts ⟨by decide, by decide⟩) hx hb hml hown hts hK hB.1 hB.2.2 hZ hl.1 rfl rfl (lv_room (Nat.le_of_ble_eq_true rfl)) db_crash_46 ⟨by decide, by decide⟩ ?_
      cases hf
      refine W.widen (k := 2) (n := 12) (by decide) (by decide) ?_
      exact em_i hx hb hr hlk hB db_crash_49
    · have hf := ifn c5 hf
      cases hf
      exact mt_throw th_1_130 hX hl.1 db_crash_25 db_crash_28 db_crash_29 db_crash_31 db_crash_34 ⟨by decide, by decide⟩ ⟨by decide, by decide⟩ hB
  · have hf := ifp c4 hf
    cases hf
    exact mt_throw th_0_127 hX hl.1 db_crash_11 db_crash_14 db_crash_15 db_crash_17 db_crash_20 ⟨by decide, by decide⟩ ⟨by decide, by decide⟩ hB
set_option maxRecDepth 100000 in
set_option maxHeartbeats 4000000 in
theorem cb_crash {l : Launch} (hfl : l.flags = flags0) {D : va_G} {gm : Nat → Nat} {ca : Nat → ClassId} {st : BSt} {n : Nat} {x1 : Int32} {r : Int32 ⊕ Nat} {st' : BSt} (hf : fb_crash n st x1 = some (r, st')) : MM l yb_crash rmb_crash D gm ca [.int x1] st (xi r) st' :=
  MM.of hfl (by decide +kernel) rfl mcb_crash (fun p e s m below meth c A _ hX hB => wb_crash_0 hX hB n _ _ (lv_entry _ (Nat.le_of_ble_eq_true rfl)) hf)
set_option maxRecDepth 100000 in
set_option maxHeartbeats 4000000 in
theorem wb_greatestWhole_6 {p : Program} {l : Launch} {e : Env} {s : State} {m : MethodId} {args : Array Value} {below : List Frame} {meth : Method} {c : Code} {D : va_G} {gm : Nat → Nat} {ca : Nat → ClassId} {A : Nat → Prop} {st : BSt} (hX : BX p l e rmb_greatestWhole s m args meth c D ca A kb_greatestWhole 7 (some .int)) (hP : va_P D vwCl (wB gm ca st) s.heap) (n : Nat) :∀ (k : Nat), ∀ (x1 : Int64) (x3 : Int32) {r : Int32} (ls : Array Slot), lv_has ls 7 [(0, .ref (gm 0)), (1, .long x1), (3, .int x3)] → fb_greatestWhole_6 n k st x1 x3 = some r → W p l e rmb_greatestWhole s m args below meth c s.heap [] 0 0 (MQX below (xx_Q (XI r)) args s 0 0 (fun _ => False)) (F0 m 6 ls []) := by
  obtain ⟨hx, hb, hml, hr, hlk, hown, hts, hK, htr, hZ, hnh, hA, hfl⟩ := id hX
  intro k
  induction k with
  | zero =>
    intro x1 x3 r ls hl hf
    rw [fb_greatestWhole_6] at hf
    cases hf
  | succ k ih =>
    intro x1 x3 r ls hl hf
    rw [fb_greatestWhole_6] at hf
    refine lv_iload_n hx hb db_greatestWhole_6 rfl (lv_at hl 2 rfl) ?_
    refine lv_bipush (v := 8) hx hb db_greatestWhole_7 (by decide) ?_
    refine lv_icmp_ge (tgt := 78) hx hb db_greatestWhole_9 (by decide) (fun c1 => ?_) (fun c1 => ?_)
    · have hf := ifp c1 hf
      refine lv_lload_n hx hb db_greatestWhole_78 rfl (lv_at hl 1 rfl) ?_
      refine lv_l2i hx hb db_greatestWhole_79 rfl ?_
      cases hf
      exact er_i hx hb hr hlk db_greatestWhole_80
    · have hf := ifn c1 hf
      refine lv_aload_n hx hb db_greatestWhole_12 rfl (lv_at hl 0 rfl) ?_
      refine bg_roots hx hb hown hts hK hP db_greatestWhole_13 ?_
      refine lv_iload_n hx hb db_greatestWhole_16 rfl (lv_at hl 2 rfl) ?_
      refine lv_bipush (v := 20) hx hb db_greatestWhole_17 (by decide) ?_
      refine lv_imul hx hb db_greatestWhole_19 ?_
      obtain ⟨r2, er2, ir2, hf⟩ := rdL_some hf
      refine bl_roots hx hb hK hP ir2 er2 db_greatestWhole_20 ?_
      refine lv_lstore (lv' := [(4, .long r2), (0, .ref (gm 0)), (1, .long x1), (3, .int x3)]) hx hb db_greatestWhole_21 hl (by decide) rfl (fun ls hl => ?_)
      refine lv_lload hx hb db_greatestWhole_23 (lv_at hl 0 rfl) ?_
      refine lv_lload_n hx hb db_greatestWhole_25 rfl (lv_at hl 2 rfl) ?_
      refine W.lcmp hx hb db_greatestWhole_26 ?_
      refine lv_if_le (tgt := 43) hx hb db_greatestWhole_27 (by decide) (fun c3 => ?_) (fun c3 => ?_)
      · have hf := ifp c3 hf
        refine lv_iconst (v := 0) hx hb db_greatestWhole_43 (by decide) ?_
        refine lv_istore (lv' := [(6, .int 0), (4, .long r2), (0, .ref (gm 0)), (1, .long x1), (3, .int x3)]) hx hb db_greatestWhole_44 hl (by decide) rfl (fun ls hl => ?_)
        refine lv_iload hx hb db_greatestWhole_46 (lv_at hl 0 rfl) ?_
        refine lv_if_eq (tgt := 72) hx hb db_greatestWhole_48 (by decide) (fun c4 => ?_) (fun c4 => ?_)
        · skip
          refine lv_iinc (v := (x3 + 1)) (lv' := [(3, .int (x3 + 1)), (6, .int 0), (4, .long r2), (0, .ref (gm 0)), (1, .long x1)]) hx hb db_greatestWhole_72 hl (k := 4) rfl rfl (by decide) rfl (fun ls hl => ?_)
          refine lv_goto (tgt := 6) hx hb db_greatestWhole_75 (by decide) ?_
          exact ih _ _ _ (lv_sub hl [3, 4, 0] rfl) hf
        · exact absurd (show (0 : Int32) = 0 by decide) c4
      · have hf := ifn c3 hf
        refine lv_lload hx hb db_greatestWhole_30 (lv_at hl 0 rfl) ?_
        refine lv_ldc2 (v := 1000000000) hx hb hown (kcb_225 hts) db_greatestWhole_32 ?_
        refine W.lcmp hx hb db_greatestWhole_35 ?_
        refine lv_if_gt (tgt := 43) hx hb db_greatestWhole_36 (by decide) (fun c5 => ?_) (fun c5 => ?_)
        · have hf := ifp c5 hf
          refine lv_iconst (v := 0) hx hb db_greatestWhole_43 (by decide) ?_
          refine lv_istore (lv' := [(6, .int 0), (4, .long r2), (0, .ref (gm 0)), (1, .long x1), (3, .int x3)]) hx hb db_greatestWhole_44 hl (by decide) rfl (fun ls hl => ?_)
          refine lv_iload hx hb db_greatestWhole_46 (lv_at hl 0 rfl) ?_
          refine lv_if_eq (tgt := 72) hx hb db_greatestWhole_48 (by decide) (fun c6 => ?_) (fun c6 => ?_)
          · skip
            refine lv_iinc (v := (x3 + 1)) (lv' := [(3, .int (x3 + 1)), (6, .int 0), (4, .long r2), (0, .ref (gm 0)), (1, .long x1)]) hx hb db_greatestWhole_72 hl (k := 4) rfl rfl (by decide) rfl (fun ls hl => ?_)
            refine lv_goto (tgt := 6) hx hb db_greatestWhole_75 (by decide) ?_
            exact ih _ _ _ (lv_sub hl [3, 4, 0] rfl) hf
          · exact absurd (show (0 : Int32) = 0 by decide) c6
        · have hf := ifn c5 hf
          refine lv_iconst (v := 1) hx hb db_greatestWhole_39 (by decide) ?_
          refine lv_goto (tgt := 44) hx hb db_greatestWhole_40 (by decide) ?_
          refine lv_istore (lv' := [(6, .int 1), (4, .long r2), (0, .ref (gm 0)), (1, .long x1), (3, .int x3)]) hx hb db_greatestWhole_44 hl (by decide) rfl (fun ls hl => ?_)
          refine lv_iload hx hb db_greatestWhole_46 (lv_at hl 0 rfl) ?_
          refine lv_if_eq (tgt := 72) hx hb db_greatestWhole_48 (by decide) (fun c7 => ?_) (fun c7 => ?_)
          · exact absurd c7 (show ¬ ((1 : Int32) = 0) by decide)
          · skip
            refine lv_lload hx hb db_greatestWhole_51 (lv_at hl 1 rfl) ?_
            refine lv_l2i hx hb db_greatestWhole_53 rfl ?_
            obtain ⟨r8, h9, hf⟩ := obs hf
            refine smI (cb_rootOf (l := l) (hfl := hfl) h9) (cw_rootOf hts ⟨by decide, by decide⟩) hx hb hml hown hts hl.1 rfl rfl (lv_room (Nat.le_of_ble_eq_true rfl)) db_greatestWhole_54 ⟨by decide, by decide⟩ ?_
            refine lv_iload_n hx hb db_greatestWhole_57 rfl (lv_at hl 4 rfl) ?_
            refine lv_icmp_ne (tgt := 72) hx hb db_greatestWhole_58 (by decide) (fun c10 => ?_) (fun c10 => ?_)
            · have hf := ifn c10 hf
              refine lv_iinc (v := (x3 + 1)) (lv' := [(3, .int (x3 + 1)), (6, .int 1), (4, .long r2), (0, .ref (gm 0)), (1, .long x1)]) hx hb db_greatestWhole_72 hl (k := 4) rfl rfl (by decide) rfl (fun ls hl => ?_)
              refine lv_goto (tgt := 6) hx hb db_greatestWhole_75 (by decide) ?_
              exact ih _ _ _ (lv_sub hl [3, 4, 0] rfl) hf
            · have hf := ifp c10 hf
              refine lv_aload_n hx hb db_greatestWhole_61 rfl (lv_at hl 2 rfl) ?_
              refine lv_iload_n hx hb db_greatestWhole_62 rfl (lv_at hl 4 rfl) ?_
              obtain ⟨r11, h12, hf⟩ := obs hf
              refine rmI (cb_isRightRoot (l := l) (hfl := hfl) h12) (cw_isRightRoot hts ⟨by decide, by decide⟩) hx hb hml hown hts hK hP va_S.rf hZ hl.1 rfl rfl (lv_room (Nat.le_of_ble_eq_true rfl)) db_greatestWhole_63 ⟨by decide, by decide⟩ ?_
              refine lv_if_eq (tgt := 72) hx hb db_greatestWhole_66 (by decide) (fun c13 => ?_) (fun c13 => ?_)
              · have hf := ifp c13 hf
                refine lv_iinc (v := (x3 + 1)) (lv' := [(3, .int (x3 + 1)), (6, .int 1), (4, .long r2), (0, .ref (gm 0)), (1, .long x1)]) hx hb db_greatestWhole_72 hl (k := 4) rfl rfl (by decide) rfl (fun ls hl => ?_)
                refine lv_goto (tgt := 6) hx hb db_greatestWhole_75 (by decide) ?_
                exact ih _ _ _ (lv_sub hl [3, 4, 0] rfl) hf
              · have hf := ifn c13 hf
                refine lv_lload hx hb db_greatestWhole_69 (lv_at hl 1 rfl) ?_
                refine lv_lstore_n (lv' := [(1, .long r2), (6, .int 1), (4, .long r2), (0, .ref (gm 0)), (3, .int x3)]) hx hb db_greatestWhole_71 rfl hl (by decide) rfl (fun ls hl => ?_)
                refine lv_iinc (v := (x3 + 1)) (lv' := [(3, .int (x3 + 1)), (1, .long r2), (6, .int 1), (4, .long r2), (0, .ref (gm 0))]) hx hb db_greatestWhole_72 hl (k := 4) rfl rfl (by decide) rfl (fun ls hl => ?_)
                refine lv_goto (tgt := 6) hx hb db_greatestWhole_75 (by decide) ?_
                exact ih _ _ _ (lv_sub hl [4, 1, 0] rfl) hf
set_option maxRecDepth 100000 in
set_option maxHeartbeats 4000000 in
theorem wb_greatestWhole_0 {p : Program} {l : Launch} {e : Env} {s : State} {m : MethodId} {args : Array Value} {below : List Frame} {meth : Method} {c : Code} {D : va_G} {gm : Nat → Nat} {ca : Nat → ClassId} {A : Nat → Prop} {st : BSt} (hX : BX p l e rmb_greatestWhole s m args meth c D ca A kb_greatestWhole 7 (some .int)) (hP : va_P D vwCl (wB gm ca st) s.heap) (n : Nat) : ∀ {r : Int32} (ls : Array Slot), lv_has ls 7 [(0, .ref (gm 0))] → fb_greatestWhole n st = some r → W p l e rmb_greatestWhole s m args below meth c s.heap [] 0 0 (MQX below (xx_Q (XI r)) args s 0 0 (fun _ => False)) (F0 m 0 ls []) := by
  obtain ⟨hx, hb, hml, hr, hlk, hown, hts, hK, htr, hZ, hnh, hA, hfl⟩ := id hX
  intro r ls hl hf
  rw [fb_greatestWhole] at hf
  refine lv_ldc2 (v := (-1)) hx hb hown (kcb_190 hts) db_greatestWhole_0 ?_
  refine lv_lstore_n (lv' := [(1, .long (-1)), (0, .ref (gm 0))]) hx hb db_greatestWhole_3 rfl hl (by decide) rfl (fun ls hl => ?_)
  refine lv_iconst (v := 0) hx hb db_greatestWhole_4 (by decide) ?_
  refine lv_istore_n (lv' := [(3, .int 0), (1, .long (-1)), (0, .ref (gm 0))]) hx hb db_greatestWhole_5 rfl hl (by decide) rfl (fun ls hl => ?_)
  exact wb_greatestWhole_6 hX hP n n _ _ _ (lv_sub hl [2, 1, 0] rfl) hf
set_option maxRecDepth 100000 in
set_option maxHeartbeats 4000000 in
theorem cb_greatestWhole {l : Launch} (hfl : l.flags = flags0) {D : va_G} {gm : Nat → Nat} {ca : Nat → ClassId} {st : BSt} {n : Nat} {r : Int32} (hf : fb_greatestWhole n st = some r) : RM l yb_greatestWhole rmb_greatestWhole D gm ca [] st (XI r) :=
  RM.of hfl (by decide +kernel) rfl mcb_greatestWhole (fun p e s m below meth c hX hP => wb_greatestWhole_0 hX hP n _ (lv_entry _ (Nat.le_of_ble_eq_true rfl)) hf)
set_option maxRecDepth 100000 in
set_option maxHeartbeats 4000000 in
theorem wb_reopen_0 {p : Program} {l : Launch} {e : Env} {s : State} {m : MethodId} {args : Array Value} {below : List Frame} {meth : Method} {c : Code} {D : va_G} {gm : Nat → Nat} {ca : Nat → ClassId} {A : Nat → Prop} {st : BSt} (hX : BX p l e rmb_reopen s m args meth c D ca A kb_reopen 2 (some .int)) (hB : BWd D gm ca A s.heap st s.heap []) (n : Nat) : ∀ {r : Int32} {st' : BSt} (ls : Array Slot), lv_has ls 2 [(0, .ref (gm 0))] → fb_reopen n st = some (r, st') → W p l e rmb_reopen s m args below meth c s.heap [] 0 0 (MQX below (mm_Q D gm ca A (XI r) st') args s 0 0 A) (F0 m 0 ls []) := by
  obtain ⟨hx, hb, hml, hr, hlk, hown, hts, hK, htr, hZ, hnh, hA, hfl⟩ := id hX
  intro r st' ls hl hf
  rw [fb_reopen] at hf
  refine lv_aload_n hx hb db_reopen_0 rfl (lv_at hl 0 rfl) ?_
  obtain ⟨r1, h2, hf⟩ := obs hf
  refine rmI (cb_greatestWhole (l := l) (hfl := hfl) h2) (cw_greatestWhole hts ⟨by decide, by decide⟩) hx hb hml hown hts hK hB.1 hB.2.2 hZ hl.1 rfl rfl (lv_room (Nat.le_of_ble_eq_true rfl)) db_reopen_1 ⟨by decide, by decide⟩ ?_
  refine lv_istore_n (lv' := [(1, .int r1), (0, .ref (gm 0))]) hx hb db_reopen_4 rfl hl (by decide) rfl (fun ls hl => ?_)
  refine lv_iload_n hx hb db_reopen_5 rfl (lv_at hl 0 rfl) ?_
  refine lv_iconst (v := (-1)) hx hb db_reopen_6 (by decide) ?_
  refine lv_icmp_ne (tgt := 16) hx hb db_reopen_7 (by decide) (fun c3 => ?_) (fun c3 => ?_)
  · have hf := ifn c3 hf
    refine lv_aload_n hx hb db_reopen_16 rfl (lv_at hl 1 rfl) ?_
    refine lv_iload_n hx hb db_reopen_17 rfl (lv_at hl 0 rfl) ?_
    refine bp_newest hx hb hown hts hK hB db_reopen_18 (fun H locs hB => ?_)
    refine lv_aload_n hx hb db_reopen_21 rfl (lv_at hl 1 rfl) ?_
    refine lv_iconst (v := 0) hx hb db_reopen_22 (by decide) ?_
    refine bp_closed hx hb hown hts hK hB rfl rfl db_reopen_23 (fun H locs hB => ?_)
    refine lv_aload_n hx hb db_reopen_26 rfl (lv_at hl 1 rfl) ?_
    refine lv_iconst (v := 0) hx hb db_reopen_27 (by decide) ?_
    refine bp_canBeCut hx hb hown hts hK hB rfl rfl db_reopen_28 (fun H locs hB => ?_)
    refine lv_aload_n hx hb db_reopen_31 rfl (lv_at hl 1 rfl) ?_
    refine bg_newest hx hb hown hts hK hB.1 db_reopen_32 ?_
    cases hf
    exact em_i hx hb hr hlk hB db_reopen_35
  · have hf := ifp c3 hf
    refine lv_aload_n hx hb db_reopen_10 rfl (lv_at hl 1 rfl) ?_
    obtain ⟨st4, h5, hf⟩ := obs hf
    refine mmV (cb_makeRootZeroAnew (l := l) (hfl := hfl) h5) (cw_makeRootZeroAnew hts ⟨by decide, by decide⟩) hx hb hml hown hts hK hB hZ hA hl.1 rfl rfl (lv_room (Nat.le_of_ble_eq_true rfl)) db_reopen_11 ⟨by decide, by decide⟩ (fun H locs hB => ?_)
    refine lv_iconst (v := 0) hx hb db_reopen_14 (by decide) ?_
    refine lv_istore_n (lv' := [(1, .int 0), (0, .ref (gm 0))]) hx hb db_reopen_15 rfl hl (by decide) rfl (fun ls hl => ?_)
    refine lv_aload_n hx hb db_reopen_16 rfl (lv_at hl 1 rfl) ?_
    refine lv_iload_n hx hb db_reopen_17 rfl (lv_at hl 0 rfl) ?_
    refine bp_newest hx hb hown hts hK hB db_reopen_18 (fun H locs hB => ?_)
    refine lv_aload_n hx hb db_reopen_21 rfl (lv_at hl 1 rfl) ?_
    refine lv_iconst (v := 0) hx hb db_reopen_22 (by decide) ?_
    refine bp_closed hx hb hown hts hK hB rfl rfl db_reopen_23 (fun H locs hB => ?_)
    refine lv_aload_n hx hb db_reopen_26 rfl (lv_at hl 1 rfl) ?_
    refine lv_iconst (v := 0) hx hb db_reopen_27 (by decide) ?_
    refine bp_canBeCut hx hb hown hts hK hB rfl rfl db_reopen_28 (fun H locs hB => ?_)
    refine lv_aload_n hx hb db_reopen_31 rfl (lv_at hl 1 rfl) ?_
    refine bg_newest hx hb hown hts hK hB.1 db_reopen_32 ?_
    cases hf
    exact em_i hx hb hr hlk hB db_reopen_35
set_option maxRecDepth 100000 in
set_option maxHeartbeats 4000000 in
theorem cb_reopen {l : Launch} (hfl : l.flags = flags0) {D : va_G} {gm : Nat → Nat} {ca : Nat → ClassId} {st : BSt} {n : Nat} {r : Int32} {st' : BSt} (hf : fb_reopen n st = some (r, st')) : MM l yb_reopen rmb_reopen D gm ca [] st (XI r) st' :=
  MM.of hfl (by decide +kernel) rfl mcb_reopen (fun p e s m below meth c A _ hX hB => wb_reopen_0 hX hB n _ (lv_entry _ (Nat.le_of_ble_eq_true rfl)) hf)
set_option maxRecDepth 100000 in
set_option maxHeartbeats 4000000 in
theorem wb_requirePageWord_0 {p : Program} {l : Launch} {e : Env} {s : State} {m : MethodId} {args : Array Value} {below : List Frame} {meth : Method} {c : Code} {D : va_G} {gm : Nat → Nat} {ca : Nat → ClassId} {A : Nat → Prop} {st : BSt} (hX : BX p l e rmb_requirePageWord s m args meth c D ca A kb_requirePageWord 3 (none)) (hP : va_P D vwCl (wB gm ca st) s.heap) (n : Nat) : ∀ (x1 : Int32) (x2 : Int32) {r : Unit ⊕ Nat} (ls : Array Slot), lv_has ls 3 [(0, .ref (gm 0)), (1, .int x1), (2, .int x2)] → fb_requirePageWord n st x1 x2 = some r → W p l e rmb_requirePageWord s m args below meth c s.heap [] 0 0 (MQX below (xx_Q (xu r)) args s 1 6 (fun _ => False)) (F0 m 0 ls []) := by
  obtain ⟨hx, hb, hml, hr, hlk, hown, hts, hK, htr, hZ, hnh, hA, hfl⟩ := id hX
  intro x1 x2 r ls hl hf
  rw [fb_requirePageWord] at hf
  refine lv_iload_n hx hb db_requirePageWord_0 rfl (lv_at hl 1 rfl) ?_
  refine lv_if_lt (tgt := 22) hx hb db_requirePageWord_1 (by decide) (fun c1 => ?_) (fun c1 => ?_)
  · have hf := ifp c1 hf
    cases hf
    exact rt_throw th_2_180 hX hl.1 db_requirePageWord_22 db_requirePageWord_25 db_requirePageWord_26 db_requirePageWord_28 db_requirePageWord_31 ⟨by decide, by decide⟩ ⟨by decide, by decide⟩
  · have hf := ifn c1 hf
    refine lv_iload_n hx hb db_requirePageWord_4 rfl (lv_at hl 1 rfl) ?_
    refine lv_aload_n hx hb db_requirePageWord_5 rfl (lv_at hl 0 rfl) ?_
    refine bg_pageCount hx hb hown hts hK hP db_requirePageWord_6 ?_
    refine lv_icmp_ge (tgt := 22) hx hb db_requirePageWord_9 (by decide) (fun c2 => ?_) (fun c2 => ?_)
    · have hf := ifp c2 hf
      cases hf
      exact rt_throw th_2_180 hX hl.1 db_requirePageWord_22 db_requirePageWord_25 db_requirePageWord_26 db_requirePageWord_28 db_requirePageWord_31 ⟨by decide, by decide⟩ ⟨by decide, by decide⟩
    · have hf := ifn c2 hf
      refine lv_iload_n hx hb db_requirePageWord_12 rfl (lv_at hl 2 rfl) ?_
      refine lv_if_lt (tgt := 22) hx hb db_requirePageWord_13 (by decide) (fun c3 => ?_) (fun c3 => ?_)
      · have hf := ifp c3 hf
        cases hf
        exact rt_throw th_2_180 hX hl.1 db_requirePageWord_22 db_requirePageWord_25 db_requirePageWord_26 db_requirePageWord_28 db_requirePageWord_31 ⟨by decide, by decide⟩ ⟨by decide, by decide⟩
      · have hf := ifn c3 hf
        refine lv_iload_n hx hb db_requirePageWord_16 rfl (lv_at hl 2 rfl) ?_
        refine lv_bipush (v := 16) hx hb db_requirePageWord_17 (by decide) ?_
        refine lv_icmp_lt (tgt := 32) hx hb db_requirePageWord_19 (by decide) (fun c4 => ?_) (fun c4 => ?_)
        · have hf := ifp c4 hf
          cases hf
          refine W.widen (k := 1) (n := 6) (by decide) (by decide) ?_
          exact er_v hx hb hr hlk db_requirePageWord_32
        · have hf := ifn c4 hf
          cases hf
          exact rt_throw th_2_180 hX hl.1 db_requirePageWord_22 db_requirePageWord_25 db_requirePageWord_26 db_requirePageWord_28 db_requirePageWord_31 ⟨by decide, by decide⟩ ⟨by decide, by decide⟩
set_option maxRecDepth 100000 in
set_option maxHeartbeats 4000000 in
theorem cb_requirePageWord {l : Launch} (hfl : l.flags = flags0) {D : va_G} {gm : Nat → Nat} {ca : Nat → ClassId} {st : BSt} {n : Nat} {x1 : Int32} {x2 : Int32} {r : Unit ⊕ Nat} (hf : fb_requirePageWord n st x1 x2 = some r) : RM l yb_requirePageWord rmb_requirePageWord D gm ca [.int x1, .int x2] st (xu r) :=
  RM.of hfl (by decide +kernel) rfl mcb_requirePageWord (fun p e s m below meth c hX hP => wb_requirePageWord_0 hX hP n _ _ _ (lv_entry _ (Nat.le_of_ble_eq_true rfl)) hf)
set_option maxRecDepth 100000 in
set_option maxHeartbeats 4000000 in
theorem wb_wordAt_0 {p : Program} {l : Launch} {e : Env} {s : State} {m : MethodId} {args : Array Value} {below : List Frame} {meth : Method} {c : Code} {D : va_G} {gm : Nat → Nat} {ca : Nat → ClassId} {A : Nat → Prop} {st : BSt} (hX : BX p l e rmb_wordAt s m args meth c D ca A kb_wordAt 3 (some .long)) (hP : va_P D vwCl (wB gm ca st) s.heap) (n : Nat) : ∀ (x1 : Int32) (x2 : Int32) {r : Int64 ⊕ Nat} (ls : Array Slot), lv_has ls 3 [(0, .ref (gm 0)), (1, .int x1), (2, .int x2)] → fb_wordAt n st x1 x2 = some r → W p l e rmb_wordAt s m args below meth c s.heap [] 0 0 (MQX below (xx_Q (xl r)) args s 1 6 (fun _ => False)) (F0 m 0 ls []) := by
  obtain ⟨hx, hb, hml, hr, hlk, hown, hts, hK, htr, hZ, hnh, hA, hfl⟩ := id hX
  intro x1 x2 r ls hl hf
  rw [fb_wordAt] at hf
  refine lv_aload_n hx hb db_wordAt_0 rfl (lv_at hl 0 rfl) ?_
  refine lv_iload_n hx hb db_wordAt_1 rfl (lv_at hl 1 rfl) ?_
  refine lv_iload_n hx hb db_wordAt_2 rfl (lv_at hl 2 rfl) ?_
  rcases thn_some hf with ⟨r1, h2, hf⟩ | ⟨k3, h2, hf⟩
  rotate_left 1
  · cases hf
    refine rmT (cb_requirePageWord (l := l) (hfl := hfl) h2) (cw_requirePageWord hts ⟨by decide, by decide⟩) hx hb hml hown hts hK hP va_S.rf hZ hl.1 rfl rfl (lv_room (Nat.le_of_ble_eq_true rfl)) db_wordAt_3 ⟨by decide, by decide⟩ (fun x t h1 h2 h3 h4 h5 => ?_)
    exact rt_out hX h1 h2 h3 h4 h5
  refine rmV (cb_requirePageWord (l := l) (hfl := hfl) h2) (cw_requirePageWord hts ⟨by decide, by decide⟩) hx hb hml hown hts hK hP va_S.rf hZ hl.1 rfl rfl (lv_room (Nat.le_of_ble_eq_true rfl)) db_wordAt_3 ⟨by decide, by decide⟩ ?_
  refine lv_aload_n hx hb db_wordAt_6 rfl (lv_at hl 0 rfl) ?_
  refine bg_pages hx hb hown hts hK hP db_wordAt_7 ?_
  refine lv_iload_n hx hb db_wordAt_10 rfl (lv_at hl 1 rfl) ?_
  refine lv_bipush (v := 16) hx hb db_wordAt_11 (by decide) ?_
  refine lv_imul hx hb db_wordAt_13 ?_
  refine lv_iload_n hx hb db_wordAt_14 rfl (lv_at hl 2 rfl) ?_
  refine lv_iadd hx hb db_wordAt_15 ?_
  obtain ⟨r4, er4, ir4, hf⟩ := rdL_some hf
  refine bl_pages hx hb hK hP ir4 er4 db_wordAt_16 ?_
  cases hf
  exact er_l hx hb hr hlk db_wordAt_17
set_option maxRecDepth 100000 in
set_option maxHeartbeats 4000000 in
theorem cb_wordAt {l : Launch} (hfl : l.flags = flags0) {D : va_G} {gm : Nat → Nat} {ca : Nat → ClassId} {st : BSt} {n : Nat} {x1 : Int32} {x2 : Int32} {r : Int64 ⊕ Nat} (hf : fb_wordAt n st x1 x2 = some r) : RM l yb_wordAt rmb_wordAt D gm ca [.int x1, .int x2] st (xl r) :=
  RM.of hfl (by decide +kernel) rfl mcb_wordAt (fun p e s m below meth c hX hP => wb_wordAt_0 hX hP n _ _ _ (lv_entry _ (Nat.le_of_ble_eq_true rfl)) hf)
set_option maxRecDepth 100000 in
set_option maxHeartbeats 4000000 in
theorem wb_requireRootWord_0 {p : Program} {l : Launch} {e : Env} {s : State} {m : MethodId} {args : Array Value} {below : List Frame} {meth : Method} {c : Code} {D : va_G} {gm : Nat → Nat} {ca : Nat → ClassId} {A : Nat → Prop} {st : BSt} (hX : BX p l e rmb_requireRootWord s m args meth c D ca A kb_requireRootWord 3 (none)) (hP : va_P D vwCl (wB gm ca st) s.heap) (n : Nat) : ∀ (x1 : Int32) (x2 : Int32) {r : Unit ⊕ Nat} (ls : Array Slot), lv_has ls 3 [(0, .ref (gm 0)), (1, .int x1), (2, .int x2)] → fb_requireRootWord n st x1 x2 = some r → W p l e rmb_requireRootWord s m args below meth c s.heap [] 0 0 (MQX below (xx_Q (xu r)) args s 1 6 (fun _ => False)) (F0 m 0 ls []) := by
  obtain ⟨hx, hb, hml, hr, hlk, hown, hts, hK, htr, hZ, hnh, hA, hfl⟩ := id hX
  intro x1 x2 r ls hl hf
  rw [fb_requireRootWord] at hf
  refine lv_iload_n hx hb db_requireRootWord_0 rfl (lv_at hl 1 rfl) ?_
  refine lv_if_lt (tgt := 20) hx hb db_requireRootWord_1 (by decide) (fun c1 => ?_) (fun c1 => ?_)
  · have hf := ifp c1 hf
    cases hf
    exact rt_throw th_2_182 hX hl.1 db_requireRootWord_20 db_requireRootWord_23 db_requireRootWord_24 db_requireRootWord_26 db_requireRootWord_29 ⟨by decide, by decide⟩ ⟨by decide, by decide⟩
  · have hf := ifn c1 hf
    refine lv_iload_n hx hb db_requireRootWord_4 rfl (lv_at hl 1 rfl) ?_
    refine lv_bipush (v := 8) hx hb db_requireRootWord_5 (by decide) ?_
    refine lv_icmp_ge (tgt := 20) hx hb db_requireRootWord_7 (by decide) (fun c2 => ?_) (fun c2 => ?_)
    · have hf := ifp c2 hf
      cases hf
      exact rt_throw th_2_182 hX hl.1 db_requireRootWord_20 db_requireRootWord_23 db_requireRootWord_24 db_requireRootWord_26 db_requireRootWord_29 ⟨by decide, by decide⟩ ⟨by decide, by decide⟩
    · have hf := ifn c2 hf
      refine lv_iload_n hx hb db_requireRootWord_10 rfl (lv_at hl 2 rfl) ?_
      refine lv_if_lt (tgt := 20) hx hb db_requireRootWord_11 (by decide) (fun c3 => ?_) (fun c3 => ?_)
      · have hf := ifp c3 hf
        cases hf
        exact rt_throw th_2_182 hX hl.1 db_requireRootWord_20 db_requireRootWord_23 db_requireRootWord_24 db_requireRootWord_26 db_requireRootWord_29 ⟨by decide, by decide⟩ ⟨by decide, by decide⟩
      · have hf := ifn c3 hf
        refine lv_iload_n hx hb db_requireRootWord_14 rfl (lv_at hl 2 rfl) ?_
        refine lv_bipush (v := 20) hx hb db_requireRootWord_15 (by decide) ?_
        refine lv_icmp_lt (tgt := 30) hx hb db_requireRootWord_17 (by decide) (fun c4 => ?_) (fun c4 => ?_)
        · have hf := ifp c4 hf
          cases hf
          refine W.widen (k := 1) (n := 6) (by decide) (by decide) ?_
          exact er_v hx hb hr hlk db_requireRootWord_30
        · have hf := ifn c4 hf
          cases hf
          exact rt_throw th_2_182 hX hl.1 db_requireRootWord_20 db_requireRootWord_23 db_requireRootWord_24 db_requireRootWord_26 db_requireRootWord_29 ⟨by decide, by decide⟩ ⟨by decide, by decide⟩
set_option maxRecDepth 100000 in
set_option maxHeartbeats 4000000 in
theorem cb_requireRootWord {l : Launch} (hfl : l.flags = flags0) {D : va_G} {gm : Nat → Nat} {ca : Nat → ClassId} {st : BSt} {n : Nat} {x1 : Int32} {x2 : Int32} {r : Unit ⊕ Nat} (hf : fb_requireRootWord n st x1 x2 = some r) : RM l yb_requireRootWord rmb_requireRootWord D gm ca [.int x1, .int x2] st (xu r) :=
  RM.of hfl (by decide +kernel) rfl mcb_requireRootWord (fun p e s m below meth c hX hP => wb_requireRootWord_0 hX hP n _ _ _ (lv_entry _ (Nat.le_of_ble_eq_true rfl)) hf)
set_option maxRecDepth 100000 in
set_option maxHeartbeats 4000000 in
theorem wb_rootAt_0 {p : Program} {l : Launch} {e : Env} {s : State} {m : MethodId} {args : Array Value} {below : List Frame} {meth : Method} {c : Code} {D : va_G} {gm : Nat → Nat} {ca : Nat → ClassId} {A : Nat → Prop} {st : BSt} (hX : BX p l e rmb_rootAt s m args meth c D ca A kb_rootAt 3 (some .long)) (hP : va_P D vwCl (wB gm ca st) s.heap) (n : Nat) : ∀ (x1 : Int32) (x2 : Int32) {r : Int64 ⊕ Nat} (ls : Array Slot), lv_has ls 3 [(0, .ref (gm 0)), (1, .int x1), (2, .int x2)] → fb_rootAt n st x1 x2 = some r → W p l e rmb_rootAt s m args below meth c s.heap [] 0 0 (MQX below (xx_Q (xl r)) args s 1 6 (fun _ => False)) (F0 m 0 ls []) := by
  obtain ⟨hx, hb, hml, hr, hlk, hown, hts, hK, htr, hZ, hnh, hA, hfl⟩ := id hX
  intro x1 x2 r ls hl hf
  rw [fb_rootAt] at hf
  refine lv_aload_n hx hb db_rootAt_0 rfl (lv_at hl 0 rfl) ?_
  refine lv_iload_n hx hb db_rootAt_1 rfl (lv_at hl 1 rfl) ?_
  refine lv_iload_n hx hb db_rootAt_2 rfl (lv_at hl 2 rfl) ?_
  rcases thn_some hf with ⟨r1, h2, hf⟩ | ⟨k3, h2, hf⟩
  rotate_left 1
  · cases hf
    refine rmT (cb_requireRootWord (l := l) (hfl := hfl) h2) (cw_requireRootWord hts ⟨by decide, by decide⟩) hx hb hml hown hts hK hP va_S.rf hZ hl.1 rfl rfl (lv_room (Nat.le_of_ble_eq_true rfl)) db_rootAt_3 ⟨by decide, by decide⟩ (fun x t h1 h2 h3 h4 h5 => ?_)
    exact rt_out hX h1 h2 h3 h4 h5
  refine rmV (cb_requireRootWord (l := l) (hfl := hfl) h2) (cw_requireRootWord hts ⟨by decide, by decide⟩) hx hb hml hown hts hK hP va_S.rf hZ hl.1 rfl rfl (lv_room (Nat.le_of_ble_eq_true rfl)) db_rootAt_3 ⟨by decide, by decide⟩ ?_
  refine lv_aload_n hx hb db_rootAt_6 rfl (lv_at hl 0 rfl) ?_
  refine bg_roots hx hb hown hts hK hP db_rootAt_7 ?_
  refine lv_iload_n hx hb db_rootAt_10 rfl (lv_at hl 1 rfl) ?_
  refine lv_bipush (v := 20) hx hb db_rootAt_11 (by decide) ?_
  refine lv_imul hx hb db_rootAt_13 ?_
  refine lv_iload_n hx hb db_rootAt_14 rfl (lv_at hl 2 rfl) ?_
  refine lv_iadd hx hb db_rootAt_15 ?_
  obtain ⟨r4, er4, ir4, hf⟩ := rdL_some hf
  refine bl_roots hx hb hK hP ir4 er4 db_rootAt_16 ?_
  cases hf
  exact er_l hx hb hr hlk db_rootAt_17
set_option maxRecDepth 100000 in
set_option maxHeartbeats 4000000 in
theorem cb_rootAt {l : Launch} (hfl : l.flags = flags0) {D : va_G} {gm : Nat → Nat} {ca : Nat → ClassId} {st : BSt} {n : Nat} {x1 : Int32} {x2 : Int32} {r : Int64 ⊕ Nat} (hf : fb_rootAt n st x1 x2 = some r) : RM l yb_rootAt rmb_rootAt D gm ca [.int x1, .int x2] st (xl r) :=
  RM.of hfl (by decide +kernel) rfl mcb_rootAt (fun p e s m below meth c hX hP => wb_rootAt_0 hX hP n _ _ _ (lv_entry _ (Nat.le_of_ble_eq_true rfl)) hf)
set_option maxRecDepth 100000 in
set_option maxHeartbeats 4000000 in
theorem wb_requireMask_0 {p : Program} {l : Launch} {e : Env} {s : State} {m : MethodId} {args : Array Value} {below : List Frame} {meth : Method} {c : Code} {D : va_G} {gm : Nat → Nat} {ca : Nat → ClassId} {A : Nat → Prop} {st : BSt} (hX : BX p l e rmb_requireMask s m args meth c D ca A kb_requireMask 3 (none)) (hP : va_P D vwCl (wB gm ca st) s.heap) (n : Nat) : ∀ (x1 : Int64) {r : Unit ⊕ Nat} (ls : Array Slot), lv_has ls 3 [(0, .ref (gm 0)), (1, .long x1)] → fb_requireMask n st x1 = some r → W p l e rmb_requireMask s m args below meth c s.heap [] 0 0 (MQX below (xx_Q (xu r)) args s 1 6 (fun _ => False)) (F0 m 0 ls []) := by
  obtain ⟨hx, hb, hml, hr, hlk, hown, hts, hK, htr, hZ, hnh, hA, hfl⟩ := id hX
  intro x1 r ls hl hf
  rw [fb_requireMask] at hf
  refine lv_lload_n hx hb db_requireMask_0 rfl (lv_at hl 1 rfl) ?_
  refine lv_lconst (v := 0) hx hb db_requireMask_1 (by decide) ?_
  refine W.lcmp hx hb db_requireMask_2 ?_
  refine lv_if_ne (tgt := 16) hx hb db_requireMask_3 (by decide) (fun c1 => ?_) (fun c1 => ?_)
  · have hf := ifn c1 hf
    cases hf
    refine W.widen (k := 1) (n := 6) (by decide) (by decide) ?_
    exact er_v hx hb hr hlk db_requireMask_16
  · have hf := ifp c1 hf
    cases hf
    exact rt_throw th_1_184 hX hl.1 db_requireMask_6 db_requireMask_9 db_requireMask_10 db_requireMask_12 db_requireMask_15 ⟨by decide, by decide⟩ ⟨by decide, by decide⟩
set_option maxRecDepth 100000 in
set_option maxHeartbeats 4000000 in
theorem cb_requireMask {l : Launch} (hfl : l.flags = flags0) {D : va_G} {gm : Nat → Nat} {ca : Nat → ClassId} {st : BSt} {n : Nat} {x1 : Int64} {r : Unit ⊕ Nat} (hf : fb_requireMask n st x1 = some r) : RM l yb_requireMask rmb_requireMask D gm ca [.long x1] st (xu r) :=
  RM.of hfl (by decide +kernel) rfl mcb_requireMask (fun p e s m below meth c hX hP => wb_requireMask_0 hX hP n _ _ (lv_entry _ (Nat.le_of_ble_eq_true rfl)) hf)
set_option maxRecDepth 100000 in
set_option maxHeartbeats 4000000 in
theorem wb_poke_0 {p : Program} {l : Launch} {e : Env} {s : State} {m : MethodId} {args : Array Value} {below : List Frame} {meth : Method} {c : Code} {D : va_G} {gm : Nat → Nat} {ca : Nat → ClassId} {A : Nat → Prop} {st : BSt} (hX : BX p l e rmb_poke s m args meth c D ca A kb_poke 5 (none)) (hB : BWd D gm ca A s.heap st s.heap []) (n : Nat) : ∀ (x1 : Int32) (x2 : Int32) (x3 : Int64) {r : Unit ⊕ Nat} {st' : BSt} (ls : Array Slot), lv_has ls 5 [(0, .ref (gm 0)), (1, .int x1), (2, .int x2), (3, .long x3)] → fb_poke n st x1 x2 x3 = some (r, st') → W p l e rmb_poke s m args below meth c s.heap [] 0 0 (MQX below (mm_Q D gm ca A (xu r) st') args s 2 12 A) (F0 m 0 ls []) := by
  obtain ⟨hx, hb, hml, hr, hlk, hown, hts, hK, htr, hZ, hnh, hA, hfl⟩ := id hX
  intro x1 x2 x3 r st' ls hl hf
  rw [fb_poke] at hf
  refine lv_aload_n hx hb db_poke_0 rfl (lv_at hl 0 rfl) ?_
  refine lv_iload_n hx hb db_poke_1 rfl (lv_at hl 1 rfl) ?_
  refine lv_iload_n hx hb db_poke_2 rfl (lv_at hl 2 rfl) ?_
  rcases thnS_some hf with ⟨r1, h2, hf⟩ | ⟨k3, h2, hf⟩
  rotate_left 1
  · cases hf
    refine rmT (cb_requirePageWord (l := l) (hfl := hfl) h2) (cw_requirePageWord hts ⟨by decide, by decide⟩) hx hb hml hown hts hK hB.1 hB.2.2 hZ hl.1 rfl rfl (lv_room (Nat.le_of_ble_eq_true rfl)) db_poke_3 ⟨by decide, by decide⟩ (fun x t h1 h2 h3 h4 h5 => ?_)
    refine WT.widen (k := 2) (n := 12) (by decide) (by decide) ?_
    exact mt_outR hX hB h1 h2 h3 h4 h5
  refine rmV (cb_requirePageWord (l := l) (hfl := hfl) h2) (cw_requirePageWord hts ⟨by decide, by decide⟩) hx hb hml hown hts hK hB.1 hB.2.2 hZ hl.1 rfl rfl (lv_room (Nat.le_of_ble_eq_true rfl)) db_poke_3 ⟨by decide, by decide⟩ ?_
  refine lv_aload_n hx hb db_poke_6 rfl (lv_at hl 0 rfl) ?_
  refine lv_lload_n hx hb db_poke_7 rfl (lv_at hl 3 rfl) ?_
  rcases thnS_some hf with ⟨r4, h5, hf⟩ | ⟨k6, h5, hf⟩
  rotate_left 1
  · cases hf
    refine rmT (cb_requireMask (l := l) (hfl := hfl) h5) (cw_requireMask hts ⟨by decide, by decide⟩) hx hb hml hown hts hK hB.1 hB.2.2 hZ hl.1 rfl rfl (lv_room (Nat.le_of_ble_eq_true rfl)) db_poke_8 ⟨by decide, by decide⟩ (fun x t h1 h2 h3 h4 h5 => ?_)
    exact mt_outR hX hB h1 h2 h3 h4 h5
  refine rmV (cb_requireMask (l := l) (hfl := hfl) h5) (cw_requireMask hts ⟨by decide, by decide⟩) hx hb hml hown hts hK hB.1 hB.2.2 hZ hl.1 rfl rfl (lv_room (Nat.le_of_ble_eq_true rfl)) db_poke_8 ⟨by decide, by decide⟩ ?_
  refine lv_aload_n hx hb db_poke_11 rfl (lv_at hl 0 rfl) ?_
  refine bg_pages hx hb hown hts hK hB.1 db_poke_12 ?_
  refine lv_iload_n hx hb db_poke_15 rfl (lv_at hl 1 rfl) ?_
  refine lv_bipush (v := 16) hx hb db_poke_16 (by decide) ?_
  refine lv_imul hx hb db_poke_18 ?_
  refine lv_iload_n hx hb db_poke_19 rfl (lv_at hl 2 rfl) ?_
  refine lv_iadd hx hb db_poke_20 ?_
  refine lv_dup2_11 hx hb db_poke_21 rfl rfl ?_
  obtain ⟨r7, er7, ir7, hf⟩ := rdL_some hf
  refine bl_pages hx hb hK hB.1 ir7 er7 db_poke_22 ?_
  refine lv_lload_n hx hb db_poke_23 rfl (lv_at hl 3 rfl) ?_
  refine lv_lxor hx hb db_poke_24 ?_
  obtain ⟨a8, ea8, ia8, hf⟩ := wrL_some hf
  refine bt_pages hx hb hK hB ia8 ea8 db_poke_25 (fun H locs hB => ?_)
  refine lv_aload_n hx hb db_poke_26 rfl (lv_at hl 0 rfl) ?_
  refine lv_iconst (v := 0) hx hb db_poke_27 (by decide) ?_
  refine bp_canBeCut hx hb hown hts hK hB rfl rfl db_poke_28 (fun H locs hB => ?_)
  cases hf
  exact em_v hx hb hr hlk hB db_poke_31
set_option maxRecDepth 100000 in
set_option maxHeartbeats 4000000 in
theorem cb_poke {l : Launch} (hfl : l.flags = flags0) {D : va_G} {gm : Nat → Nat} {ca : Nat → ClassId} {st : BSt} {n : Nat} {x1 : Int32} {x2 : Int32} {x3 : Int64} {r : Unit ⊕ Nat} {st' : BSt} (hf : fb_poke n st x1 x2 x3 = some (r, st')) : MM l yb_poke rmb_poke D gm ca [.int x1, .int x2, .long x3] st (xu r) st' :=
  MM.of hfl (by decide +kernel) rfl mcb_poke (fun p e s m below meth c A _ hX hB => wb_poke_0 hX hB n _ _ _ _ (lv_entry _ (Nat.le_of_ble_eq_true rfl)) hf)
set_option maxRecDepth 100000 in
set_option maxHeartbeats 4000000 in
theorem wb_pokeRoot_0 {p : Program} {l : Launch} {e : Env} {s : State} {m : MethodId} {args : Array Value} {below : List Frame} {meth : Method} {c : Code} {D : va_G} {gm : Nat → Nat} {ca : Nat → ClassId} {A : Nat → Prop} {st : BSt} (hX : BX p l e rmb_pokeRoot s m args meth c D ca A kb_pokeRoot 5 (none)) (hB : BWd D gm ca A s.heap st s.heap []) (n : Nat) : ∀ (x1 : Int32) (x2 : Int32) (x3 : Int64) {r : Unit ⊕ Nat} {st' : BSt} (ls : Array Slot), lv_has ls 5 [(0, .ref (gm 0)), (1, .int x1), (2, .int x2), (3, .long x3)] → fb_pokeRoot n st x1 x2 x3 = some (r, st') → W p l e rmb_pokeRoot s m args below meth c s.heap [] 0 0 (MQX below (mm_Q D gm ca A (xu r) st') args s 2 12 A) (F0 m 0 ls []) := by
  obtain ⟨hx, hb, hml, hr, hlk, hown, hts, hK, htr, hZ, hnh, hA, hfl⟩ := id hX
  intro x1 x2 x3 r st' ls hl hf
  rw [fb_pokeRoot] at hf
  refine lv_aload_n hx hb db_pokeRoot_0 rfl (lv_at hl 0 rfl) ?_
  refine lv_iload_n hx hb db_pokeRoot_1 rfl (lv_at hl 1 rfl) ?_
  refine lv_iload_n hx hb db_pokeRoot_2 rfl (lv_at hl 2 rfl) ?_
  rcases thnS_some hf with ⟨r1, h2, hf⟩ | ⟨k3, h2, hf⟩
  rotate_left 1
  · cases hf
    refine rmT (cb_requireRootWord (l := l) (hfl := hfl) h2) (cw_requireRootWord hts ⟨by decide, by decide⟩) hx hb hml hown hts hK hB.1 hB.2.2 hZ hl.1 rfl rfl (lv_room (Nat.le_of_ble_eq_true rfl)) db_pokeRoot_3 ⟨by decide, by decide⟩ (fun x t h1 h2 h3 h4 h5 => ?_)
    refine WT.widen (k := 2) (n := 12) (by decide) (by decide) ?_
    exact mt_outR hX hB h1 h2 h3 h4 h5
  refine rmV (cb_requireRootWord (l := l) (hfl := hfl) h2) (cw_requireRootWord hts ⟨by decide, by decide⟩) hx hb hml hown hts hK hB.1 hB.2.2 hZ hl.1 rfl rfl (lv_room (Nat.le_of_ble_eq_true rfl)) db_pokeRoot_3 ⟨by decide, by decide⟩ ?_
  refine lv_aload_n hx hb db_pokeRoot_6 rfl (lv_at hl 0 rfl) ?_
  refine lv_lload_n hx hb db_pokeRoot_7 rfl (lv_at hl 3 rfl) ?_
  rcases thnS_some hf with ⟨r4, h5, hf⟩ | ⟨k6, h5, hf⟩
  rotate_left 1
  · cases hf
    refine rmT (cb_requireMask (l := l) (hfl := hfl) h5) (cw_requireMask hts ⟨by decide, by decide⟩) hx hb hml hown hts hK hB.1 hB.2.2 hZ hl.1 rfl rfl (lv_room (Nat.le_of_ble_eq_true rfl)) db_pokeRoot_8 ⟨by decide, by decide⟩ (fun x t h1 h2 h3 h4 h5 => ?_)
    exact mt_outR hX hB h1 h2 h3 h4 h5
  refine rmV (cb_requireMask (l := l) (hfl := hfl) h5) (cw_requireMask hts ⟨by decide, by decide⟩) hx hb hml hown hts hK hB.1 hB.2.2 hZ hl.1 rfl rfl (lv_room (Nat.le_of_ble_eq_true rfl)) db_pokeRoot_8 ⟨by decide, by decide⟩ ?_
  refine lv_aload_n hx hb db_pokeRoot_11 rfl (lv_at hl 0 rfl) ?_
  refine bg_roots hx hb hown hts hK hB.1 db_pokeRoot_12 ?_
  refine lv_iload_n hx hb db_pokeRoot_15 rfl (lv_at hl 1 rfl) ?_
  refine lv_bipush (v := 20) hx hb db_pokeRoot_16 (by decide) ?_
  refine lv_imul hx hb db_pokeRoot_18 ?_
  refine lv_iload_n hx hb db_pokeRoot_19 rfl (lv_at hl 2 rfl) ?_
  refine lv_iadd hx hb db_pokeRoot_20 ?_
  refine lv_dup2_11 hx hb db_pokeRoot_21 rfl rfl ?_
  obtain ⟨r7, er7, ir7, hf⟩ := rdL_some hf
  refine bl_roots hx hb hK hB.1 ir7 er7 db_pokeRoot_22 ?_
  refine lv_lload_n hx hb db_pokeRoot_23 rfl (lv_at hl 3 rfl) ?_
  refine lv_lxor hx hb db_pokeRoot_24 ?_
  obtain ⟨a8, ea8, ia8, hf⟩ := wrL_some hf
  refine bt_roots hx hb hK hB ia8 ea8 db_pokeRoot_25 (fun H locs hB => ?_)
  refine lv_aload_n hx hb db_pokeRoot_26 rfl (lv_at hl 0 rfl) ?_
  refine lv_iconst (v := 0) hx hb db_pokeRoot_27 (by decide) ?_
  refine bp_canBeCut hx hb hown hts hK hB rfl rfl db_pokeRoot_28 (fun H locs hB => ?_)
  cases hf
  exact em_v hx hb hr hlk hB db_pokeRoot_31
set_option maxRecDepth 100000 in
set_option maxHeartbeats 4000000 in
theorem cb_pokeRoot {l : Launch} (hfl : l.flags = flags0) {D : va_G} {gm : Nat → Nat} {ca : Nat → ClassId} {st : BSt} {n : Nat} {x1 : Int32} {x2 : Int32} {x3 : Int64} {r : Unit ⊕ Nat} {st' : BSt} (hf : fb_pokeRoot n st x1 x2 x3 = some (r, st')) : MM l yb_pokeRoot rmb_pokeRoot D gm ca [.int x1, .int x2, .long x3] st (xu r) st' :=
  MM.of hfl (by decide +kernel) rfl mcb_pokeRoot (fun p e s m below meth c A _ hX hB => wb_pokeRoot_0 hX hB n _ _ _ _ (lv_entry _ (Nat.le_of_ble_eq_true rfl)) hf)
set_option maxRecDepth 100000 in
set_option maxHeartbeats 4000000 in
theorem wb_isBlankRoot_7 {p : Program} {l : Launch} {e : Env} {s : State} {m : MethodId} {args : Array Value} {below : List Frame} {meth : Method} {c : Code} {D : va_G} {gm : Nat → Nat} {ca : Nat → ClassId} {A : Nat → Prop} {st : BSt} (hX : BX p l e rmb_isBlankRoot s m args meth c D ca A kb_isBlankRoot 4 (some .boolean)) (hP : va_P D vwCl (wB gm ca st) s.heap) (n : Nat) :∀ (k : Nat), ∀ (x2 : Int32) (x3 : Int32) {r : Int32} (ls : Array Slot), lv_has ls 4 [(0, .ref (gm 0)), (2, .int x2), (3, .int x3)] → fb_isBlankRoot_7 n k st x2 x3 = some r → W p l e rmb_isBlankRoot s m args below meth c s.heap [] 0 0 (MQX below (xx_Q (XI r)) args s 0 0 (fun _ => False)) (F0 m 7 ls []) := by
  obtain ⟨hx, hb, hml, hr, hlk, hown, hts, hK, htr, hZ, hnh, hA, hfl⟩ := id hX
  intro k
  induction k with
  | zero =>
    intro x2 x3 r ls hl hf
    rw [fb_isBlankRoot_7] at hf
    cases hf
  | succ k ih =>
    intro x2 x3 r ls hl hf
    rw [fb_isBlankRoot_7] at hf
    refine lv_iload_n hx hb db_isBlankRoot_7 rfl (lv_at hl 2 rfl) ?_
    refine lv_bipush (v := 19) hx hb db_isBlankRoot_8 (by decide) ?_
    refine lv_icmp_ge (tgt := 34) hx hb db_isBlankRoot_10 (by decide) (fun c1 => ?_) (fun c1 => ?_)
    · have hf := ifp c1 hf
      refine lv_iconst (v := 1) hx hb db_isBlankRoot_34 (by decide) ?_
      cases hf
      exact er_z hx hb hr hlk rfl db_isBlankRoot_35
    · have hf := ifn c1 hf
      refine lv_aload_n hx hb db_isBlankRoot_13 rfl (lv_at hl 0 rfl) ?_
      refine bg_roots hx hb hown hts hK hP db_isBlankRoot_14 ?_
      refine lv_iload_n hx hb db_isBlankRoot_17 rfl (lv_at hl 1 rfl) ?_
      refine lv_iload_n hx hb db_isBlankRoot_18 rfl (lv_at hl 2 rfl) ?_
      refine lv_iadd hx hb db_isBlankRoot_19 ?_
      obtain ⟨r2, er2, ir2, hf⟩ := rdL_some hf
      refine bl_roots hx hb hK hP ir2 er2 db_isBlankRoot_20 ?_
      refine lv_lconst (v := 0) hx hb db_isBlankRoot_21 (by decide) ?_
      refine W.lcmp hx hb db_isBlankRoot_22 ?_
      refine lv_if_eq (tgt := 28) hx hb db_isBlankRoot_23 (by decide) (fun c3 => ?_) (fun c3 => ?_)
      · have hf := ifp c3 hf
        refine lv_iinc (v := (x3 + 1)) (lv' := [(3, .int (x3 + 1)), (0, .ref (gm 0)), (2, .int x2)]) hx hb db_isBlankRoot_28 hl (k := 2) rfl rfl (by decide) rfl (fun ls hl => ?_)
        refine lv_goto (tgt := 7) hx hb db_isBlankRoot_31 (by decide) ?_
        exact ih _ _ _ (lv_sub hl [1, 2, 0] rfl) hf
      · have hf := ifn c3 hf
        refine lv_iconst (v := 0) hx hb db_isBlankRoot_26 (by decide) ?_
        cases hf
        exact er_z hx hb hr hlk rfl db_isBlankRoot_27
set_option maxRecDepth 100000 in
set_option maxHeartbeats 4000000 in
theorem wb_isBlankRoot_0 {p : Program} {l : Launch} {e : Env} {s : State} {m : MethodId} {args : Array Value} {below : List Frame} {meth : Method} {c : Code} {D : va_G} {gm : Nat → Nat} {ca : Nat → ClassId} {A : Nat → Prop} {st : BSt} (hX : BX p l e rmb_isBlankRoot s m args meth c D ca A kb_isBlankRoot 4 (some .boolean)) (hP : va_P D vwCl (wB gm ca st) s.heap) (n : Nat) : ∀ (x1 : Int32) {r : Int32} (ls : Array Slot), lv_has ls 4 [(0, .ref (gm 0)), (1, .int x1)] → fb_isBlankRoot n st x1 = some r → W p l e rmb_isBlankRoot s m args below meth c s.heap [] 0 0 (MQX below (xx_Q (XI r)) args s 0 0 (fun _ => False)) (F0 m 0 ls []) := by
  obtain ⟨hx, hb, hml, hr, hlk, hown, hts, hK, htr, hZ, hnh, hA, hfl⟩ := id hX
  intro x1 r ls hl hf
  rw [fb_isBlankRoot] at hf
  refine lv_iload_n hx hb db_isBlankRoot_0 rfl (lv_at hl 1 rfl) ?_
  refine lv_bipush (v := 20) hx hb db_isBlankRoot_1 (by decide) ?_
  refine lv_imul hx hb db_isBlankRoot_3 ?_
  refine lv_istore_n (lv' := [(2, .int (x1 * 20)), (0, .ref (gm 0)), (1, .int x1)]) hx hb db_isBlankRoot_4 rfl hl (by decide) rfl (fun ls hl => ?_)
  refine lv_iconst (v := 0) hx hb db_isBlankRoot_5 (by decide) ?_
  refine lv_istore_n (lv' := [(3, .int 0), (2, .int (x1 * 20)), (0, .ref (gm 0)), (1, .int x1)]) hx hb db_isBlankRoot_6 rfl hl (by decide) rfl (fun ls hl => ?_)
  exact wb_isBlankRoot_7 hX hP n n _ _ _ (lv_sub hl [2, 1, 0] rfl) hf
set_option maxRecDepth 100000 in
set_option maxHeartbeats 4000000 in
theorem cb_isBlankRoot {l : Launch} (hfl : l.flags = flags0) {D : va_G} {gm : Nat → Nat} {ca : Nat → ClassId} {st : BSt} {n : Nat} {x1 : Int32} {r : Int32} (hf : fb_isBlankRoot n st x1 = some r) : RM l yb_isBlankRoot rmb_isBlankRoot D gm ca [.int x1] st (XI r) :=
  RM.of hfl (by decide +kernel) rfl mcb_isBlankRoot (fun p e s m below meth c hX hP => wb_isBlankRoot_0 hX hP n _ _ (lv_entry _ (Nat.le_of_ble_eq_true rfl)) hf)
set_option maxRecDepth 100000 in
set_option maxHeartbeats 4000000 in
theorem wb_badAt_41 {p : Program} {l : Launch} {e : Env} {s : State} {m : MethodId} {args : Array Value} {below : List Frame} {meth : Method} {c : Code} {D : va_G} {gm : Nat → Nat} {ca : Nat → ClassId} {A : Nat → Prop} {st : BSt} (hX : BX p l e rmb_badAt s m args meth c D ca A kb_badAt 4 (some .int)) (hP : va_P D vwCl (wB gm ca st) s.heap) (n : Nat) :∀ (k : Nat), ∀ (x3 : Int32) {r : Int32} (ls : Array Slot), lv_has ls 4 [(0, .ref (gm 0)), (3, .int x3)] → fb_badAt_41 n k st x3 = some r → W p l e rmb_badAt s m args below meth c s.heap [] 0 0 (MQX below (xx_Q (XI r)) args s 0 0 (fun _ => False)) (F0 m 41 ls []) := by
  obtain ⟨hx, hb, hml, hr, hlk, hown, hts, hK, htr, hZ, hnh, hA, hfl⟩ := id hX
  intro k
  induction k with
  | zero =>
    intro x3 r ls hl hf
    rw [fb_badAt_41] at hf
    cases hf
  | succ k ih =>
    intro x3 r ls hl hf
    rw [fb_badAt_41] at hf
    refine lv_iload_n hx hb db_badAt_41 rfl (lv_at hl 1 rfl) ?_
    refine lv_bipush (v := 8) hx hb db_badAt_42 (by decide) ?_
    refine lv_icmp_ge (tgt := 74) hx hb db_badAt_44 (by decide) (fun c1 => ?_) (fun c1 => ?_)
    · have hf := ifp c1 hf
      refine lv_iconst (v := (-1)) hx hb db_badAt_74 (by decide) ?_
      cases hf
      exact er_i hx hb hr hlk db_badAt_75
    · have hf := ifn c1 hf
      refine lv_aload_n hx hb db_badAt_47 rfl (lv_at hl 0 rfl) ?_
      refine lv_iload_n hx hb db_badAt_48 rfl (lv_at hl 1 rfl) ?_
      obtain ⟨r2, h3, hf⟩ := obs hf
      refine rmI (cb_isBlankRoot (l := l) (hfl := hfl) h3) (cw_isBlankRoot hts ⟨by decide, by decide⟩) hx hb hml hown hts hK hP va_S.rf hZ hl.1 rfl rfl (lv_room (Nat.le_of_ble_eq_true rfl)) db_badAt_49 ⟨by decide, by decide⟩ ?_
      refine lv_if_ne (tgt := 68) hx hb db_badAt_52 (by decide) (fun c4 => ?_) (fun c4 => ?_)
      · have hf := ifn c4 hf
        refine lv_iinc (v := (x3 + 1)) (lv' := [(3, .int (x3 + 1)), (0, .ref (gm 0))]) hx hb db_badAt_68 hl (k := 1) rfl rfl (by decide) rfl (fun ls hl => ?_)
        refine lv_goto (tgt := 41) hx hb db_badAt_71 (by decide) ?_
        exact ih _ _ (lv_sub hl [1, 0] rfl) hf
      · have hf := ifp c4 hf
        refine lv_aload_n hx hb db_badAt_55 rfl (lv_at hl 0 rfl) ?_
        refine lv_iload_n hx hb db_badAt_56 rfl (lv_at hl 1 rfl) ?_
        obtain ⟨r5, h6, hf⟩ := obs hf
        refine rmI (cb_hasRootSum (l := l) (hfl := hfl) h6) (cw_hasRootSum hts ⟨by decide, by decide⟩) hx hb hml hown hts hK hP va_S.rf hZ hl.1 rfl rfl (lv_room (Nat.le_of_ble_eq_true rfl)) db_badAt_57 ⟨by decide, by decide⟩ ?_
        refine lv_if_ne (tgt := 68) hx hb db_badAt_60 (by decide) (fun c7 => ?_) (fun c7 => ?_)
        · have hf := ifn c7 hf
          refine lv_iinc (v := (x3 + 1)) (lv' := [(3, .int (x3 + 1)), (0, .ref (gm 0))]) hx hb db_badAt_68 hl (k := 1) rfl rfl (by decide) rfl (fun ls hl => ?_)
          refine lv_goto (tgt := 41) hx hb db_badAt_71 (by decide) ?_
          exact ih _ _ (lv_sub hl [1, 0] rfl) hf
        · have hf := ifp c7 hf
          refine lv_bipush (v := 100) hx hb db_badAt_63 (by decide) ?_
          refine lv_iload_n hx hb db_badAt_65 rfl (lv_at hl 1 rfl) ?_
          refine lv_iadd hx hb db_badAt_66 ?_
          cases hf
          exact er_i hx hb hr hlk db_badAt_67
set_option maxRecDepth 100000 in
set_option maxHeartbeats 4000000 in
theorem wb_badAt_7 {p : Program} {l : Launch} {e : Env} {s : State} {m : MethodId} {args : Array Value} {below : List Frame} {meth : Method} {c : Code} {D : va_G} {gm : Nat → Nat} {ca : Nat → ClassId} {A : Nat → Prop} {st : BSt} (hX : BX p l e rmb_badAt s m args meth c D ca A kb_badAt 4 (some .int)) (hP : va_P D vwCl (wB gm ca st) s.heap) (n : Nat) :∀ (k : Nat), ∀ (x1 : Int64) (x3 : Int32) {r : Int32} (ls : Array Slot), lv_has ls 4 [(0, .ref (gm 0)), (1, .long x1), (3, .int x3)] → fb_badAt_7 n k st x1 x3 = some r → W p l e rmb_badAt s m args below meth c s.heap [] 0 0 (MQX below (xx_Q (XI r)) args s 0 0 (fun _ => False)) (F0 m 7 ls []) := by
  obtain ⟨hx, hb, hml, hr, hlk, hown, hts, hK, htr, hZ, hnh, hA, hfl⟩ := id hX
  intro k
  induction k with
  | zero =>
    intro x1 x3 r ls hl hf
    rw [fb_badAt_7] at hf
    cases hf
  | succ k ih =>
    intro x1 x3 r ls hl hf
    rw [fb_badAt_7] at hf
    refine lv_iload_n hx hb db_badAt_7 rfl (lv_at hl 2 rfl) ?_
    refine lv_aload_n hx hb db_badAt_8 rfl (lv_at hl 0 rfl) ?_
    refine bg_pageCount hx hb hown hts hK hP db_badAt_9 ?_
    refine lv_icmp_ge (tgt := 39) hx hb db_badAt_12 (by decide) (fun c1 => ?_) (fun c1 => ?_)
    · have hf := ifp c1 hf
      refine lv_iconst (v := 0) hx hb db_badAt_39 (by decide) ?_
      refine lv_istore_n (lv' := [(3, .int 0), (0, .ref (gm 0)), (1, .long x1)]) hx hb db_badAt_40 rfl hl (by decide) rfl (fun ls hl => ?_)
      exact wb_badAt_41 hX hP n n _ _ (lv_sub hl [1, 0] rfl) hf
    · have hf := ifn c1 hf
      refine lv_lload_n hx hb db_badAt_15 rfl (lv_at hl 1 rfl) ?_
      refine lv_iload_n hx hb db_badAt_16 rfl (lv_at hl 2 rfl) ?_
      obtain ⟨r2, h3, hf⟩ := obs hf
      refine smI (cb_isIn (l := l) (hfl := hfl) h3) (cw_isIn hts ⟨by decide, by decide⟩) hx hb hml hown hts hl.1 rfl rfl (lv_room (Nat.le_of_ble_eq_true rfl)) db_badAt_17 ⟨by decide, by decide⟩ ?_
      refine lv_if_eq (tgt := 33) hx hb db_badAt_20 (by decide) (fun c4 => ?_) (fun c4 => ?_)
      · have hf := ifp c4 hf
        refine lv_iinc (v := (x3 + 1)) (lv' := [(3, .int (x3 + 1)), (0, .ref (gm 0)), (1, .long x1)]) hx hb db_badAt_33 hl (k := 2) rfl rfl (by decide) rfl (fun ls hl => ?_)
        refine lv_goto (tgt := 7) hx hb db_badAt_36 (by decide) ?_
        exact ih _ _ _ (lv_sub hl [1, 2, 0] rfl) hf
      · have hf := ifn c4 hf
        refine lv_aload_n hx hb db_badAt_23 rfl (lv_at hl 0 rfl) ?_
        refine lv_iload_n hx hb db_badAt_24 rfl (lv_at hl 2 rfl) ?_
        obtain ⟨r5, h6, hf⟩ := obs hf
        refine rmI (cb_isRightPage (l := l) (hfl := hfl) h6) (cw_isRightPage hts ⟨by decide, by decide⟩) hx hb hml hown hts hK hP va_S.rf hZ hl.1 rfl rfl (lv_room (Nat.le_of_ble_eq_true rfl)) db_badAt_25 ⟨by decide, by decide⟩ ?_
        refine lv_if_ne (tgt := 33) hx hb db_badAt_28 (by decide) (fun c7 => ?_) (fun c7 => ?_)
        · have hf := ifn c7 hf
          refine lv_iinc (v := (x3 + 1)) (lv' := [(3, .int (x3 + 1)), (0, .ref (gm 0)), (1, .long x1)]) hx hb db_badAt_33 hl (k := 2) rfl rfl (by decide) rfl (fun ls hl => ?_)
          refine lv_goto (tgt := 7) hx hb db_badAt_36 (by decide) ?_
          exact ih _ _ _ (lv_sub hl [1, 2, 0] rfl) hf
        · have hf := ifp c7 hf
          refine lv_iload_n hx hb db_badAt_31 rfl (lv_at hl 2 rfl) ?_
          cases hf
          exact er_i hx hb hr hlk db_badAt_32
set_option maxRecDepth 100000 in
set_option maxHeartbeats 4000000 in
theorem wb_badAt_0 {p : Program} {l : Launch} {e : Env} {s : State} {m : MethodId} {args : Array Value} {below : List Frame} {meth : Method} {c : Code} {D : va_G} {gm : Nat → Nat} {ca : Nat → ClassId} {A : Nat → Prop} {st : BSt} (hX : BX p l e rmb_badAt s m args meth c D ca A kb_badAt 4 (some .int)) (hP : va_P D vwCl (wB gm ca st) s.heap) (n : Nat) : ∀ {r : Int32} (ls : Array Slot), lv_has ls 4 [(0, .ref (gm 0))] → fb_badAt n st = some r → W p l e rmb_badAt s m args below meth c s.heap [] 0 0 (MQX below (xx_Q (XI r)) args s 0 0 (fun _ => False)) (F0 m 0 ls []) := by
  obtain ⟨hx, hb, hml, hr, hlk, hown, hts, hK, htr, hZ, hnh, hA, hfl⟩ := id hX
  intro r ls hl hf
  rw [fb_badAt] at hf
  refine lv_aload_n hx hb db_badAt_0 rfl (lv_at hl 0 rfl) ?_
  obtain ⟨r1, h2, hf⟩ := obs hf
  refine rmL (cb_heldPages (l := l) (hfl := hfl) h2) (cw_heldPages hts ⟨by decide, by decide⟩) hx hb hml hown hts hK hP va_S.rf hZ hl.1 rfl rfl (lv_room (Nat.le_of_ble_eq_true rfl)) db_badAt_1 ⟨by decide, by decide⟩ ?_
  refine lv_lstore_n (lv' := [(1, .long r1), (0, .ref (gm 0))]) hx hb db_badAt_4 rfl hl (by decide) rfl (fun ls hl => ?_)
  refine lv_iconst (v := 0) hx hb db_badAt_5 (by decide) ?_
  refine lv_istore_n (lv' := [(3, .int 0), (1, .long r1), (0, .ref (gm 0))]) hx hb db_badAt_6 rfl hl (by decide) rfl (fun ls hl => ?_)
  exact wb_badAt_7 hX hP n n _ _ _ (lv_sub hl [2, 1, 0] rfl) hf
set_option maxRecDepth 100000 in
set_option maxHeartbeats 4000000 in
theorem cb_badAt {l : Launch} (hfl : l.flags = flags0) {D : va_G} {gm : Nat → Nat} {ca : Nat → ClassId} {st : BSt} {n : Nat} {r : Int32} (hf : fb_badAt n st = some r) : RM l yb_badAt rmb_badAt D gm ca [] st (XI r) :=
  RM.of hfl (by decide +kernel) rfl mcb_badAt (fun p e s m below meth c hX hP => wb_badAt_0 hX hP n _ (lv_entry _ (Nat.le_of_ble_eq_true rfl)) hf)
