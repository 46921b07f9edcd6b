set_option maxRecDepth 100000 in
set_option maxHeartbeats 4000000 in
theorem wm_badAt_61 {p : Program} {l : Launch} {e : Env} {s : State} {m : MethodId} {args : Array Value} {below : List Frame} {meth : Method} {c : Code} {D : va_G} {gm : Nat → Nat} {ca : Nat → ClassId} {A : Nat → Prop} (hX : MX p l e rmm_badAt s m args meth c D ca A km_badAt 5 (some .int)) (n : Nat) (kb : MSt → Int32 → Option (Int32 × MSt)) (hkb : ∀ (st : MSt) (x1 : Int32) {r : Int32} {st' : MSt} (ls : Array Slot) (H : Heap) (locs : List Loc), MWd D gm ca A s.heap st H locs → lv_has ls 5 [(0, .ref (gm 0)), (1, .int x1)] → kb st x1 = some (r, st') → W p l e rmm_badAt s m args below meth c H locs 0 0 (MQX below (qmm_Q D gm ca A (XI r) st') args s 0 0 A) (F0 m 41 ls [])) :∀ (k : Nat), ∀ (st : MSt) (x1 : Int32) (x2 : Int32) (x3 : Int32) (x4 : Int32) {r : Int32} {st' : MSt} (ls : Array Slot) (H : Heap) (locs : List Loc), MWd D gm ca A s.heap st H locs → lv_has ls 5 [(0, .ref (gm 0)), (1, .int x1), (2, .int x2), (3, .int x3), (4, .int x4)] → fm_badAt_61 n kb k st x1 x2 x3 x4 = some (r, st') → W p l e rmm_badAt s m args below meth c H locs 0 0 (MQX below (qmm_Q D gm ca A (XI r) st') args s 0 0 A) (F0 m 61 ls []) := by
  obtain ⟨hx, hb, hml, hr, hlk, hown, hts, hK, htr, hZ, hnh, hA, hfl⟩ := id hX
  intro k
  induction k with
  | zero =>
    intro st x1 x2 x3 x4 r st' ls H locs hB hl hf
    rw [fm_badAt_61] at hf
    cases hf
  | succ k ih =>
    intro st x1 x2 x3 x4 r st' ls H locs hB hl hf
    rw [fm_badAt_61] at hf
    refine lv_iload hx hb dm_badAt_61 (lv_at hl 4 rfl) ?_
    refine lv_bipush (v := 19) hx hb dm_badAt_63 (by decide) ?_
    refine lv_icmp_ge (tgt := 98) hx hb dm_badAt_65 (by decide) (fun c1 => ?_) (fun c1 => ?_)
    · have hf := ifp c1 hf
      refine lv_iload_n hx hb dm_badAt_98 rfl (lv_at hl 3 rfl) ?_
      refine lv_if_eq (tgt := 127) hx hb dm_badAt_99 (by decide) (fun c2 => ?_) (fun c2 => ?_)
      · have hf := ifp c2 hf
        refine lv_iinc (v := (x1 + 1)) (lv' := [(1, .int (x1 + 1)), (0, .ref (gm 0)), (2, .int x2), (3, .int x3), (4, .int x4)]) hx hb dm_badAt_127 hl (k := 1) rfl rfl (by decide) rfl (fun ls hl => ?_)
        refine lv_goto (tgt := 41) hx hb dm_badAt_130 (by decide) ?_
        exact hkb _ _ _ _ _ hB (lv_sub hl [1, 0] rfl) hf
      · have hf := ifn c2 hf
        refine lv_aload_n hx hb dm_badAt_102 rfl (lv_at hl 0 rfl) ?_
        refine qbg_words hx hb hown hts hK hB.1 dm_badAt_103 ?_
        refine lv_iload_n hx hb dm_badAt_106 rfl (lv_at hl 2 rfl) ?_
        refine lv_bipush (v := 19) hx hb dm_badAt_107 (by decide) ?_
        refine lv_iadd hx hb dm_badAt_109 ?_
        obtain ⟨r3, er3, ir3, hf⟩ := rdL_some hf
        refine qbl_words hx hb hK hB.1 ir3 er3 dm_badAt_110 ?_
        refine lv_aload_n hx hb dm_badAt_111 rfl (lv_at hl 0 rfl) ?_
        refine lv_iload_n hx hb dm_badAt_112 rfl (lv_at hl 2 rfl) ?_
        refine lv_bipush (v := 19) hx hb dm_badAt_113 (by decide) ?_
        obtain ⟨r4, h5, hf⟩ := obs hf
        refine qrmL (cq_sum (l := l) (hfl := hfl) h5) (cw_m_sum hts ⟨by decide, by decide⟩) hx hb hml hown hts hK hB.1 hB.2.2 hZ hl.1 rfl rfl (lv_room (Nat.le_of_ble_eq_true rfl)) dm_badAt_115 ⟨by decide, by decide⟩ ?_
        refine W.lcmp hx hb dm_badAt_118 ?_
        refine lv_if_eq (tgt := 127) hx hb dm_badAt_119 (by decide) (fun c6 => ?_) (fun c6 => ?_)
        · have hf := ifp c6 hf
          refine lv_iinc (v := (x1 + 1)) (lv' := [(1, .int (x1 + 1)), (0, .ref (gm 0)), (2, .int x2), (3, .int x3), (4, .int x4)]) hx hb dm_badAt_127 hl (k := 1) rfl rfl (by decide) rfl (fun ls hl => ?_)
          refine lv_goto (tgt := 41) hx hb dm_badAt_130 (by decide) ?_
          exact hkb _ _ _ _ _ hB (lv_sub hl [1, 0] rfl) hf
        · have hf := ifn c6 hf
          refine lv_bipush (v := 100) hx hb dm_badAt_122 (by decide) ?_
          refine lv_iload_n hx hb dm_badAt_124 rfl (lv_at hl 1 rfl) ?_
          refine lv_iadd hx hb dm_badAt_125 ?_
          cases hf
          exact qem_i hx hb hr hlk hB dm_badAt_126
    · have hf := ifn c1 hf
      refine lv_iload_n hx hb dm_badAt_68 rfl (lv_at hl 3 rfl) ?_
      refine lv_if_ne (tgt := 86) hx hb dm_badAt_69 (by decide) (fun c7 => ?_) (fun c7 => ?_)
      · have hf := ifn c7 hf
        refine lv_iconst (v := 1) hx hb dm_badAt_86 (by decide) ?_
        refine lv_goto (tgt := 91) hx hb dm_badAt_87 (by decide) ?_
        refine lv_istore_n (lv' := [(3, .int 1), (0, .ref (gm 0)), (1, .int x1), (2, .int x2), (4, .int x4)]) hx hb dm_badAt_91 rfl hl (by decide) rfl (fun ls hl => ?_)
        refine lv_iinc (v := (x4 + 1)) (lv' := [(4, .int (x4 + 1)), (3, .int 1), (0, .ref (gm 0)), (1, .int x1), (2, .int x2)]) hx hb dm_badAt_92 hl (k := 4) rfl rfl (by decide) rfl (fun ls hl => ?_)
        refine lv_goto (tgt := 61) hx hb dm_badAt_95 (by decide) ?_
        exact ih _ _ _ _ _ _ _ _ hB (lv_sub hl [2, 3, 4, 1, 0] rfl) hf
      · have hf := ifp c7 hf
        refine lv_aload_n hx hb dm_badAt_72 rfl (lv_at hl 0 rfl) ?_
        refine qbg_words hx hb hown hts hK hB.1 dm_badAt_73 ?_
        refine lv_iload_n hx hb dm_badAt_76 rfl (lv_at hl 2 rfl) ?_
        refine lv_iload hx hb dm_badAt_77 (lv_at hl 4 rfl) ?_
        refine lv_iadd hx hb dm_badAt_79 ?_
        obtain ⟨r8, er8, ir8, hf⟩ := rdL_some hf
        refine qbl_words hx hb hK hB.1 ir8 er8 dm_badAt_80 ?_
        refine lv_lconst (v := 0) hx hb dm_badAt_81 (by decide) ?_
        refine W.lcmp hx hb dm_badAt_82 ?_
        refine lv_if_eq (tgt := 90) hx hb dm_badAt_83 (by decide) (fun c9 => ?_) (fun c9 => ?_)
        · have hf := ifp c9 hf
          refine lv_iconst (v := 0) hx hb dm_badAt_90 (by decide) ?_
          refine lv_istore_n (lv' := [(3, .int 0), (0, .ref (gm 0)), (1, .int x1), (2, .int x2), (4, .int x4)]) hx hb dm_badAt_91 rfl hl (by decide) rfl (fun ls hl => ?_)
          refine lv_iinc (v := (x4 + 1)) (lv' := [(4, .int (x4 + 1)), (3, .int 0), (0, .ref (gm 0)), (1, .int x1), (2, .int x2)]) hx hb dm_badAt_92 hl (k := 4) rfl rfl (by decide) rfl (fun ls hl => ?_)
          refine lv_goto (tgt := 61) hx hb dm_badAt_95 (by decide) ?_
          exact ih _ _ _ _ _ _ _ _ hB (lv_sub hl [2, 3, 4, 1, 0] rfl) hf
        · have hf := ifn c9 hf
          refine lv_iconst (v := 1) hx hb dm_badAt_86 (by decide) ?_
          refine lv_goto (tgt := 91) hx hb dm_badAt_87 (by decide) ?_
          refine lv_istore_n (lv' := [(3, .int 1), (0, .ref (gm 0)), (1, .int x1), (2, .int x2), (4, .int x4)]) hx hb dm_badAt_91 rfl hl (by decide) rfl (fun ls hl => ?_)
          refine lv_iinc (v := (x4 + 1)) (lv' := [(4, .int (x4 + 1)), (3, .int 1), (0, .ref (gm 0)), (1, .int x1), (2, .int x2)]) hx hb dm_badAt_92 hl (k := 4) rfl rfl (by decide) rfl (fun ls hl => ?_)
          refine lv_goto (tgt := 61) hx hb dm_badAt_95 (by decide) ?_
          exact ih _ _ _ _ _ _ _ _ hB (lv_sub hl [2, 3, 4, 1, 0] rfl) hf
set_option maxRecDepth 100000 in
set_option maxHeartbeats 4000000 in
theorem wm_badAt_41 {p : Program} {l : Launch} {e : Env} {s : State} {m : MethodId} {args : Array Value} {below : List Frame} {meth : Method} {c : Code} {D : va_G} {gm : Nat → Nat} {ca : Nat → ClassId} {A : Nat → Prop} (hX : MX p l e rmm_badAt s m args meth c D ca A km_badAt 5 (some .int)) (n : Nat) :∀ (k : Nat), ∀ (st : MSt) (x1 : Int32) {r : Int32} {st' : MSt} (ls : Array Slot) (H : Heap) (locs : List Loc), MWd D gm ca A s.heap st H locs → lv_has ls 5 [(0, .ref (gm 0)), (1, .int x1)] → fm_badAt_41 n k st x1 = some (r, st') → W p l e rmm_badAt s m args below meth c H locs 0 0 (MQX below (qmm_Q D gm ca A (XI r) st') args s 0 0 A) (F0 m 41 ls []) := by
  obtain ⟨hx, hb, hml, hr, hlk, hown, hts, hK, htr, hZ, hnh, hA, hfl⟩ := id hX
  intro k
  induction k with
  | zero =>
    intro st x1 r st' ls H locs hB hl hf
    rw [fm_badAt_41] at hf
    cases hf
  | succ k ih =>
    intro st x1 r st' ls H locs hB hl hf
    rw [fm_badAt_41] at hf
    refine lv_iload_n hx hb dm_badAt_41 rfl (lv_at hl 1 rfl) ?_
    refine lv_bipush (v := 8) hx hb dm_badAt_42 (by decide) ?_
    refine lv_icmp_ge (tgt := 133) hx hb dm_badAt_44 (by decide) (fun c1 => ?_) (fun c1 => ?_)
    · have hf := ifp c1 hf
      refine lv_iconst (v := (-1)) hx hb dm_badAt_133 (by decide) ?_
      cases hf
      exact qem_i hx hb hr hlk hB dm_badAt_134
    · have hf := ifn c1 hf
      refine lv_sipush (v := 1024) hx hb dm_badAt_47 (by decide) ?_
      refine lv_bipush (v := 20) hx hb dm_badAt_50 (by decide) ?_
      refine lv_iload_n hx hb dm_badAt_52 rfl (lv_at hl 1 rfl) ?_
      refine lv_imul hx hb dm_badAt_53 ?_
      refine lv_iadd hx hb dm_badAt_54 ?_
      refine lv_istore_n (lv' := [(2, .int (1024 + (20 * x1))), (0, .ref (gm 0)), (1, .int x1)]) hx hb dm_badAt_55 rfl hl (by decide) rfl (fun ls hl => ?_)
      refine lv_iconst (v := 0) hx hb dm_badAt_56 (by decide) ?_
      refine lv_istore_n (lv' := [(3, .int 0), (2, .int (1024 + (20 * x1))), (0, .ref (gm 0)), (1, .int x1)]) hx hb dm_badAt_57 rfl hl (by decide) rfl (fun ls hl => ?_)
      refine lv_iconst (v := 0) hx hb dm_badAt_58 (by decide) ?_
      refine lv_istore (lv' := [(4, .int 0), (3, .int 0), (2, .int (1024 + (20 * x1))), (0, .ref (gm 0)), (1, .int x1)]) hx hb dm_badAt_59 hl (by decide) rfl (fun ls hl => ?_)
      exact wm_badAt_61 hX n _ ih n _ _ _ _ _ _ _ _ hB (lv_sub hl [3, 4, 2, 1, 0] rfl) hf
set_option maxRecDepth 100000 in
set_option maxHeartbeats 4000000 in
theorem wm_badAt_7 {p : Program} {l : Launch} {e : Env} {s : State} {m : MethodId} {args : Array Value} {below : List Frame} {meth : Method} {c : Code} {D : va_G} {gm : Nat → Nat} {ca : Nat → ClassId} {A : Nat → Prop} (hX : MX p l e rmm_badAt s m args meth c D ca A km_badAt 5 (some .int)) (n : Nat) :∀ (k : Nat), ∀ (st : MSt) (x1 : Int32) {r : Int32} {st' : MSt} (ls : Array Slot) (H : Heap) (locs : List Loc), MWd D gm ca A s.heap st H locs → lv_has ls 5 [(0, .ref (gm 0)), (1, .int x1)] → fm_badAt_7 n k st x1 = some (r, st') → W p l e rmm_badAt s m args below meth c H locs 0 0 (MQX below (qmm_Q D gm ca A (XI r) st') args s 0 0 A) (F0 m 7 ls []) := by
  obtain ⟨hx, hb, hml, hr, hlk, hown, hts, hK, htr, hZ, hnh, hA, hfl⟩ := id hX
  intro k
  induction k with
  | zero =>
    intro st x1 r st' ls H locs hB hl hf
    rw [fm_badAt_7] at hf
    cases hf
  | succ k ih =>
    intro st x1 r st' ls H locs hB hl hf
    rw [fm_badAt_7] at hf
    refine lv_iload_n hx hb dm_badAt_7 rfl (lv_at hl 1 rfl) ?_
    refine lv_aload_n hx hb dm_badAt_8 rfl (lv_at hl 0 rfl) ?_
    refine qbg_pages hx hb hown hts hK hB.1 dm_badAt_9 ?_
    refine lv_icmp_ge (tgt := 39) hx hb dm_badAt_12 (by decide) (fun c1 => ?_) (fun c1 => ?_)
    · have hf := ifp c1 hf
      refine lv_iconst (v := 0) hx hb dm_badAt_39 (by decide) ?_
      refine lv_istore_n (lv' := [(1, .int 0), (0, .ref (gm 0))]) hx hb dm_badAt_40 rfl hl (by decide) rfl (fun ls hl => ?_)
      exact wm_badAt_41 hX n n _ _ _ _ _ hB (lv_sub hl [1, 0] rfl) hf
    · have hf := ifn c1 hf
      refine lv_aload_n hx hb dm_badAt_15 rfl (lv_at hl 0 rfl) ?_
      refine lv_iload_n hx hb dm_badAt_16 rfl (lv_at hl 1 rfl) ?_
      obtain ⟨r2, h3, hf⟩ := obs hf
      refine qrmI (cq_isFree (l := l) (hfl := hfl) h3) (cw_m_isFree hts ⟨by decide, by decide⟩) hx hb hml hown hts hK hB.1 hB.2.2 hZ hl.1 rfl rfl (lv_room (Nat.le_of_ble_eq_true rfl)) dm_badAt_17 ⟨by decide, by decide⟩ ?_
      refine lv_if_ne (tgt := 33) hx hb dm_badAt_20 (by decide) (fun c4 => ?_) (fun c4 => ?_)
      · have hf := ifn c4 hf
        refine lv_iinc (v := (x1 + 1)) (lv' := [(1, .int (x1 + 1)), (0, .ref (gm 0))]) hx hb dm_badAt_33 hl (k := 1) rfl rfl (by decide) rfl (fun ls hl => ?_)
        refine lv_goto (tgt := 7) hx hb dm_badAt_36 (by decide) ?_
        exact ih _ _ _ _ _ hB (lv_sub hl [1, 0] rfl) hf
      · have hf := ifp c4 hf
        refine lv_aload_n hx hb dm_badAt_23 rfl (lv_at hl 0 rfl) ?_
        refine lv_iload_n hx hb dm_badAt_24 rfl (lv_at hl 1 rfl) ?_
        obtain ⟨r5, h6, hf⟩ := obs hf
        refine qrmI (cq_isRight (l := l) (hfl := hfl) h6) (cw_m_isRight hts ⟨by decide, by decide⟩) hx hb hml hown hts hK hB.1 hB.2.2 hZ hl.1 rfl rfl (lv_room (Nat.le_of_ble_eq_true rfl)) dm_badAt_25 ⟨by decide, by decide⟩ ?_
        refine lv_if_ne (tgt := 33) hx hb dm_badAt_28 (by decide) (fun c7 => ?_) (fun c7 => ?_)
        · have hf := ifn c7 hf
          refine lv_iinc (v := (x1 + 1)) (lv' := [(1, .int (x1 + 1)), (0, .ref (gm 0))]) hx hb dm_badAt_33 hl (k := 1) rfl rfl (by decide) rfl (fun ls hl => ?_)
          refine lv_goto (tgt := 7) hx hb dm_badAt_36 (by decide) ?_
          exact ih _ _ _ _ _ hB (lv_sub hl [1, 0] rfl) hf
        · have hf := ifp c7 hf
          refine lv_iload_n hx hb dm_badAt_31 rfl (lv_at hl 1 rfl) ?_
          cases hf
          exact qem_i hx hb hr hlk hB dm_badAt_32
set_option maxRecDepth 100000 in
set_option maxHeartbeats 4000000 in
theorem wm_badAt_0 {p : Program} {l : Launch} {e : Env} {s : State} {m : MethodId} {args : Array Value} {below : List Frame} {meth : Method} {c : Code} {D : va_G} {gm : Nat → Nat} {ca : Nat → ClassId} {A : Nat → Prop} {st : MSt} (hX : MX p l e rmm_badAt s m args meth c D ca A km_badAt 5 (some .int)) (hB : MWd D gm ca A s.heap st s.heap []) (n : Nat) : ∀ {r : Int32} {st' : MSt} (ls : Array Slot), lv_has ls 5 [(0, .ref (gm 0))] → fm_badAt n st = some (r, st') → W p l e rmm_badAt s m args below meth c s.heap [] 0 0 (MQX below (qmm_Q D gm ca A (XI r) st') args s 0 0 A) (F0 m 0 ls []) := by
  obtain ⟨hx, hb, hml, hr, hlk, hown, hts, hK, htr, hZ, hnh, hA, hfl⟩ := id hX
  intro r st' ls hl hf
  rw [fm_badAt] at hf
  refine lv_aload_n hx hb dm_badAt_0 rfl (lv_at hl 0 rfl) ?_
  refine lv_iconst (v := 0) hx hb dm_badAt_1 (by decide) ?_
  refine qbp_thrown hx hb hown hts hK hB dm_badAt_2 (fun H locs hB => ?_)
  refine lv_iconst (v := 0) hx hb dm_badAt_5 (by decide) ?_
  refine lv_istore_n (lv' := [(1, .int 0), (0, .ref (gm 0))]) hx hb dm_badAt_6 rfl hl (by decide) rfl (fun ls hl => ?_)
  exact wm_badAt_7 hX n n _ _ _ _ _ hB (lv_sub hl [1, 0] rfl) hf
set_option maxRecDepth 100000 in
set_option maxHeartbeats 4000000 in
theorem cq_badAt {l : Launch} (hfl : l.flags = flags0) {D : va_G} {gm : Nat → Nat} {ca : Nat → ClassId} {st : MSt} {n : Nat} {r : Int32} {st' : MSt} (hf : fm_badAt n st = some (r, st')) : MMm l ym_badAt rmm_badAt D gm ca [] st (XI r) st' :=
  MMm.of hfl (by decide +kernel) rfl mcm_badAt (fun p e s m below meth c A _ hX hB => wm_badAt_0 hX hB n _ (lv_entry _ (Nat.le_of_ble_eq_true rfl)) hf)
