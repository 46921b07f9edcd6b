set_option maxRecDepth 100000 in
set_option maxHeartbeats 4000000 in
theorem wm_key_30 {p : Program} {l : Launch} {e : Env} {s : State} {m : MethodId} {args : Array Value} {below : List Frame} {meth : Method} {c : Code} {D : va_G} {gm : Nat → Nat} {ca : Nat → ClassId} {A : Nat → Prop} {st : MSt} (hX : MX p l e rmm_key s m args meth c D ca A km_key 4 (some .int)) (hB : MWd D gm ca A s.heap st s.heap []) (n : Nat) : ∀ (x1 : Int32) (x2 : Int32) (y2 : Int32) {r : Int32} {st' : MSt} (ls : Array Slot), lv_has ls 4 [(0, .ref (gm 0)), (1, .int x1), (2, .int x2)] → fm_key_30 n st x1 x2 y2 = some (r, st') → W p l e rmm_key s m args below meth c s.heap [] 0 0 (MQX below (qmm_Q D gm ca A (XI r) st') args s 0 0 A) (F0 m 30 ls [.int y2, .ref (gm 0), .ref (gm 0)]) := by
  obtain ⟨hx, hb, hml, hr, hlk, hown, hts, hK, htr, hZ, hnh, hA, hfl⟩ := id hX
  intro x1 x2 y2 r st' ls hl hf
  rw [fm_key_30] at hf
  obtain ⟨r1, h2, hf⟩ := obs hf
  refine qrmI (cq_check (l := l) (hfl := hfl) h2) (cw_m_check hts ⟨by decide, by decide⟩) hx hb hml hown hts hK hB.1 hB.2.2 hZ hl.1 rfl rfl (lv_room (Nat.le_of_ble_eq_true rfl)) dm_key_30 ⟨by decide, by decide⟩ ?_
  refine qbp_thrown hx hb hown hts hK hB dm_key_33 (fun H locs hB => ?_)
  refine lv_aload_n hx hb dm_key_36 rfl (lv_at hl 0 rfl) ?_
  refine qbg_thrown hx hb hown hts hK hB.1 dm_key_37 ?_
  refine lv_if_le (tgt := 47) hx hb dm_key_40 (by decide) (fun c3 => ?_) (fun c3 => ?_)
  · have hf := ifp c3 hf
    refine lv_aload_n hx hb dm_key_47 rfl (lv_at hl 0 rfl) ?_
    refine qbg_words hx hb hown hts hK hB.1 dm_key_48 ?_
    refine lv_aload_n hx hb dm_key_51 rfl (lv_at hl 0 rfl) ?_
    refine lv_iload_n hx hb dm_key_52 rfl (lv_at hl 1 rfl) ?_
    refine lv_iload_n hx hb dm_key_53 rfl (lv_at hl 2 rfl) ?_
    obtain ⟨r4, h5, hf⟩ := obs hf
    refine qrmI (cq_entry (l := l) (hfl := hfl) h5) (cw_m_entry hts ⟨by decide, by decide⟩) hx hb hml hown hts hK hB.1 hB.2.2 hZ hl.1 rfl rfl (lv_room (Nat.le_of_ble_eq_true rfl)) dm_key_54 ⟨by decide, by decide⟩ ?_
    obtain ⟨r6, er6, ir6, hf⟩ := rdL_some hf
    refine qbl_words hx hb hK hB.1 ir6 er6 dm_key_57 ?_
    refine lv_l2i hx hb dm_key_58 rfl ?_
    cases hf
    exact qem_i hx hb hr hlk hB dm_key_59
  · have hf := ifn c3 hf
    refine lv_iconst (v := 0) hx hb dm_key_43 (by decide) ?_
    refine lv_goto (tgt := 59) hx hb dm_key_44 (by decide) ?_
    cases hf
    exact qem_i hx hb hr hlk hB dm_key_59
set_option maxRecDepth 100000 in
set_option maxHeartbeats 4000000 in
theorem wm_key_0 {p : Program} {l : Launch} {e : Env} {s : State} {m : MethodId} {args : Array Value} {below : List Frame} {meth : Method} {c : Code} {D : va_G} {gm : Nat → Nat} {ca : Nat → ClassId} {A : Nat → Prop} {st : MSt} (hX : MX p l e rmm_key s m args meth c D ca A km_key 4 (some .int)) (hB : MWd D gm ca A s.heap st s.heap []) (n : Nat) : ∀ (x1 : Int32) (x2 : Int32) {r : Int32} {st' : MSt} (ls : Array Slot), lv_has ls 4 [(0, .ref (gm 0)), (1, .int x1), (2, .int x2)] → fm_key n st x1 x2 = some (r, st') → W p l e rmm_key s m args below meth c s.heap [] 0 0 (MQX below (qmm_Q D gm ca A (XI r) st') args s 0 0 A) (F0 m 0 ls []) := by
  obtain ⟨hx, hb, hml, hr, hlk, hown, hts, hK, htr, hZ, hnh, hA, hfl⟩ := id hX
  intro x1 x2 r st' ls hl hf
  rw [fm_key] at hf
  refine lv_aload_n hx hb dm_key_0 rfl (lv_at hl 0 rfl) ?_
  refine lv_iload_n hx hb dm_key_1 rfl (lv_at hl 1 rfl) ?_
  obtain ⟨r1, h2, hf⟩ := obs hf
  refine qrmI (cq_isKept (l := l) (hfl := hfl) h2) (cw_m_isKept hts ⟨by decide, by decide⟩) hx hb hml hown hts hK hB.1 hB.2.2 hZ hl.1 rfl rfl (lv_room (Nat.le_of_ble_eq_true rfl)) dm_key_2 ⟨by decide, by decide⟩ ?_
  refine lv_istore_n (lv' := [(3, .int r1), (0, .ref (gm 0)), (1, .int x1), (2, .int x2)]) hx hb dm_key_5 rfl hl (by decide) rfl (fun ls hl => ?_)
  refine lv_aload_n hx hb dm_key_6 rfl (lv_at hl 1 rfl) ?_
  refine lv_aload_n hx hb dm_key_7 rfl (lv_at hl 1 rfl) ?_
  refine lv_iload_n hx hb dm_key_8 rfl (lv_at hl 0 rfl) ?_
  refine lv_if_eq (tgt := 29) hx hb dm_key_9 (by decide) (fun c3 => ?_) (fun c3 => ?_)
  · have hf := ifp c3 hf
    refine lv_iconst (v := 0) hx hb dm_key_29 (by decide) ?_
    exact wm_key_30 hX hB n _ _ _ _ (lv_sub hl [1, 2, 3] rfl) hf
  · have hf := ifn c3 hf
    refine lv_iload_n hx hb dm_key_12 rfl (lv_at hl 3 rfl) ?_
    refine lv_if_lt (tgt := 29) hx hb dm_key_13 (by decide) (fun c4 => ?_) (fun c4 => ?_)
    · have hf := ifp c4 hf
      refine lv_iconst (v := 0) hx hb dm_key_29 (by decide) ?_
      exact wm_key_30 hX hB n _ _ _ _ (lv_sub hl [1, 2, 3] rfl) hf
    · have hf := ifn c4 hf
      refine lv_iload_n hx hb dm_key_16 rfl (lv_at hl 3 rfl) ?_
      refine lv_aload_n hx hb dm_key_17 rfl (lv_at hl 1 rfl) ?_
      refine lv_iload_n hx hb dm_key_18 rfl (lv_at hl 2 rfl) ?_
      obtain ⟨r5, h6, hf⟩ := obs hf
      refine qrmI (cq_entriesOf (l := l) (hfl := hfl) h6) (cw_m_entriesOf hts ⟨by decide, by decide⟩) hx hb hml hown hts hK hB.1 hB.2.2 hZ hl.1 rfl rfl (lv_room (Nat.le_of_ble_eq_true rfl)) dm_key_19 ⟨by decide, by decide⟩ ?_
      refine lv_icmp_ge (tgt := 29) hx hb dm_key_22 (by decide) (fun c7 => ?_) (fun c7 => ?_)
      · have hf := ifp c7 hf
        refine lv_iconst (v := 0) hx hb dm_key_29 (by decide) ?_
        exact wm_key_30 hX hB n _ _ _ _ (lv_sub hl [1, 2, 3] rfl) hf
      · have hf := ifn c7 hf
        refine lv_iconst (v := 1) hx hb dm_key_25 (by decide) ?_
        refine lv_goto (tgt := 30) hx hb dm_key_26 (by decide) ?_
        exact wm_key_30 hX hB n _ _ _ _ (lv_sub hl [1, 2, 3] rfl) hf
set_option maxRecDepth 100000 in
set_option maxHeartbeats 4000000 in
theorem cq_key {l : Launch} (hfl : l.flags = flags0) {D : va_G} {gm : Nat → Nat} {ca : Nat → ClassId} {st : MSt} {n : Nat} {x1 : Int32} {x2 : Int32} {r : Int32} {st' : MSt} (hf : fm_key n st x1 x2 = some (r, st')) : MMm l ym_key rmm_key D gm ca [.int x1, .int x2] st (XI r) st' :=
  MMm.of hfl (by decide +kernel) rfl mcm_key (fun p e s m below meth c A _ hX hB => wm_key_0 hX hB n _ _ _ (lv_entry _ (Nat.le_of_ble_eq_true rfl)) hf)
set_option maxRecDepth 100000 in
set_option maxHeartbeats 4000000 in
theorem wm_same_60 {p : Program} {l : Launch} {e : Env} {s : State} {m : MethodId} {args : Array Value} {below : List Frame} {meth : Method} {c : Code} {D : va_G} {gm : Nat → Nat} {ca : Nat → ClassId} {A : Nat → Prop} (hX : MX p l e rmm_same s m args meth c D ca A km_same 7 (some .boolean)) (n : Nat) :∀ (k : Nat), ∀ (st : MSt) (x1 : Int32) (x2 : Int32) (x3 : Int32) (x4 : Int32) {r : Int32} {st' : MSt} (ls : Array Slot) (H : Heap) (locs : List Loc), MWd D gm ca A s.heap st H locs → lv_has ls 7 [(0, .ref (gm 0)), (1, .int x1), (2, .int x2), (3, .int x3), (4, .int x4)] → fm_same_60 n k st x1 x2 x3 x4 = some (r, st') → W p l e rmm_same s m args below meth c H locs 0 0 (MQX below (qmm_Q D gm ca A (XI r) st') args s 0 0 A) (F0 m 60 ls []) := by
  obtain ⟨hx, hb, hml, hr, hlk, hown, hts, hK, htr, hZ, hnh, hA, hfl⟩ := id hX
  intro k
  induction k with
  | zero =>
    intro st x1 x2 x3 x4 r st' ls H locs hB hl hf
    rw [fm_same_60] at hf
    cases hf
  | succ k ih =>
    intro st x1 x2 x3 x4 r st' ls H locs hB hl hf
    rw [fm_same_60] at hf
    refine lv_iload_n hx hb dm_same_60 rfl (lv_at hl 3 rfl) ?_
    refine lv_if_eq (tgt := 144) hx hb dm_same_61 (by decide) (fun c1 => ?_) (fun c1 => ?_)
    · have hf := ifp c1 hf
      refine lv_iload_n hx hb dm_same_144 rfl (lv_at hl 3 rfl) ?_
      obtain ⟨_, hzb, hf⟩ := obs hf
      cases hf
      exact qem_z hx hb hr hlk hB (zb_ok hzb) dm_same_145
    · have hf := ifn c1 hf
      refine lv_iload hx hb dm_same_64 (lv_at hl 4 rfl) ?_
      refine lv_aload_n hx hb dm_same_66 rfl (lv_at hl 0 rfl) ?_
      refine lv_iload_n hx hb dm_same_67 rfl (lv_at hl 1 rfl) ?_
      obtain ⟨r2, h3, hf⟩ := obs hf
      refine qrmI (cq_entriesOf (l := l) (hfl := hfl) h3) (cw_m_entriesOf hts ⟨by decide, by decide⟩) hx hb hml hown hts hK hB.1 hB.2.2 hZ hl.1 rfl rfl (lv_room (Nat.le_of_ble_eq_true rfl)) dm_same_68 ⟨by decide, by decide⟩ ?_
      refine lv_icmp_ge (tgt := 144) hx hb dm_same_71 (by decide) (fun c4 => ?_) (fun c4 => ?_)
      · have hf := ifp c4 hf
        refine lv_iload_n hx hb dm_same_144 rfl (lv_at hl 3 rfl) ?_
        obtain ⟨_, hzb, hf⟩ := obs hf
        cases hf
        exact qem_z hx hb hr hlk hB (zb_ok hzb) dm_same_145
      · have hf := ifn c4 hf
        refine lv_aload_n hx hb dm_same_74 rfl (lv_at hl 0 rfl) ?_
        refine lv_iload_n hx hb dm_same_75 rfl (lv_at hl 1 rfl) ?_
        refine lv_iload hx hb dm_same_76 (lv_at hl 4 rfl) ?_
        obtain ⟨r5, h6, hf⟩ := obs hf
        refine qrmI (cq_entry (l := l) (hfl := hfl) h6) (cw_m_entry hts ⟨by decide, by decide⟩) hx hb hml hown hts hK hB.1 hB.2.2 hZ hl.1 rfl rfl (lv_room (Nat.le_of_ble_eq_true rfl)) dm_same_78 ⟨by decide, by decide⟩ ?_
        refine lv_istore (lv' := [(5, .int r5), (0, .ref (gm 0)), (1, .int x1), (2, .int x2), (3, .int x3), (4, .int x4)]) hx hb dm_same_81 hl (by decide) rfl (fun ls hl => ?_)
        refine lv_aload_n hx hb dm_same_83 rfl (lv_at hl 1 rfl) ?_
        refine lv_iload_n hx hb dm_same_84 rfl (lv_at hl 3 rfl) ?_
        refine lv_iload hx hb dm_same_85 (lv_at hl 5 rfl) ?_
        obtain ⟨r7, h8, hf⟩ := obs hf
        refine qrmI (cq_entry (l := l) (hfl := hfl) h8) (cw_m_entry hts ⟨by decide, by decide⟩) hx hb hml hown hts hK hB.1 hB.2.2 hZ hl.1 rfl rfl (lv_room (Nat.le_of_ble_eq_true rfl)) dm_same_87 ⟨by decide, by decide⟩ ?_
        refine lv_istore (lv' := [(6, .int r7), (5, .int r5), (0, .ref (gm 0)), (1, .int x1), (2, .int x2), (3, .int x3), (4, .int x4)]) hx hb dm_same_90 hl (by decide) rfl (fun ls hl => ?_)
        refine lv_aload_n hx hb dm_same_92 rfl (lv_at hl 2 rfl) ?_
        refine qbg_words hx hb hown hts hK hB.1 dm_same_93 ?_
        refine lv_iload hx hb dm_same_96 (lv_at hl 1 rfl) ?_
        obtain ⟨r9, er9, ir9, hf⟩ := rdL_some hf
        refine qbl_words hx hb hK hB.1 ir9 er9 dm_same_98 ?_
        refine lv_aload_n hx hb dm_same_99 rfl (lv_at hl 2 rfl) ?_
        refine qbg_words hx hb hown hts hK hB.1 dm_same_100 ?_
        refine lv_iload hx hb dm_same_103 (lv_at hl 0 rfl) ?_
        obtain ⟨r10, er10, ir10, hf⟩ := rdL_some hf
        refine qbl_words hx hb hK hB.1 ir10 er10 dm_same_105 ?_
        refine W.lcmp hx hb dm_same_106 ?_
        refine lv_if_ne (tgt := 136) hx hb dm_same_107 (by decide) (fun c11 => ?_) (fun c11 => ?_)
        · have hf := ifn c11 hf
          refine lv_iconst (v := 0) hx hb dm_same_136 (by decide) ?_
          refine lv_istore_n (lv' := [(3, .int 0), (6, .int r7), (5, .int r5), (0, .ref (gm 0)), (1, .int x1), (2, .int x2), (4, .int x4)]) hx hb dm_same_137 rfl hl (by decide) rfl (fun ls hl => ?_)
          refine lv_iinc (v := (x4 + 1)) (lv' := [(4, .int (x4 + 1)), (3, .int 0), (6, .int r7), (5, .int r5), (0, .ref (gm 0)), (1, .int x1), (2, .int x2)]) hx hb dm_same_138 hl (k := 6) rfl rfl (by decide) rfl (fun ls hl => ?_)
          refine lv_goto (tgt := 60) hx hb dm_same_141 (by decide) ?_
          exact ih _ _ _ _ _ _ _ _ hB (lv_sub hl [4, 5, 6, 1, 0] rfl) hf
        · have hf := ifp c11 hf
          refine lv_aload_n hx hb dm_same_110 rfl (lv_at hl 2 rfl) ?_
          refine qbg_words hx hb hown hts hK hB.1 dm_same_111 ?_
          refine lv_iload hx hb dm_same_114 (lv_at hl 1 rfl) ?_
          refine lv_iconst (v := 1) hx hb dm_same_116 (by decide) ?_
          refine lv_iadd hx hb dm_same_117 ?_
          obtain ⟨r12, er12, ir12, hf⟩ := rdL_some hf
          refine qbl_words hx hb hK hB.1 ir12 er12 dm_same_118 ?_
          refine lv_aload_n hx hb dm_same_119 rfl (lv_at hl 2 rfl) ?_
          refine qbg_words hx hb hown hts hK hB.1 dm_same_120 ?_
          refine lv_iload hx hb dm_same_123 (lv_at hl 0 rfl) ?_
          refine lv_iconst (v := 1) hx hb dm_same_125 (by decide) ?_
          refine lv_iadd hx hb dm_same_126 ?_
          obtain ⟨r13, er13, ir13, hf⟩ := rdL_some hf
          refine qbl_words hx hb hK hB.1 ir13 er13 dm_same_127 ?_
          refine W.lcmp hx hb dm_same_128 ?_
          refine lv_if_ne (tgt := 136) hx hb dm_same_129 (by decide) (fun c14 => ?_) (fun c14 => ?_)
          · have hf := ifn c14 hf
            refine lv_iconst (v := 0) hx hb dm_same_136 (by decide) ?_
            refine lv_istore_n (lv' := [(3, .int 0), (6, .int r7), (5, .int r5), (0, .ref (gm 0)), (1, .int x1), (2, .int x2), (4, .int x4)]) hx hb dm_same_137 rfl hl (by decide) rfl (fun ls hl => ?_)
            refine lv_iinc (v := (x4 + 1)) (lv' := [(4, .int (x4 + 1)), (3, .int 0), (6, .int r7), (5, .int r5), (0, .ref (gm 0)), (1, .int x1), (2, .int x2)]) hx hb dm_same_138 hl (k := 6) rfl rfl (by decide) rfl (fun ls hl => ?_)
            refine lv_goto (tgt := 60) hx hb dm_same_141 (by decide) ?_
            exact ih _ _ _ _ _ _ _ _ hB (lv_sub hl [4, 5, 6, 1, 0] rfl) hf
          · have hf := ifp c14 hf
            refine lv_iconst (v := 1) hx hb dm_same_132 (by decide) ?_
            refine lv_goto (tgt := 137) hx hb dm_same_133 (by decide) ?_
            refine lv_istore_n (lv' := [(3, .int 1), (6, .int r7), (5, .int r5), (0, .ref (gm 0)), (1, .int x1), (2, .int x2), (4, .int x4)]) hx hb dm_same_137 rfl hl (by decide) rfl (fun ls hl => ?_)
            refine lv_iinc (v := (x4 + 1)) (lv' := [(4, .int (x4 + 1)), (3, .int 1), (6, .int r7), (5, .int r5), (0, .ref (gm 0)), (1, .int x1), (2, .int x2)]) hx hb dm_same_138 hl (k := 6) rfl rfl (by decide) rfl (fun ls hl => ?_)
            refine lv_goto (tgt := 60) hx hb dm_same_141 (by decide) ?_
            exact ih _ _ _ _ _ _ _ _ hB (lv_sub hl [4, 5, 6, 1, 0] rfl) hf
set_option maxRecDepth 100000 in
set_option maxHeartbeats 4000000 in
theorem wm_same_23 {p : Program} {l : Launch} {e : Env} {s : State} {m : MethodId} {args : Array Value} {below : List Frame} {meth : Method} {c : Code} {D : va_G} {gm : Nat → Nat} {ca : Nat → ClassId} {A : Nat → Prop} {st : MSt} (hX : MX p l e rmm_same s m args meth c D ca A km_same 7 (some .boolean)) (hB : MWd D gm ca A s.heap st s.heap []) (n : Nat) : ∀ (x1 : Int32) (x2 : Int32) (y2 : Int32) {r : Int32} {st' : MSt} (ls : Array Slot), lv_has ls 7 [(0, .ref (gm 0)), (1, .int x1), (2, .int x2)] → fm_same_23 n st x1 x2 y2 = some (r, st') → W p l e rmm_same s m args below meth c s.heap [] 0 0 (MQX below (qmm_Q D gm ca A (XI r) st') args s 0 0 A) (F0 m 23 ls [.int y2, .ref (gm 0), .ref (gm 0)]) := by
  obtain ⟨hx, hb, hml, hr, hlk, hown, hts, hK, htr, hZ, hnh, hA, hfl⟩ := id hX
  intro x1 x2 y2 r st' ls hl hf
  rw [fm_same_23] at hf
  obtain ⟨r1, h2, hf⟩ := obs hf
  refine qrmI (cq_check (l := l) (hfl := hfl) h2) (cw_m_check hts ⟨by decide, by decide⟩) hx hb hml hown hts hK hB.1 hB.2.2 hZ hl.1 rfl rfl (lv_room (Nat.le_of_ble_eq_true rfl)) dm_same_23 ⟨by decide, by decide⟩ ?_
  refine qbp_thrown hx hb hown hts hK hB dm_same_26 (fun H locs hB => ?_)
  refine lv_aload_n hx hb dm_same_29 rfl (lv_at hl 0 rfl) ?_
  refine qbg_thrown hx hb hown hts hK hB.1 dm_same_30 ?_
  refine lv_if_le (tgt := 38) hx hb dm_same_33 (by decide) (fun c3 => ?_) (fun c3 => ?_)
  · have hf := ifp c3 hf
    refine lv_aload_n hx hb dm_same_38 rfl (lv_at hl 0 rfl) ?_
    refine lv_iload_n hx hb dm_same_39 rfl (lv_at hl 1 rfl) ?_
    obtain ⟨r4, h5, hf⟩ := obs hf
    refine qrmI (cq_entriesOf (l := l) (hfl := hfl) h5) (cw_m_entriesOf hts ⟨by decide, by decide⟩) hx hb hml hown hts hK hB.1 hB.2.2 hZ hl.1 rfl rfl (lv_room (Nat.le_of_ble_eq_true rfl)) dm_same_40 ⟨by decide, by decide⟩ ?_
    refine lv_aload_n hx hb dm_same_43 rfl (lv_at hl 0 rfl) ?_
    refine lv_iload_n hx hb dm_same_44 rfl (lv_at hl 2 rfl) ?_
    obtain ⟨r6, h7, hf⟩ := obs hf
    refine qrmI (cq_entriesOf (l := l) (hfl := hfl) h7) (cw_m_entriesOf hts ⟨by decide, by decide⟩) hx hb hml hown hts hK hB.1 hB.2.2 hZ hl.1 rfl rfl (lv_room (Nat.le_of_ble_eq_true rfl)) dm_same_45 ⟨by decide, by decide⟩ ?_
    refine lv_icmp_ne (tgt := 55) hx hb dm_same_48 (by decide) (fun c8 => ?_) (fun c8 => ?_)
    · have hf := ifn c8 hf
      refine lv_iconst (v := 0) hx hb dm_same_55 (by decide) ?_
      refine lv_istore_n (lv' := [(3, .int 0), (0, .ref (gm 0)), (1, .int x1), (2, .int x2)]) hx hb dm_same_56 rfl hl (by decide) rfl (fun ls hl => ?_)
      refine lv_iconst (v := 0) hx hb dm_same_57 (by decide) ?_
      refine lv_istore (lv' := [(4, .int 0), (3, .int 0), (0, .ref (gm 0)), (1, .int x1), (2, .int x2)]) hx hb dm_same_58 hl (by decide) rfl (fun ls hl => ?_)
      exact wm_same_60 hX n n _ _ _ _ _ _ _ _ hB (lv_sub hl [2, 3, 4, 1, 0] rfl) hf
    · have hf := ifp c8 hf
      refine lv_iconst (v := 1) hx hb dm_same_51 (by decide) ?_
      refine lv_goto (tgt := 56) hx hb dm_same_52 (by decide) ?_
      refine lv_istore_n (lv' := [(3, .int 1), (0, .ref (gm 0)), (1, .int x1), (2, .int x2)]) hx hb dm_same_56 rfl hl (by decide) rfl (fun ls hl => ?_)
      refine lv_iconst (v := 0) hx hb dm_same_57 (by decide) ?_
      refine lv_istore (lv' := [(4, .int 0), (3, .int 1), (0, .ref (gm 0)), (1, .int x1), (2, .int x2)]) hx hb dm_same_58 hl (by decide) rfl (fun ls hl => ?_)
      exact wm_same_60 hX n n _ _ _ _ _ _ _ _ hB (lv_sub hl [2, 3, 4, 1, 0] rfl) hf
  · have hf := ifn c3 hf
    refine lv_iconst (v := 0) hx hb dm_same_36 (by decide) ?_
    cases hf
    exact qem_z hx hb hr hlk hB rfl dm_same_37
set_option maxRecDepth 100000 in
set_option maxHeartbeats 4000000 in
theorem wm_same_0 {p : Program} {l : Launch} {e : Env} {s : State} {m : MethodId} {args : Array Value} {below : List Frame} {meth : Method} {c : Code} {D : va_G} {gm : Nat → Nat} {ca : Nat → ClassId} {A : Nat → Prop} {st : MSt} (hX : MX p l e rmm_same s m args meth c D ca A km_same 7 (some .boolean)) (hB : MWd D gm ca A s.heap st s.heap []) (n : Nat) : ∀ (x1 : Int32) (x2 : Int32) {r : Int32} {st' : MSt} (ls : Array Slot), lv_has ls 7 [(0, .ref (gm 0)), (1, .int x1), (2, .int x2)] → fm_same n st x1 x2 = some (r, st') → W p l e rmm_same s m args below meth c s.heap [] 0 0 (MQX below (qmm_Q D gm ca A (XI r) st') args s 0 0 A) (F0 m 0 ls []) := by
  obtain ⟨hx, hb, hml, hr, hlk, hown, hts, hK, htr, hZ, hnh, hA, hfl⟩ := id hX
  intro x1 x2 r st' ls hl hf
  rw [fm_same] at hf
  refine lv_aload_n hx hb dm_same_0 rfl (lv_at hl 0 rfl) ?_
  refine lv_aload_n hx hb dm_same_1 rfl (lv_at hl 0 rfl) ?_
  refine lv_aload_n hx hb dm_same_2 rfl (lv_at hl 0 rfl) ?_
  refine lv_iload_n hx hb dm_same_3 rfl (lv_at hl 1 rfl) ?_
  obtain ⟨r1, h2, hf⟩ := obs hf
  refine qrmI (cq_isKept (l := l) (hfl := hfl) h2) (cw_m_isKept hts ⟨by decide, by decide⟩) hx hb hml hown hts hK hB.1 hB.2.2 hZ hl.1 rfl rfl (lv_room (Nat.le_of_ble_eq_true rfl)) dm_same_4 ⟨by decide, by decide⟩ ?_
  refine lv_if_eq (tgt := 22) hx hb dm_same_7 (by decide) (fun c3 => ?_) (fun c3 => ?_)
  · have hf := ifp c3 hf
    refine lv_iconst (v := 0) hx hb dm_same_22 (by decide) ?_
    exact wm_same_23 hX hB n _ _ _ _ (lv_sub hl [0, 1, 2] rfl) hf
  · have hf := ifn c3 hf
    refine lv_aload_n hx hb dm_same_10 rfl (lv_at hl 0 rfl) ?_
    refine lv_iload_n hx hb dm_same_11 rfl (lv_at hl 2 rfl) ?_
    obtain ⟨r4, h5, hf⟩ := obs hf
    refine qrmI (cq_isKept (l := l) (hfl := hfl) h5) (cw_m_isKept hts ⟨by decide, by decide⟩) hx hb hml hown hts hK hB.1 hB.2.2 hZ hl.1 rfl rfl (lv_room (Nat.le_of_ble_eq_true rfl)) dm_same_12 ⟨by decide, by decide⟩ ?_
    refine lv_if_eq (tgt := 22) hx hb dm_same_15 (by decide) (fun c6 => ?_) (fun c6 => ?_)
    · have hf := ifp c6 hf
      refine lv_iconst (v := 0) hx hb dm_same_22 (by decide) ?_
      exact wm_same_23 hX hB n _ _ _ _ (lv_sub hl [0, 1, 2] rfl) hf
    · have hf := ifn c6 hf
      refine lv_iconst (v := 1) hx hb dm_same_18 (by decide) ?_
      refine lv_goto (tgt := 23) hx hb dm_same_19 (by decide) ?_
      exact wm_same_23 hX hB n _ _ _ _ (lv_sub hl [0, 1, 2] rfl) hf
set_option maxRecDepth 100000 in
set_option maxHeartbeats 4000000 in
theorem cq_same {l : Launch} (hfl : l.flags = flags0) {D : va_G} {gm : Nat → Nat} {ca : Nat → ClassId} {st : MSt} {n : Nat} {x1 : Int32} {x2 : Int32} {r : Int32} {st' : MSt} (hf : fm_same n st x1 x2 = some (r, st')) : MMm l ym_same rmm_same D gm ca [.int x1, .int x2] st (XI r) st' :=
  MMm.of hfl (by decide +kernel) rfl mcm_same (fun p e s m below meth c A _ hX hB => wm_same_0 hX hB n _ _ _ (lv_entry _ (Nat.le_of_ble_eq_true rfl)) hf)
set_option maxRecDepth 100000 in
set_option maxHeartbeats 4000000 in
theorem wm_free_20 {p : Program} {l : Launch} {e : Env} {s : State} {m : MethodId} {args : Array Value} {below : List Frame} {meth : Method} {c : Code} {D : va_G} {gm : Nat → Nat} {ca : Nat → ClassId} {A : Nat → Prop} (hX : MX p l e rmm_free s m args meth c D ca A km_free 3 (some .int)) (n : Nat) :∀ (k : Nat), ∀ (st : MSt) (x1 : Int32) (x2 : Int32) {r : Int32} {st' : MSt} (ls : Array Slot) (H : Heap) (locs : List Loc), MWd D gm ca A s.heap st H locs → lv_has ls 3 [(0, .ref (gm 0)), (1, .int x1), (2, .int x2)] → fm_free_20 n k st x1 x2 = some (r, st') → W p l e rmm_free s m args below meth c H locs 0 0 (MQX below (qmm_Q D gm ca A (XI r) st') args s 0 0 A) (F0 m 20 ls []) := by
  obtain ⟨hx, hb, hml, hr, hlk, hown, hts, hK, htr, hZ, hnh, hA, hfl⟩ := id hX
  intro k
  induction k with
  | zero =>
    intro st x1 x2 r st' ls H locs hB hl hf
    rw [fm_free_20] at hf
    cases hf
  | succ k ih =>
    intro st x1 x2 r st' ls H locs hB hl hf
    rw [fm_free_20] at hf
    refine lv_iload_n hx hb dm_free_20 rfl (lv_at hl 2 rfl) ?_
    refine lv_aload_n hx hb dm_free_21 rfl (lv_at hl 0 rfl) ?_
    refine qbg_pages hx hb hown hts hK hB.1 dm_free_22 ?_
    refine lv_icmp_ge (tgt := 57) hx hb dm_free_25 (by decide) (fun c1 => ?_) (fun c1 => ?_)
    · have hf := ifp c1 hf
      refine lv_iload_n hx hb dm_free_57 rfl (lv_at hl 1 rfl) ?_
      cases hf
      exact qem_i hx hb hr hlk hB dm_free_58
    · have hf := ifn c1 hf
      refine lv_aload_n hx hb dm_free_28 rfl (lv_at hl 0 rfl) ?_
      refine qbg_thrown hx hb hown hts hK hB.1 dm_free_29 ?_
      refine lv_if_ne (tgt := 57) hx hb dm_free_32 (by decide) (fun c2 => ?_) (fun c2 => ?_)
      · have hf := ifn c2 hf
        refine lv_iload_n hx hb dm_free_57 rfl (lv_at hl 1 rfl) ?_
        cases hf
        exact qem_i hx hb hr hlk hB dm_free_58
      · have hf := ifp c2 hf
        refine lv_aload_n hx hb dm_free_35 rfl (lv_at hl 0 rfl) ?_
        refine lv_iload_n hx hb dm_free_36 rfl (lv_at hl 2 rfl) ?_
        obtain ⟨r3, h4, hf⟩ := obs hf
        refine qrmI (cq_isFree (l := l) (hfl := hfl) h4) (cw_m_isFree hts ⟨by decide, by decide⟩) hx hb hml hown hts hK hB.1 hB.2.2 hZ hl.1 rfl rfl (lv_room (Nat.le_of_ble_eq_true rfl)) dm_free_37 ⟨by decide, by decide⟩ ?_
        refine lv_if_eq (tgt := 49) hx hb dm_free_40 (by decide) (fun c5 => ?_) (fun c5 => ?_)
        · have hf := ifp c5 hf
          refine lv_iload_n hx hb dm_free_49 rfl (lv_at hl 1 rfl) ?_
          refine lv_istore_n (lv' := [(1, .int x1), (0, .ref (gm 0)), (2, .int x2)]) hx hb dm_free_50 rfl hl (by decide) rfl (fun ls hl => ?_)
          refine lv_iinc (v := (x2 + 1)) (lv' := [(2, .int (x2 + 1)), (1, .int x1), (0, .ref (gm 0))]) hx hb dm_free_51 hl (k := 2) rfl rfl (by decide) rfl (fun ls hl => ?_)
          refine lv_goto (tgt := 20) hx hb dm_free_54 (by decide) ?_
          exact ih _ _ _ _ _ _ hB (lv_sub hl [2, 1, 0] rfl) hf
        · have hf := ifn c5 hf
          refine lv_iload_n hx hb dm_free_43 rfl (lv_at hl 1 rfl) ?_
          refine lv_iconst (v := 1) hx hb dm_free_44 (by decide) ?_
          refine lv_iadd hx hb dm_free_45 ?_
          refine lv_goto (tgt := 50) hx hb dm_free_46 (by decide) ?_
          refine lv_istore_n (lv' := [(1, .int (x1 + 1)), (0, .ref (gm 0)), (2, .int x2)]) hx hb dm_free_50 rfl hl (by decide) rfl (fun ls hl => ?_)
          refine lv_iinc (v := (x2 + 1)) (lv' := [(2, .int (x2 + 1)), (1, .int (x1 + 1)), (0, .ref (gm 0))]) hx hb dm_free_51 hl (k := 2) rfl rfl (by decide) rfl (fun ls hl => ?_)
          refine lv_goto (tgt := 20) hx hb dm_free_54 (by decide) ?_
          exact ih _ _ _ _ _ _ hB (lv_sub hl [2, 1, 0] rfl) hf
set_option maxRecDepth 100000 in
set_option maxHeartbeats 4000000 in
theorem wm_free_0 {p : Program} {l : Launch} {e : Env} {s : State} {m : MethodId} {args : Array Value} {below : List Frame} {meth : Method} {c : Code} {D : va_G} {gm : Nat → Nat} {ca : Nat → ClassId} {A : Nat → Prop} {st : MSt} (hX : MX p l e rmm_free s m args meth c D ca A km_free 3 (some .int)) (hB : MWd D gm ca A s.heap st s.heap []) (n : Nat) : ∀ {r : Int32} {st' : MSt} (ls : Array Slot), lv_has ls 3 [(0, .ref (gm 0))] → fm_free n st = some (r, st') → W p l e rmm_free s m args below meth c s.heap [] 0 0 (MQX below (qmm_Q D gm ca A (XI r) st') args s 0 0 A) (F0 m 0 ls []) := by
  obtain ⟨hx, hb, hml, hr, hlk, hown, hts, hK, htr, hZ, hnh, hA, hfl⟩ := id hX
  intro r st' ls hl hf
  rw [fm_free] at hf
  refine lv_aload_n hx hb dm_free_0 rfl (lv_at hl 0 rfl) ?_
  refine lv_aload_n hx hb dm_free_1 rfl (lv_at hl 0 rfl) ?_
  refine qbg_closed hx hb hown hts hK hB.1 dm_free_2 ?_
  refine lv_if_eq (tgt := 12) hx hb dm_free_5 (by decide) (fun c1 => ?_) (fun c1 => ?_)
  · have hf := ifp c1 hf
    refine lv_iconst (v := 0) hx hb dm_free_12 (by decide) ?_
    refine qbp_thrown hx hb hown hts hK hB dm_free_13 (fun H locs hB => ?_)
    refine lv_iconst (v := 0) hx hb dm_free_16 (by decide) ?_
    refine lv_istore_n (lv' := [(1, .int 0), (0, .ref (gm 0))]) hx hb dm_free_17 rfl hl (by decide) rfl (fun ls hl => ?_)
    refine lv_iconst (v := 0) hx hb dm_free_18 (by decide) ?_
    refine lv_istore_n (lv' := [(2, .int 0), (1, .int 0), (0, .ref (gm 0))]) hx hb dm_free_19 rfl hl (by decide) rfl (fun ls hl => ?_)
    exact wm_free_20 hX n n _ _ _ _ _ _ hB (lv_sub hl [2, 1, 0] rfl) hf
  · have hf := ifn c1 hf
    refine lv_iconst (v := 1) hx hb dm_free_8 (by decide) ?_
    refine lv_goto (tgt := 13) hx hb dm_free_9 (by decide) ?_
    refine qbp_thrown hx hb hown hts hK hB dm_free_13 (fun H locs hB => ?_)
    refine lv_iconst (v := 0) hx hb dm_free_16 (by decide) ?_
    refine lv_istore_n (lv' := [(1, .int 0), (0, .ref (gm 0))]) hx hb dm_free_17 rfl hl (by decide) rfl (fun ls hl => ?_)
    refine lv_iconst (v := 0) hx hb dm_free_18 (by decide) ?_
    refine lv_istore_n (lv' := [(2, .int 0), (1, .int 0), (0, .ref (gm 0))]) hx hb dm_free_19 rfl hl (by decide) rfl (fun ls hl => ?_)
    exact wm_free_20 hX n n _ _ _ _ _ _ hB (lv_sub hl [2, 1, 0] rfl) hf
set_option maxRecDepth 100000 in
set_option maxHeartbeats 4000000 in
theorem cq_free {l : Launch} (hfl : l.flags = flags0) {D : va_G} {gm : Nat → Nat} {ca : Nat → ClassId} {st : MSt} {n : Nat} {r : Int32} {st' : MSt} (hf : fm_free n st = some (r, st')) : MMm l ym_free rmm_free D gm ca [] st (XI r) st' :=
  MMm.of hfl (by decide +kernel) rfl mcm_free (fun p e s m below meth c A _ hX hB => wm_free_0 hX hB n _ (lv_entry _ (Nat.le_of_ble_eq_true rfl)) hf)
set_option maxRecDepth 100000 in
set_option maxHeartbeats 4000000 in
theorem wm_write_0 {p : Program} {l : Launch} {e : Env} {s : State} {m : MethodId} {args : Array Value} {below : List Frame} {meth : Method} {c : Code} {D : va_G} {gm : Nat → Nat} {ca : Nat → ClassId} {A : Nat → Prop} {st : MSt} (hX : MX p l e rmm_write s m args meth c D ca A km_write 4 (none)) (hB : MWd D gm ca A s.heap st s.heap []) (n : Nat) : ∀ (x1 : Int32) (x2 : Int64) {st' : MSt} (ls : Array Slot), lv_has ls 4 [(0, .ref (gm 0)), (1, .int x1), (2, .long x2)] → fm_write n st x1 x2 = some st' → W p l e rmm_write s m args below meth c s.heap [] 0 0 (MQX below (qmm_Q D gm ca A (XV) st') args s 0 0 A) (F0 m 0 ls []) := by
  obtain ⟨hx, hb, hml, hr, hlk, hown, hts, hK, htr, hZ, hnh, hA, hfl⟩ := id hX
  intro x1 x2 st' ls hl hf
  rw [fm_write] at hf
  refine lv_aload_n hx hb dm_write_0 rfl (lv_at hl 0 rfl) ?_
  refine qbg_places hx hb hown hts hK hB.1 dm_write_1 ?_
  refine lv_aload_n hx hb dm_write_4 rfl (lv_at hl 0 rfl) ?_
  refine qbg_written hx hb hown hts hK hB.1 dm_write_5 ?_
  refine lv_iload_n hx hb dm_write_8 rfl (lv_at hl 1 rfl) ?_
  obtain ⟨a1, ea1, ia1, hf⟩ := wrI_some hf
  refine qbt_places hx hb hK hB ia1 ea1 dm_write_9 (fun H locs hB => ?_)
  refine lv_aload_n hx hb dm_write_10 rfl (lv_at hl 0 rfl) ?_
  refine qbg_before hx hb hown hts hK hB.1 dm_write_11 ?_
  refine lv_aload_n hx hb dm_write_14 rfl (lv_at hl 0 rfl) ?_
  refine qbg_written hx hb hown hts hK hB.1 dm_write_15 ?_
  refine lv_aload_n hx hb dm_write_18 rfl (lv_at hl 0 rfl) ?_
  refine qbg_words hx hb hown hts hK hB.1 dm_write_19 ?_
  refine lv_iload_n hx hb dm_write_22 rfl (lv_at hl 1 rfl) ?_
  obtain ⟨r2, er2, ir2, hf⟩ := rdL_some hf
  refine qbl_words hx hb hK hB.1 ir2 er2 dm_write_23 ?_
  obtain ⟨a3, ea3, ia3, hf⟩ := wrL_some hf
  refine qbt_before hx hb hK hB ia3 ea3 dm_write_24 (fun H locs hB => ?_)
  refine lv_aload_n hx hb dm_write_25 rfl (lv_at hl 0 rfl) ?_
  refine qbg_words hx hb hown hts hK hB.1 dm_write_26 ?_
  refine lv_iload_n hx hb dm_write_29 rfl (lv_at hl 1 rfl) ?_
  refine lv_lload_n hx hb dm_write_30 rfl (lv_at hl 2 rfl) ?_
  obtain ⟨a4, ea4, ia4, hf⟩ := wrL_some hf
  refine qbt_words hx hb hK hB ia4 ea4 dm_write_31 (fun H locs hB => ?_)
  refine lv_aload_n hx hb dm_write_32 rfl (lv_at hl 0 rfl) ?_
  refine lv_dup hx hb dm_write_33 rfl ?_
  refine qbg_written hx hb hown hts hK hB.1 dm_write_34 ?_
  refine lv_iconst (v := 1) hx hb dm_write_37 (by decide) ?_
  refine lv_iadd hx hb dm_write_38 ?_
  refine qbp_written hx hb hown hts hK hB dm_write_39 (fun H locs hB => ?_)
  cases hf
  exact qem_v hx hb hr hlk hB dm_write_42
set_option maxRecDepth 100000 in
set_option maxHeartbeats 4000000 in
theorem cq_write {l : Launch} (hfl : l.flags = flags0) {D : va_G} {gm : Nat → Nat} {ca : Nat → ClassId} {st : MSt} {n : Nat} {x1 : Int32} {x2 : Int64} {st' : MSt} (hf : fm_write n st x1 x2 = some st') : MMm l ym_write rmm_write D gm ca [.int x1, .long x2] st (XV) st' :=
  MMm.of hfl (by decide +kernel) rfl mcm_write (fun p e s m below meth c A _ hX hB => wm_write_0 hX hB n _ _ _ (lv_entry _ (Nat.le_of_ble_eq_true rfl)) hf)
set_option maxRecDepth 100000 in
set_option maxHeartbeats 4000000 in
theorem wm_leafFor_19 {p : Program} {l : Launch} {e : Env} {s : State} {m : MethodId} {args : Array Value} {below : List Frame} {meth : Method} {c : Code} {D : va_G} {gm : Nat → Nat} {ca : Nat → ClassId} {A : Nat → Prop} {st : MSt} (hX : MX p l e rmm_leafFor s m args meth c D ca A km_leafFor 4 (some .int)) (hP : va_P D vwCl (wM gm ca st) s.heap) (n : Nat) :∀ (k : Nat), ∀ (x1 : Int32) (x2 : Int32) (x3 : Int32) {r : Int32} (ls : Array Slot), lv_has ls 4 [(0, .ref (gm 0)), (1, .int x1), (2, .int x2), (3, .int x3)] → fm_leafFor_19 n k st x1 x2 x3 = some r → W p l e rmm_leafFor s m args below meth c s.heap [] 0 0 (MQX below (xx_Q (XI r)) args s 0 0 (fun _ => False)) (F0 m 19 ls []) := by
  obtain ⟨hx, hb, hml, hr, hlk, hown, hts, hK, htr, hZ, hnh, hA, hfl⟩ := id hX
  intro k
  induction k with
  | zero =>
    intro x1 x2 x3 r ls hl hf
    rw [fm_leafFor_19] at hf
    cases hf
  | succ k ih =>
    intro x1 x2 x3 r ls hl hf
    rw [fm_leafFor_19] at hf
    refine lv_iload_n hx hb dm_leafFor_19 rfl (lv_at hl 3 rfl) ?_
    refine lv_aload_n hx hb dm_leafFor_20 rfl (lv_at hl 0 rfl) ?_
    refine lv_aload_n hx hb dm_leafFor_21 rfl (lv_at hl 0 rfl) ?_
    refine qbg_newest hx hb hown hts hK hP dm_leafFor_22 ?_
    obtain ⟨r1, h2, hf⟩ := obs hf
    refine qrmI (cq_leavesOf (l := l) (hfl := hfl) h2) (cw_m_leavesOf hts ⟨by decide, by decide⟩) hx hb hml hown hts hK hP va_S.rf hZ hl.1 rfl rfl (lv_room (Nat.le_of_ble_eq_true rfl)) dm_leafFor_25 ⟨by decide, by decide⟩ ?_
    refine lv_icmp_ge (tgt := 68) hx hb dm_leafFor_28 (by decide) (fun c3 => ?_) (fun c3 => ?_)
    · have hf := ifp c3 hf
      refine lv_iload_n hx hb dm_leafFor_68 rfl (lv_at hl 2 rfl) ?_
      cases hf
      exact er_i hx hb hr hlk dm_leafFor_69
    · have hf := ifn c3 hf
      refine lv_aload_n hx hb dm_leafFor_31 rfl (lv_at hl 0 rfl) ?_
      refine qbg_words hx hb hown hts hK hP dm_leafFor_32 ?_
      refine lv_bipush (v := 16) hx hb dm_leafFor_35 (by decide) ?_
      refine lv_aload_n hx hb dm_leafFor_37 rfl (lv_at hl 0 rfl) ?_
      refine lv_aload_n hx hb dm_leafFor_38 rfl (lv_at hl 0 rfl) ?_
      refine qbg_newest hx hb hown hts hK hP dm_leafFor_39 ?_
      refine lv_iload_n hx hb dm_leafFor_42 rfl (lv_at hl 3 rfl) ?_
      obtain ⟨r4, h5, hf⟩ := obs hf
      refine qrmI (cq_leafOf (l := l) (hfl := hfl) h5) (cw_m_leafOf hts ⟨by decide, by decide⟩) hx hb hml hown hts hK hP va_S.rf hZ hl.1 rfl rfl (lv_room (Nat.le_of_ble_eq_true rfl)) dm_leafFor_43 ⟨by decide, by decide⟩ ?_
      refine lv_imul hx hb dm_leafFor_46 ?_
      refine lv_iconst (v := 1) hx hb dm_leafFor_47 (by decide) ?_
      refine lv_iadd hx hb dm_leafFor_48 ?_
      obtain ⟨r6, er6, ir6, hf⟩ := rdL_some hf
      refine qbl_words hx hb hK hP ir6 er6 dm_leafFor_49 ?_
      refine lv_iload_n hx hb dm_leafFor_50 rfl (lv_at hl 1 rfl) ?_
      refine lv_i2l hx hb dm_leafFor_51 rfl ?_
      refine W.lcmp hx hb dm_leafFor_52 ?_
      refine lv_if_gt (tgt := 60) hx hb dm_leafFor_53 (by decide) (fun c7 => ?_) (fun c7 => ?_)
      · have hf := ifp c7 hf
        refine lv_iload_n hx hb dm_leafFor_60 rfl (lv_at hl 2 rfl) ?_
        refine lv_istore_n (lv' := [(2, .int x2), (0, .ref (gm 0)), (1, .int x1), (3, .int x3)]) hx hb dm_leafFor_61 rfl hl (by decide) rfl (fun ls hl => ?_)
        refine lv_iinc (v := (x3 + 1)) (lv' := [(3, .int (x3 + 1)), (2, .int x2), (0, .ref (gm 0)), (1, .int x1)]) hx hb dm_leafFor_62 hl (k := 3) rfl rfl (by decide) rfl (fun ls hl => ?_)
        refine lv_goto (tgt := 19) hx hb dm_leafFor_65 (by decide) ?_
        exact ih _ _ _ _ (lv_sub hl [2, 3, 1, 0] rfl) hf
      · have hf := ifn c7 hf
        refine lv_iload_n hx hb dm_leafFor_56 rfl (lv_at hl 3 rfl) ?_
        refine lv_goto (tgt := 61) hx hb dm_leafFor_57 (by decide) ?_
        refine lv_istore_n (lv' := [(2, .int x3), (0, .ref (gm 0)), (1, .int x1), (3, .int x3)]) hx hb dm_leafFor_61 rfl hl (by decide) rfl (fun ls hl => ?_)
        refine lv_iinc (v := (x3 + 1)) (lv' := [(3, .int (x3 + 1)), (2, .int x3), (0, .ref (gm 0)), (1, .int x1)]) hx hb dm_leafFor_62 hl (k := 3) rfl rfl (by decide) rfl (fun ls hl => ?_)
        refine lv_goto (tgt := 19) hx hb dm_leafFor_65 (by decide) ?_
        exact ih _ _ _ _ (lv_sub hl [2, 3, 1, 0] rfl) hf
set_option maxRecDepth 100000 in
set_option maxHeartbeats 4000000 in
theorem wm_leafFor_0 {p : Program} {l : Launch} {e : Env} {s : State} {m : MethodId} {args : Array Value} {below : List Frame} {meth : Method} {c : Code} {D : va_G} {gm : Nat → Nat} {ca : Nat → ClassId} {A : Nat → Prop} {st : MSt} (hX : MX p l e rmm_leafFor s m args meth c D ca A km_leafFor 4 (some .int)) (hP : va_P D vwCl (wM gm ca st) s.heap) (n : Nat) : ∀ (x1 : Int32) {r : Int32} (ls : Array Slot), lv_has ls 4 [(0, .ref (gm 0)), (1, .int x1)] → fm_leafFor n st x1 = some r → W p l e rmm_leafFor s m args below meth c s.heap [] 0 0 (MQX below (xx_Q (XI r)) args s 0 0 (fun _ => False)) (F0 m 0 ls []) := by
  obtain ⟨hx, hb, hml, hr, hlk, hown, hts, hK, htr, hZ, hnh, hA, hfl⟩ := id hX
  intro x1 r ls hl hf
  rw [fm_leafFor] at hf
  refine lv_aload_n hx hb dm_leafFor_0 rfl (lv_at hl 0 rfl) ?_
  refine lv_aload_n hx hb dm_leafFor_1 rfl (lv_at hl 0 rfl) ?_
  refine qbg_newest hx hb hown hts hK hP dm_leafFor_2 ?_
  obtain ⟨r1, h2, hf⟩ := obs hf
  refine qrmI (cq_leavesOf (l := l) (hfl := hfl) h2) (cw_m_leavesOf hts ⟨by decide, by decide⟩) hx hb hml hown hts hK hP va_S.rf hZ hl.1 rfl rfl (lv_room (Nat.le_of_ble_eq_true rfl)) dm_leafFor_5 ⟨by decide, by decide⟩ ?_
  refine lv_if_ne (tgt := 15) hx hb dm_leafFor_8 (by decide) (fun c3 => ?_) (fun c3 => ?_)
  · have hf := ifn c3 hf
    refine lv_iconst (v := 0) hx hb dm_leafFor_15 (by decide) ?_
    refine lv_istore_n (lv' := [(2, .int 0), (0, .ref (gm 0)), (1, .int x1)]) hx hb dm_leafFor_16 rfl hl (by decide) rfl (fun ls hl => ?_)
    refine lv_iconst (v := 1) hx hb dm_leafFor_17 (by decide) ?_
    refine lv_istore_n (lv' := [(3, .int 1), (2, .int 0), (0, .ref (gm 0)), (1, .int x1)]) hx hb dm_leafFor_18 rfl hl (by decide) rfl (fun ls hl => ?_)
    exact wm_leafFor_19 hX hP n n _ _ _ _ (lv_sub hl [2, 3, 1, 0] rfl) hf
  · have hf := ifp c3 hf
    refine lv_iconst (v := (-1)) hx hb dm_leafFor_11 (by decide) ?_
    refine lv_goto (tgt := 16) hx hb dm_leafFor_12 (by decide) ?_
    refine lv_istore_n (lv' := [(2, .int (-1)), (0, .ref (gm 0)), (1, .int x1)]) hx hb dm_leafFor_16 rfl hl (by decide) rfl (fun ls hl => ?_)
    refine lv_iconst (v := 1) hx hb dm_leafFor_17 (by decide) ?_
    refine lv_istore_n (lv' := [(3, .int 1), (2, .int (-1)), (0, .ref (gm 0)), (1, .int x1)]) hx hb dm_leafFor_18 rfl hl (by decide) rfl (fun ls hl => ?_)
    exact wm_leafFor_19 hX hP n n _ _ _ _ (lv_sub hl [2, 3, 1, 0] rfl) hf
set_option maxRecDepth 100000 in
set_option maxHeartbeats 4000000 in
theorem cq_leafFor {l : Launch} (hfl : l.flags = flags0) {D : va_G} {gm : Nat → Nat} {ca : Nat → ClassId} {st : MSt} {n : Nat} {x1 : Int32} {r : Int32} (hf : fm_leafFor n st x1 = some r) : RMm l ym_leafFor rmm_leafFor D gm ca [.int x1] st (XI r) :=
  RMm.of hfl (by decide +kernel) rfl mcm_leafFor (fun p e s m below meth c hX hP => wm_leafFor_0 hX hP n _ _ (lv_entry _ (Nat.le_of_ble_eq_true rfl)) hf)
set_option maxRecDepth 100000 in
set_option maxHeartbeats 4000000 in
theorem wm_load_33 {p : Program} {l : Launch} {e : Env} {s : State} {m : MethodId} {args : Array Value} {below : List Frame} {meth : Method} {c : Code} {D : va_G} {gm : Nat → Nat} {ca : Nat → ClassId} {A : Nat → Prop} (hX : MX p l e rmm_load s m args meth c D ca A km_load 3 (none)) (n : Nat) :∀ (k : Nat), ∀ (st : MSt) (x1 : Int32) (x2 : Int32) {st' : MSt} (ls : Array Slot) (H : Heap) (locs : List Loc), MWd D gm ca A s.heap st H locs → lv_has ls 3 [(0, .ref (gm 0)), (1, .int x1), (2, .int x2)] → fm_load_33 n k st x1 x2 = some st' → W p l e rmm_load s m args below meth c H locs 0 0 (MQX below (qmm_Q D gm ca A (XV) st') args s 0 0 A) (F0 m 33 ls []) := by
  obtain ⟨hx, hb, hml, hr, hlk, hown, hts, hK, htr, hZ, hnh, hA, hfl⟩ := id hX
  intro k
  induction k with
  | zero =>
    intro st x1 x2 st' ls H locs hB hl hf
    rw [fm_load_33] at hf
    cases hf
  | succ k ih =>
    intro st x1 x2 st' ls H locs hB hl hf
    rw [fm_load_33] at hf
    refine lv_iload_n hx hb dm_load_33 rfl (lv_at hl 2 rfl) ?_
    refine lv_aload_n hx hb dm_load_34 rfl (lv_at hl 0 rfl) ?_
    refine qbg_many hx hb hown hts hK hB.1 dm_load_35 ?_
    refine lv_icmp_ge (tgt := 105) hx hb dm_load_38 (by decide) (fun c1 => ?_) (fun c1 => ?_)
    · have hf := ifp c1 hf
      cases hf
      exact qem_v hx hb hr hlk hB dm_load_105
    · have hf := ifn c1 hf
      refine lv_aload_n hx hb dm_load_41 rfl (lv_at hl 0 rfl) ?_
      refine qbg_keys hx hb hown hts hK hB.1 dm_load_42 ?_
      refine lv_iload_n hx hb dm_load_45 rfl (lv_at hl 2 rfl) ?_
      refine lv_aload_n hx hb dm_load_46 rfl (lv_at hl 0 rfl) ?_
      refine qbg_words hx hb hown hts hK hB.1 dm_load_47 ?_
      refine lv_bipush (v := 16) hx hb dm_load_50 (by decide) ?_
      refine lv_aload_n hx hb dm_load_52 rfl (lv_at hl 0 rfl) ?_
      refine lv_aload_n hx hb dm_load_53 rfl (lv_at hl 0 rfl) ?_
      refine qbg_newest hx hb hown hts hK hB.1 dm_load_54 ?_
      refine lv_iload_n hx hb dm_load_57 rfl (lv_at hl 1 rfl) ?_
      obtain ⟨r2, h3, hf⟩ := obs hf
      refine qrmI (cq_leafOf (l := l) (hfl := hfl) h3) (cw_m_leafOf hts ⟨by decide, by decide⟩) hx hb hml hown hts hK hB.1 hB.2.2 hZ hl.1 rfl rfl (lv_room (Nat.le_of_ble_eq_true rfl)) dm_load_58 ⟨by decide, by decide⟩ ?_
      refine lv_imul hx hb dm_load_61 ?_
      refine lv_iconst (v := 1) hx hb dm_load_62 (by decide) ?_
      refine lv_iadd hx hb dm_load_63 ?_
      refine lv_iconst (v := 2) hx hb dm_load_64 (by decide) ?_
      refine lv_iload_n hx hb dm_load_65 rfl (lv_at hl 2 rfl) ?_
      refine lv_imul hx hb dm_load_66 ?_
      refine lv_iadd hx hb dm_load_67 ?_
      obtain ⟨r4, er4, ir4, hf⟩ := rdL_some hf
      refine qbl_words hx hb hK hB.1 ir4 er4 dm_load_68 ?_
      obtain ⟨a5, ea5, ia5, hf⟩ := wrL_some hf
      refine qbt_keys hx hb hK hB ia5 ea5 dm_load_69 (fun H locs hB => ?_)
      refine lv_aload_n hx hb dm_load_70 rfl (lv_at hl 0 rfl) ?_
      refine qbg_values hx hb hown hts hK hB.1 dm_load_71 ?_
      refine lv_iload_n hx hb dm_load_74 rfl (lv_at hl 2 rfl) ?_
      refine lv_aload_n hx hb dm_load_75 rfl (lv_at hl 0 rfl) ?_
      refine qbg_words hx hb hown hts hK hB.1 dm_load_76 ?_
      refine lv_bipush (v := 16) hx hb dm_load_79 (by decide) ?_
      refine lv_aload_n hx hb dm_load_81 rfl (lv_at hl 0 rfl) ?_
      refine lv_aload_n hx hb dm_load_82 rfl (lv_at hl 0 rfl) ?_
      refine qbg_newest hx hb hown hts hK hB.1 dm_load_83 ?_
      refine lv_iload_n hx hb dm_load_86 rfl (lv_at hl 1 rfl) ?_
      obtain ⟨r6, h7, hf⟩ := obs hf
      refine qrmI (cq_leafOf (l := l) (hfl := hfl) h7) (cw_m_leafOf hts ⟨by decide, by decide⟩) hx hb hml hown hts hK hB.1 hB.2.2 hZ hl.1 rfl rfl (lv_room (Nat.le_of_ble_eq_true rfl)) dm_load_87 ⟨by decide, by decide⟩ ?_
      refine lv_imul hx hb dm_load_90 ?_
      refine lv_iconst (v := 2) hx hb dm_load_91 (by decide) ?_
      refine lv_iadd hx hb dm_load_92 ?_
      refine lv_iconst (v := 2) hx hb dm_load_93 (by decide) ?_
      refine lv_iload_n hx hb dm_load_94 rfl (lv_at hl 2 rfl) ?_
      refine lv_imul hx hb dm_load_95 ?_
      refine lv_iadd hx hb dm_load_96 ?_
      obtain ⟨r8, er8, ir8, hf⟩ := rdL_some hf
      refine qbl_words hx hb hK hB.1 ir8 er8 dm_load_97 ?_
      obtain ⟨a9, ea9, ia9, hf⟩ := wrL_some hf
      refine qbt_values hx hb hK hB ia9 ea9 dm_load_98 (fun H locs hB => ?_)
      refine lv_iinc (v := (x2 + 1)) (lv' := [(2, .int (x2 + 1)), (0, .ref (gm 0)), (1, .int x1)]) hx hb dm_load_99 hl (k := 2) rfl rfl (by decide) rfl (fun ls hl => ?_)
      refine lv_goto (tgt := 33) hx hb dm_load_102 (by decide) ?_
      exact ih _ _ _ _ _ _ hB (lv_sub hl [1, 2, 0] rfl) hf
set_option maxRecDepth 100000 in
set_option maxHeartbeats 4000000 in
theorem wm_load_0 {p : Program} {l : Launch} {e : Env} {s : State} {m : MethodId} {args : Array Value} {below : List Frame} {meth : Method} {c : Code} {D : va_G} {gm : Nat → Nat} {ca : Nat → ClassId} {A : Nat → Prop} {st : MSt} (hX : MX p l e rmm_load s m args meth c D ca A km_load 3 (none)) (hB : MWd D gm ca A s.heap st s.heap []) (n : Nat) : ∀ (x1 : Int32) {st' : MSt} (ls : Array Slot), lv_has ls 3 [(0, .ref (gm 0)), (1, .int x1)] → fm_load n st x1 = some st' → W p l e rmm_load s m args below meth c s.heap [] 0 0 (MQX below (qmm_Q D gm ca A (XV) st') args s 0 0 A) (F0 m 0 ls []) := by
  obtain ⟨hx, hb, hml, hr, hlk, hown, hts, hK, htr, hZ, hnh, hA, hfl⟩ := id hX
  intro x1 st' ls hl hf
  rw [fm_load] at hf
  refine lv_aload_n hx hb dm_load_0 rfl (lv_at hl 0 rfl) ?_
  refine lv_iload_n hx hb dm_load_1 rfl (lv_at hl 1 rfl) ?_
  refine lv_iconst (v := (-1)) hx hb dm_load_2 (by decide) ?_
  refine lv_icmp_ne (tgt := 10) hx hb dm_load_3 (by decide) (fun c1 => ?_) (fun c1 => ?_)
  · have hf := ifn c1 hf
    refine lv_aload_n hx hb dm_load_10 rfl (lv_at hl 0 rfl) ?_
    refine qbg_words hx hb hown hts hK hB.1 dm_load_11 ?_
    refine lv_bipush (v := 16) hx hb dm_load_14 (by decide) ?_
    refine lv_aload_n hx hb dm_load_16 rfl (lv_at hl 0 rfl) ?_
    refine lv_aload_n hx hb dm_load_17 rfl (lv_at hl 0 rfl) ?_
    refine qbg_newest hx hb hown hts hK hB.1 dm_load_18 ?_
    refine lv_iload_n hx hb dm_load_21 rfl (lv_at hl 1 rfl) ?_
    obtain ⟨r2, h3, hf⟩ := obs hf
    refine qrmI (cq_leafOf (l := l) (hfl := hfl) h3) (cw_m_leafOf hts ⟨by decide, by decide⟩) hx hb hml hown hts hK hB.1 hB.2.2 hZ hl.1 rfl rfl (lv_room (Nat.le_of_ble_eq_true rfl)) dm_load_22 ⟨by decide, by decide⟩ ?_
    refine lv_imul hx hb dm_load_25 ?_
    obtain ⟨r4, er4, ir4, hf⟩ := rdL_some hf
    refine qbl_words hx hb hK hB.1 ir4 er4 dm_load_26 ?_
    refine lv_l2i hx hb dm_load_27 rfl ?_
    refine qbp_many hx hb hown hts hK hB dm_load_28 (fun H locs hB => ?_)
    refine lv_iconst (v := 0) hx hb dm_load_31 (by decide) ?_
    refine lv_istore_n (lv' := [(2, .int 0), (0, .ref (gm 0)), (1, .int x1)]) hx hb dm_load_32 rfl hl (by decide) rfl (fun ls hl => ?_)
    exact wm_load_33 hX n n _ _ _ _ _ _ hB (lv_sub hl [1, 2, 0] rfl) hf
  · have hf := ifp c1 hf
    refine lv_iconst (v := 0) hx hb dm_load_6 (by decide) ?_
    refine lv_goto (tgt := 28) hx hb dm_load_7 (by decide) ?_
    refine qbp_many hx hb hown hts hK hB dm_load_28 (fun H locs hB => ?_)
    refine lv_iconst (v := 0) hx hb dm_load_31 (by decide) ?_
    refine lv_istore_n (lv' := [(2, .int 0), (0, .ref (gm 0)), (1, .int x1)]) hx hb dm_load_32 rfl hl (by decide) rfl (fun ls hl => ?_)
    exact wm_load_33 hX n n _ _ _ _ _ _ hB (lv_sub hl [1, 2, 0] rfl) hf
set_option maxRecDepth 100000 in
set_option maxHeartbeats 4000000 in
theorem cq_load {l : Launch} (hfl : l.flags = flags0) {D : va_G} {gm : Nat → Nat} {ca : Nat → ClassId} {st : MSt} {n : Nat} {x1 : Int32} {st' : MSt} (hf : fm_load n st x1 = some st') : MMm l ym_load rmm_load D gm ca [.int x1] st (XV) st' :=
  MMm.of hfl (by decide +kernel) rfl mcm_load (fun p e s m below meth c A _ hX hB => wm_load_0 hX hB n _ _ (lv_entry _ (Nat.le_of_ble_eq_true rfl)) hf)
