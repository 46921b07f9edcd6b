set_option maxRecDepth 100000 in
set_option maxHeartbeats 4000000 in
theorem wm_crash_57 {p : Program} {l : Launch} {e : Env} {s : State} {m : MethodId} {args : Array Value} {below : List Frame} {meth : Method} {c : Code} {D : va_G} {gm : Nat → Nat} {ca : Nat → ClassId} {A : Nat → Prop} (hX : MX p l e rmm_crash s m args meth c D ca A km_crash 4 (some .int)) (n : Nat) :∀ (k : Nat), ∀ (st : MSt) (x1 : Int32) (x2 : Int32) (x3 : Int32) {r : Int32} {st' : MSt} (ls : Array Slot) (H : Heap) (locs : List Loc), MWd D gm ca A s.heap st H locs → lv_has ls 4 [(0, .ref (gm 0)), (1, .int x1), (2, .int x2), (3, .int x3)] → fm_crash_57 n k st x1 x2 x3 = some (r, st') → W p l e rmm_crash s m args below meth c H locs 0 0 (MQX below (qmm_Q D gm ca A (XI r) st') args s 0 0 A) (F0 m 57 ls []) := by
  obtain ⟨hx, hb, hml, hr, hlk, hown, hts, hK, htr, hZ, hnh, hA, hfl⟩ := id hX
  intro k
  induction k with
  | zero =>
    intro st x1 x2 x3 r st' ls H locs hB hl hf
    rw [fm_crash_57] at hf
    cases hf
  | succ k ih =>
    intro st x1 x2 x3 r st' ls H locs hB hl hf
    rw [fm_crash_57] at hf
    refine lv_iload_n hx hb dm_crash_57 rfl (lv_at hl 3 rfl) ?_
    refine lv_iload_n hx hb dm_crash_58 rfl (lv_at hl 1 rfl) ?_
    refine lv_icmp_lt (tgt := 85) hx hb dm_crash_59 (by decide) (fun c1 => ?_) (fun c1 => ?_)
    · have hf := ifp c1 hf
      refine lv_aload_n hx hb dm_crash_85 rfl (lv_at hl 0 rfl) ?_
      refine lv_iconst (v := 1) hx hb dm_crash_86 (by decide) ?_
      refine qbp_closed hx hb hown hts hK hB rfl rfl dm_crash_87 (fun H locs hB => ?_)
      refine lv_iload_n hx hb dm_crash_90 rfl (lv_at hl 2 rfl) ?_
      cases hf
      exact qem_i hx hb hr hlk hB dm_crash_91
    · have hf := ifn c1 hf
      refine lv_aload_n hx hb dm_crash_62 rfl (lv_at hl 0 rfl) ?_
      refine qbg_words hx hb hown hts hK hB.1 dm_crash_63 ?_
      refine lv_aload_n hx hb dm_crash_66 rfl (lv_at hl 0 rfl) ?_
      refine qbg_places hx hb hown hts hK hB.1 dm_crash_67 ?_
      refine lv_iload_n hx hb dm_crash_70 rfl (lv_at hl 3 rfl) ?_
      obtain ⟨r2, er2, ir2, hf⟩ := rdI_some hf
      refine qbl_places hx hb hK hB.1 ir2 er2 dm_crash_71 ?_
      refine lv_aload_n hx hb dm_crash_72 rfl (lv_at hl 0 rfl) ?_
      refine qbg_before hx hb hown hts hK hB.1 dm_crash_73 ?_
      refine lv_iload_n hx hb dm_crash_76 rfl (lv_at hl 3 rfl) ?_
      obtain ⟨r3, er3, ir3, hf⟩ := rdL_some hf
      refine qbl_before hx hb hK hB.1 ir3 er3 dm_crash_77 ?_
      obtain ⟨a4, ea4, ia4, hf⟩ := wrL_some hf
      refine qbt_words hx hb hK hB ia4 ea4 dm_crash_78 (fun H locs hB => ?_)
      refine lv_iinc (v := (x3 + (-1))) (lv' := [(3, .int (x3 + (-1))), (0, .ref (gm 0)), (1, .int x1), (2, .int x2)]) hx hb dm_crash_79 hl (k := 3) rfl rfl (by decide) rfl (fun ls hl => ?_)
      refine lv_goto (tgt := 57) hx hb dm_crash_82 (by decide) ?_
      exact ih _ _ _ _ _ _ _ hB (lv_sub hl [1, 2, 3, 0] rfl) hf
set_option maxRecDepth 100000 in
set_option maxHeartbeats 4000000 in
theorem wm_crash_23 {p : Program} {l : Launch} {e : Env} {s : State} {m : MethodId} {args : Array Value} {below : List Frame} {meth : Method} {c : Code} {D : va_G} {gm : Nat → Nat} {ca : Nat → ClassId} {A : Nat → Prop} {st : MSt} (hX : MX p l e rmm_crash s m args meth c D ca A km_crash 4 (some .int)) (hB : MWd D gm ca A s.heap st s.heap []) (n : Nat) : ∀ (x1 : Int32) {r : Int32} {st' : MSt} (ls : Array Slot), lv_has ls 4 [(0, .ref (gm 0)), (1, .int x1)] → fm_crash_23 n st x1 = some (r, st') → W p l e rmm_crash s m args below meth c s.heap [] 0 0 (MQX below (qmm_Q D gm ca A (XI r) st') args s 0 0 A) (F0 m 23 ls [.ref (gm 0)]) := by
  obtain ⟨hx, hb, hml, hr, hlk, hown, hts, hK, htr, hZ, hnh, hA, hfl⟩ := id hX
  intro x1 r st' ls hl hf
  rw [fm_crash_23] at hf
  refine lv_iconst (v := 1) hx hb dm_crash_23 (by decide) ?_
  refine lv_goto (tgt := 36) hx hb dm_crash_24 (by decide) ?_
  refine qbp_thrown hx hb hown hts hK hB dm_crash_36 (fun H locs hB => ?_)
  refine lv_aload_n hx hb dm_crash_39 rfl (lv_at hl 0 rfl) ?_
  refine qbg_thrown hx hb hown hts hK hB.1 dm_crash_40 ?_
  refine lv_if_le (tgt := 48) hx hb dm_crash_43 (by decide) (fun c1 => ?_) (fun c1 => ?_)
  · exact absurd c1 (show ¬ ((1 : Int32) ≤ 0) by decide)
  · skip
    refine lv_iconst (v := 0) hx hb dm_crash_46 (by decide) ?_
    cases hf
    exact qem_i hx hb hr hlk hB dm_crash_47
set_option maxRecDepth 100000 in
set_option maxHeartbeats 4000000 in
theorem wm_crash_0 {p : Program} {l : Launch} {e : Env} {s : State} {m : MethodId} {args : Array Value} {below : List Frame} {meth : Method} {c : Code} {D : va_G} {gm : Nat → Nat} {ca : Nat → ClassId} {A : Nat → Prop} {st : MSt} (hX : MX p l e rmm_crash s m args meth c D ca A km_crash 4 (some .int)) (hB : MWd D gm ca A s.heap st s.heap []) (n : Nat) : ∀ (x1 : Int32) {r : Int32} {st' : MSt} (ls : Array Slot), lv_has ls 4 [(0, .ref (gm 0)), (1, .int x1)] → fm_crash n st x1 = some (r, st') → W p l e rmm_crash s m args below meth c s.heap [] 0 0 (MQX below (qmm_Q D gm ca A (XI r) st') args s 0 0 A) (F0 m 0 ls []) := by
  obtain ⟨hx, hb, hml, hr, hlk, hown, hts, hK, htr, hZ, hnh, hA, hfl⟩ := id hX
  intro x1 r st' ls hl hf
  rw [fm_crash] at hf
  refine lv_aload_n hx hb dm_crash_0 rfl (lv_at hl 0 rfl) ?_
  refine lv_aload_n hx hb dm_crash_1 rfl (lv_at hl 0 rfl) ?_
  refine qbg_closed hx hb hown hts hK hB.1 dm_crash_2 ?_
  refine lv_if_ne (tgt := 23) hx hb dm_crash_5 (by decide) (fun c1 => ?_) (fun c1 => ?_)
  · have hf := ifn c1 hf
    exact wm_crash_23 hX hB n _ _ (lv_sub hl [0, 1] rfl) hf
  · have hf := ifp c1 hf
    refine lv_aload_n hx hb dm_crash_8 rfl (lv_at hl 0 rfl) ?_
    refine qbg_written hx hb hown hts hK hB.1 dm_crash_9 ?_
    refine lv_iconst (v := (-1)) hx hb dm_crash_12 (by decide) ?_
    refine lv_icmp_eq (tgt := 23) hx hb dm_crash_13 (by decide) (fun c2 => ?_) (fun c2 => ?_)
    · have hf := ifp c2 hf
      exact wm_crash_23 hX hB n _ _ (lv_sub hl [0, 1] rfl) hf
    · have hf := ifn c2 hf
      refine lv_aload_n hx hb dm_crash_16 rfl (lv_at hl 0 rfl) ?_
      refine qbg_altered hx hb hown hts hK hB.1 dm_crash_17 ?_
      refine lv_if_eq (tgt := 27) hx hb dm_crash_20 (by decide) (fun c3 => ?_) (fun c3 => ?_)
      · have hf := ifp c3 hf
        refine lv_iload_n hx hb dm_crash_27 rfl (lv_at hl 1 rfl) ?_
        refine lv_if_ge (tgt := 35) hx hb dm_crash_28 (by decide) (fun c4 => ?_) (fun c4 => ?_)
        · have hf := ifp c4 hf
          refine lv_iconst (v := 0) hx hb dm_crash_35 (by decide) ?_
          refine qbp_thrown hx hb hown hts hK hB dm_crash_36 (fun H locs hB => ?_)
          refine lv_aload_n hx hb dm_crash_39 rfl (lv_at hl 0 rfl) ?_
          refine qbg_thrown hx hb hown hts hK hB.1 dm_crash_40 ?_
          refine lv_if_le (tgt := 48) hx hb dm_crash_43 (by decide) (fun c5 => ?_) (fun c5 => ?_)
          · skip
            refine lv_aload_n hx hb dm_crash_48 rfl (lv_at hl 0 rfl) ?_
            refine qbg_written hx hb hown hts hK hB.1 dm_crash_49 ?_
            refine lv_istore_n (lv' := [(2, .int (qbs_written st)), (0, .ref (gm 0)), (1, .int x1)]) hx hb dm_crash_52 rfl hl (by decide) rfl (fun ls hl => ?_)
            refine lv_iload_n hx hb dm_crash_53 rfl (lv_at hl 0 rfl) ?_
            refine lv_iconst (v := 1) hx hb dm_crash_54 (by decide) ?_
            refine lv_isub hx hb dm_crash_55 ?_
            refine lv_istore_n (lv' := [(3, .int ((qbs_written st) - 1)), (2, .int (qbs_written st)), (0, .ref (gm 0)), (1, .int x1)]) hx hb dm_crash_56 rfl hl (by decide) rfl (fun ls hl => ?_)
            exact wm_crash_57 hX n n _ _ _ _ _ _ _ hB (lv_sub hl [2, 3, 1, 0] rfl) hf
          · exact absurd (show (0 : Int32) ≤ 0 by decide) c5
        · have hf := ifn c4 hf
          refine lv_iconst (v := 2) hx hb dm_crash_31 (by decide) ?_
          refine lv_goto (tgt := 36) hx hb dm_crash_32 (by decide) ?_
          refine qbp_thrown hx hb hown hts hK hB dm_crash_36 (fun H locs hB => ?_)
          refine lv_aload_n hx hb dm_crash_39 rfl (lv_at hl 0 rfl) ?_
          refine qbg_thrown hx hb hown hts hK hB.1 dm_crash_40 ?_
          refine lv_if_le (tgt := 48) hx hb dm_crash_43 (by decide) (fun c6 => ?_) (fun c6 => ?_)
          · exact absurd c6 (show ¬ ((2 : Int32) ≤ 0) by decide)
          · skip
            refine lv_iconst (v := 0) hx hb dm_crash_46 (by decide) ?_
            cases hf
            exact qem_i hx hb hr hlk hB dm_crash_47
      · have hf := ifn c3 hf
        exact wm_crash_23 hX hB n _ _ (lv_sub hl [0, 1] rfl) hf
set_option maxRecDepth 100000 in
set_option maxHeartbeats 4000000 in
theorem cq_crash {l : Launch} (hfl : l.flags = flags0) {D : va_G} {gm : Nat → Nat} {ca : Nat → ClassId} {st : MSt} {n : Nat} {x1 : Int32} {r : Int32} {st' : MSt} (hf : fm_crash n st x1 = some (r, st')) : MMm l ym_crash rmm_crash D gm ca [.int x1] st (XI r) st' :=
  MMm.of hfl (by decide +kernel) rfl mcm_crash (fun p e s m below meth c A _ hX hB => wm_crash_0 hX hB n _ _ (lv_entry _ (Nat.le_of_ble_eq_true rfl)) hf)
set_option maxRecDepth 100000 in
set_option maxHeartbeats 4000000 in
theorem wm_reopen_101 {p : Program} {l : Launch} {e : Env} {s : State} {m : MethodId} {args : Array Value} {below : List Frame} {meth : Method} {c : Code} {D : va_G} {gm : Nat → Nat} {ca : Nat → ClassId} {A : Nat → Prop} (hX : MX p l e rmm_reopen s m args meth c D ca A km_reopen 4 (some .int)) (n : Nat) :∀ (k : Nat), ∀ (st : MSt) (x1 : Int32) {r : Int32} {st' : MSt} (ls : Array Slot) (H : Heap) (locs : List Loc), MWd D gm ca A s.heap st H locs → lv_has ls 4 [(0, .ref (gm 0)), (1, .int x1)] → fm_reopen_101 n k st x1 = some (r, st') → W p l e rmm_reopen s m args below meth c H locs 0 0 (MQX below (qmm_Q D gm ca A (XI r) st') args s 0 0 A) (F0 m 101 ls []) := by
  obtain ⟨hx, hb, hml, hr, hlk, hown, hts, hK, htr, hZ, hnh, hA, hfl⟩ := id hX
  intro k
  induction k with
  | zero =>
    intro st x1 r st' ls H locs hB hl hf
    rw [fm_reopen_101] at hf
    cases hf
  | succ k ih =>
    intro st x1 r st' ls H locs hB hl hf
    rw [fm_reopen_101] at hf
    refine lv_iload_n hx hb dm_reopen_101 rfl (lv_at hl 1 rfl) ?_
    refine lv_bipush (v := 19) hx hb dm_reopen_102 (by decide) ?_
    refine lv_icmp_ge (tgt := 124) hx hb dm_reopen_104 (by decide) (fun c1 => ?_) (fun c1 => ?_)
    · have hf := ifp c1 hf
      refine lv_aload_n hx hb dm_reopen_124 rfl (lv_at hl 0 rfl) ?_
      refine qbg_words hx hb hown hts hK hB.1 dm_reopen_125 ?_
      refine lv_sipush (v := 1043) hx hb dm_reopen_128 (by decide) ?_
      refine lv_aload_n hx hb dm_reopen_131 rfl (lv_at hl 0 rfl) ?_
      refine lv_sipush (v := 1024) hx hb dm_reopen_132 (by decide) ?_
      refine lv_bipush (v := 19) hx hb dm_reopen_135 (by decide) ?_
      obtain ⟨r2, h3, hf⟩ := obs hf
      refine qrmL (cq_sum (l := l) (hfl := hfl) h3) (cw_m_sum hts ⟨by decide, by decide⟩) hx hb hml hown hts hK hB.1 hB.2.2 hZ hl.1 rfl rfl (lv_room (Nat.le_of_ble_eq_true rfl)) dm_reopen_137 ⟨by decide, by decide⟩ ?_
      obtain ⟨a4, ea4, ia4, hf⟩ := wrL_some hf
      refine qbt_words hx hb hK hB ia4 ea4 dm_reopen_140 (fun H locs hB => ?_)
      refine lv_aload_n hx hb dm_reopen_141 rfl (lv_at hl 0 rfl) ?_
      refine lv_iconst (v := 0) hx hb dm_reopen_142 (by decide) ?_
      refine qbp_newest hx hb hown hts hK hB dm_reopen_143 (fun H locs hB => ?_)
      refine lv_aload_n hx hb dm_reopen_146 rfl (lv_at hl 0 rfl) ?_
      refine lv_iconst (v := 0) hx hb dm_reopen_147 (by decide) ?_
      refine qbp_closed hx hb hown hts hK hB rfl rfl dm_reopen_148 (fun H locs hB => ?_)
      refine lv_aload_n hx hb dm_reopen_151 rfl (lv_at hl 0 rfl) ?_
      refine lv_iconst (v := (-1)) hx hb dm_reopen_152 (by decide) ?_
      refine qbp_written hx hb hown hts hK hB dm_reopen_153 (fun H locs hB => ?_)
      refine lv_aload_n hx hb dm_reopen_156 rfl (lv_at hl 0 rfl) ?_
      refine qbg_newest hx hb hown hts hK hB.1 dm_reopen_157 ?_
      cases hf
      exact qem_i hx hb hr hlk hB dm_reopen_160
    · have hf := ifn c1 hf
      refine lv_aload_n hx hb dm_reopen_107 rfl (lv_at hl 0 rfl) ?_
      refine qbg_words hx hb hown hts hK hB.1 dm_reopen_108 ?_
      refine lv_sipush (v := 1024) hx hb dm_reopen_111 (by decide) ?_
      refine lv_iload_n hx hb dm_reopen_114 rfl (lv_at hl 1 rfl) ?_
      refine lv_iadd hx hb dm_reopen_115 ?_
      refine lv_lconst (v := 0) hx hb dm_reopen_116 (by decide) ?_
      obtain ⟨a5, ea5, ia5, hf⟩ := wrL_some hf
      refine qbt_words hx hb hK hB ia5 ea5 dm_reopen_117 (fun H locs hB => ?_)
      refine lv_iinc (v := (x1 + 1)) (lv' := [(1, .int (x1 + 1)), (0, .ref (gm 0))]) hx hb dm_reopen_118 hl (k := 1) rfl rfl (by decide) rfl (fun ls hl => ?_)
      refine lv_goto (tgt := 101) hx hb dm_reopen_121 (by decide) ?_
      exact ih _ _ _ _ _ hB (lv_sub hl [1, 0] rfl) hf
set_option maxRecDepth 100000 in
set_option maxHeartbeats 4000000 in
theorem wm_reopen_12 {p : Program} {l : Launch} {e : Env} {s : State} {m : MethodId} {args : Array Value} {below : List Frame} {meth : Method} {c : Code} {D : va_G} {gm : Nat → Nat} {ca : Nat → ClassId} {A : Nat → Prop} (hX : MX p l e rmm_reopen s m args meth c D ca A km_reopen 4 (some .int)) (n : Nat) :∀ (k : Nat), ∀ (st : MSt) (x1 : Int32) {r : Int32} {st' : MSt} (ls : Array Slot) (H : Heap) (locs : List Loc), MWd D gm ca A s.heap st H locs → lv_has ls 4 [(0, .ref (gm 0)), (1, .int x1)] → fm_reopen_12 n k st x1 = some (r, st') → W p l e rmm_reopen s m args below meth c H locs 0 0 (MQX below (qmm_Q D gm ca A (XI r) st') args s 0 0 A) (F0 m 12 ls []) := by
  obtain ⟨hx, hb, hml, hr, hlk, hown, hts, hK, htr, hZ, hnh, hA, hfl⟩ := id hX
  intro k
  induction k with
  | zero =>
    intro st x1 r st' ls H locs hB hl hf
    rw [fm_reopen_12] at hf
    cases hf
  | succ k ih =>
    intro st x1 r st' ls H locs hB hl hf
    rw [fm_reopen_12] at hf
    refine lv_iload_n hx hb dm_reopen_12 rfl (lv_at hl 1 rfl) ?_
    refine lv_bipush (v := 8) hx hb dm_reopen_13 (by decide) ?_
    refine lv_icmp_ge (tgt := 91) hx hb dm_reopen_15 (by decide) (fun c1 => ?_) (fun c1 => ?_)
    · have hf := ifp c1 hf
      refine lv_aload_n hx hb dm_reopen_91 rfl (lv_at hl 0 rfl) ?_
      refine qbg_newest hx hb hown hts hK hB.1 dm_reopen_92 ?_
      refine lv_iconst (v := (-1)) hx hb dm_reopen_95 (by decide) ?_
      refine lv_icmp_ne (tgt := 146) hx hb dm_reopen_96 (by decide) (fun c2 => ?_) (fun c2 => ?_)
      · have hf := ifn c2 hf
        refine lv_aload_n hx hb dm_reopen_146 rfl (lv_at hl 0 rfl) ?_
        refine lv_iconst (v := 0) hx hb dm_reopen_147 (by decide) ?_
        refine qbp_closed hx hb hown hts hK hB rfl rfl dm_reopen_148 (fun H locs hB => ?_)
        refine lv_aload_n hx hb dm_reopen_151 rfl (lv_at hl 0 rfl) ?_
        refine lv_iconst (v := (-1)) hx hb dm_reopen_152 (by decide) ?_
        refine qbp_written hx hb hown hts hK hB dm_reopen_153 (fun H locs hB => ?_)
        refine lv_aload_n hx hb dm_reopen_156 rfl (lv_at hl 0 rfl) ?_
        refine qbg_newest hx hb hown hts hK hB.1 dm_reopen_157 ?_
        cases hf
        exact qem_i hx hb hr hlk hB dm_reopen_160
      · have hf := ifp c2 hf
        refine lv_iconst (v := 0) hx hb dm_reopen_99 (by decide) ?_
        refine lv_istore_n (lv' := [(1, .int 0), (0, .ref (gm 0))]) hx hb dm_reopen_100 rfl hl (by decide) rfl (fun ls hl => ?_)
        exact wm_reopen_101 hX n n _ _ _ _ _ hB (lv_sub hl [1, 0] rfl) hf
    · have hf := ifn c1 hf
      refine lv_aload_n hx hb dm_reopen_18 rfl (lv_at hl 0 rfl) ?_
      refine qbg_words hx hb hown hts hK hB.1 dm_reopen_19 ?_
      refine lv_sipush (v := 1024) hx hb dm_reopen_22 (by decide) ?_
      refine lv_bipush (v := 20) hx hb dm_reopen_25 (by decide) ?_
      refine lv_iload_n hx hb dm_reopen_27 rfl (lv_at hl 1 rfl) ?_
      refine lv_imul hx hb dm_reopen_28 ?_
      refine lv_iadd hx hb dm_reopen_29 ?_
      obtain ⟨r3, er3, ir3, hf⟩ := rdL_some hf
      refine qbl_words hx hb hK hB.1 ir3 er3 dm_reopen_30 ?_
      refine lv_lstore_n (lv' := [(2, .long r3), (0, .ref (gm 0)), (1, .int x1)]) hx hb dm_reopen_31 rfl hl (by decide) rfl (fun ls hl => ?_)
      refine lv_aload_n hx hb dm_reopen_32 rfl (lv_at hl 1 rfl) ?_
      refine lv_lload_n hx hb dm_reopen_33 rfl (lv_at hl 0 rfl) ?_
      refine lv_lconst (v := 0) hx hb dm_reopen_34 (by decide) ?_
      refine lv_ldc2 (v := 1000000000) hx hb hown (kcm_150 hts) dm_reopen_35 ?_
      obtain ⟨r4, h5, hf⟩ := obs hf
      refine smI (cq_isIn (l := l) (hfl := hfl) h5) (cw_m_isIn hts ⟨by decide, by decide⟩) hx hb hml hown hts hl.1 rfl rfl (lv_room (Nat.le_of_ble_eq_true rfl)) dm_reopen_38 ⟨by decide, by decide⟩ ?_
      refine lv_if_eq (tgt := 78) hx hb dm_reopen_41 (by decide) (fun c6 => ?_) (fun c6 => ?_)
      · have hf := ifp c6 hf
        refine lv_aload_n hx hb dm_reopen_78 rfl (lv_at hl 1 rfl) ?_
        refine qbg_newest hx hb hown hts hK hB.1 dm_reopen_79 ?_
        refine qbp_newest hx hb hown hts hK hB dm_reopen_82 (fun H locs hB => ?_)
        refine lv_iinc (v := (x1 + 1)) (lv' := [(1, .int (x1 + 1)), (2, .long r3), (0, .ref (gm 0))]) hx hb dm_reopen_85 hl (k := 2) rfl rfl (by decide) rfl (fun ls hl => ?_)
        refine lv_goto (tgt := 12) hx hb dm_reopen_88 (by decide) ?_
        exact ih _ _ _ _ _ hB (lv_sub hl [2, 0] rfl) hf
      · have hf := ifn c6 hf
        refine lv_lload_n hx hb dm_reopen_44 rfl (lv_at hl 0 rfl) ?_
        refine lv_ldc2 (v := 8) hx hb hown (kcm_152 hts) dm_reopen_45 ?_
        refine lv_lrem hx hb dm_reopen_48 (by decide) ?_
        refine lv_iload_n hx hb dm_reopen_49 rfl (lv_at hl 2 rfl) ?_
        refine lv_i2l hx hb dm_reopen_50 rfl ?_
        refine W.lcmp hx hb dm_reopen_51 ?_
        refine lv_if_ne (tgt := 78) hx hb dm_reopen_52 (by decide) (fun c7 => ?_) (fun c7 => ?_)
        · have hf := ifn c7 hf
          refine lv_aload_n hx hb dm_reopen_78 rfl (lv_at hl 1 rfl) ?_
          refine qbg_newest hx hb hown hts hK hB.1 dm_reopen_79 ?_
          refine qbp_newest hx hb hown hts hK hB dm_reopen_82 (fun H locs hB => ?_)
          refine lv_iinc (v := (x1 + 1)) (lv' := [(1, .int (x1 + 1)), (2, .long r3), (0, .ref (gm 0))]) hx hb dm_reopen_85 hl (k := 2) rfl rfl (by decide) rfl (fun ls hl => ?_)
          refine lv_goto (tgt := 12) hx hb dm_reopen_88 (by decide) ?_
          exact ih _ _ _ _ _ hB (lv_sub hl [2, 0] rfl) hf
        · have hf := ifp c7 hf
          refine lv_lload_n hx hb dm_reopen_55 rfl (lv_at hl 0 rfl) ?_
          refine lv_aload_n hx hb dm_reopen_56 rfl (lv_at hl 1 rfl) ?_
          refine qbg_newest hx hb hown hts hK hB.1 dm_reopen_57 ?_
          refine lv_i2l hx hb dm_reopen_60 rfl ?_
          refine W.lcmp hx hb dm_reopen_61 ?_
          refine lv_if_le (tgt := 78) hx hb dm_reopen_62 (by decide) (fun c8 => ?_) (fun c8 => ?_)
          · have hf := ifp c8 hf
            refine lv_aload_n hx hb dm_reopen_78 rfl (lv_at hl 1 rfl) ?_
            refine qbg_newest hx hb hown hts hK hB.1 dm_reopen_79 ?_
            refine qbp_newest hx hb hown hts hK hB dm_reopen_82 (fun H locs hB => ?_)
            refine lv_iinc (v := (x1 + 1)) (lv' := [(1, .int (x1 + 1)), (2, .long r3), (0, .ref (gm 0))]) hx hb dm_reopen_85 hl (k := 2) rfl rfl (by decide) rfl (fun ls hl => ?_)
            refine lv_goto (tgt := 12) hx hb dm_reopen_88 (by decide) ?_
            exact ih _ _ _ _ _ hB (lv_sub hl [2, 0] rfl) hf
          · have hf := ifn c8 hf
            refine lv_aload_n hx hb dm_reopen_65 rfl (lv_at hl 1 rfl) ?_
            refine lv_iload_n hx hb dm_reopen_66 rfl (lv_at hl 2 rfl) ?_
            obtain ⟨r9, h10, hf⟩ := obs hf
            refine qrmI (cq_isRightRoot (l := l) (hfl := hfl) h10) (cw_m_isRightRoot hts ⟨by decide, by decide⟩) hx hb hml hown hts hK hB.1 hB.2.2 hZ hl.1 rfl rfl (lv_room (Nat.le_of_ble_eq_true rfl)) dm_reopen_67 ⟨by decide, by decide⟩ ?_
            refine lv_if_eq (tgt := 78) hx hb dm_reopen_70 (by decide) (fun c11 => ?_) (fun c11 => ?_)
            · have hf := ifp c11 hf
              refine lv_aload_n hx hb dm_reopen_78 rfl (lv_at hl 1 rfl) ?_
              refine qbg_newest hx hb hown hts hK hB.1 dm_reopen_79 ?_
              refine qbp_newest hx hb hown hts hK hB dm_reopen_82 (fun H locs hB => ?_)
              refine lv_iinc (v := (x1 + 1)) (lv' := [(1, .int (x1 + 1)), (2, .long r3), (0, .ref (gm 0))]) hx hb dm_reopen_85 hl (k := 2) rfl rfl (by decide) rfl (fun ls hl => ?_)
              refine lv_goto (tgt := 12) hx hb dm_reopen_88 (by decide) ?_
              exact ih _ _ _ _ _ hB (lv_sub hl [2, 0] rfl) hf
            · have hf := ifn c11 hf
              refine lv_lload_n hx hb dm_reopen_73 rfl (lv_at hl 0 rfl) ?_
              refine lv_l2i hx hb dm_reopen_74 rfl ?_
              refine lv_goto (tgt := 82) hx hb dm_reopen_75 (by decide) ?_
              refine qbp_newest hx hb hown hts hK hB dm_reopen_82 (fun H locs hB => ?_)
              refine lv_iinc (v := (x1 + 1)) (lv' := [(1, .int (x1 + 1)), (2, .long r3), (0, .ref (gm 0))]) hx hb dm_reopen_85 hl (k := 2) rfl rfl (by decide) rfl (fun ls hl => ?_)
              refine lv_goto (tgt := 12) hx hb dm_reopen_88 (by decide) ?_
              exact ih _ _ _ _ _ hB (lv_sub hl [2, 0] rfl) hf
set_option maxRecDepth 100000 in
set_option maxHeartbeats 4000000 in
theorem wm_reopen_0 {p : Program} {l : Launch} {e : Env} {s : State} {m : MethodId} {args : Array Value} {below : List Frame} {meth : Method} {c : Code} {D : va_G} {gm : Nat → Nat} {ca : Nat → ClassId} {A : Nat → Prop} {st : MSt} (hX : MX p l e rmm_reopen s m args meth c D ca A km_reopen 4 (some .int)) (hB : MWd D gm ca A s.heap st s.heap []) (n : Nat) : ∀ {r : Int32} {st' : MSt} (ls : Array Slot), lv_has ls 4 [(0, .ref (gm 0))] → fm_reopen n st = some (r, st') → W p l e rmm_reopen s m args below meth c s.heap [] 0 0 (MQX below (qmm_Q D gm ca A (XI r) st') args s 0 0 A) (F0 m 0 ls []) := by
  obtain ⟨hx, hb, hml, hr, hlk, hown, hts, hK, htr, hZ, hnh, hA, hfl⟩ := id hX
  intro r st' ls hl hf
  rw [fm_reopen] at hf
  refine lv_aload_n hx hb dm_reopen_0 rfl (lv_at hl 0 rfl) ?_
  refine lv_iconst (v := 0) hx hb dm_reopen_1 (by decide) ?_
  refine qbp_thrown hx hb hown hts hK hB dm_reopen_2 (fun H locs hB => ?_)
  refine lv_aload_n hx hb dm_reopen_5 rfl (lv_at hl 0 rfl) ?_
  refine lv_iconst (v := (-1)) hx hb dm_reopen_6 (by decide) ?_
  refine qbp_newest hx hb hown hts hK hB dm_reopen_7 (fun H locs hB => ?_)
  refine lv_iconst (v := 0) hx hb dm_reopen_10 (by decide) ?_
  refine lv_istore_n (lv' := [(1, .int 0), (0, .ref (gm 0))]) hx hb dm_reopen_11 rfl hl (by decide) rfl (fun ls hl => ?_)
  exact wm_reopen_12 hX n n _ _ _ _ _ hB (lv_sub hl [1, 0] rfl) hf
set_option maxRecDepth 100000 in
set_option maxHeartbeats 4000000 in
theorem cq_reopen {l : Launch} (hfl : l.flags = flags0) {D : va_G} {gm : Nat → Nat} {ca : Nat → ClassId} {st : MSt} {n : Nat} {r : Int32} {st' : MSt} (hf : fm_reopen n st = some (r, st')) : MMm l ym_reopen rmm_reopen D gm ca [] st (XI r) st' :=
  MMm.of hfl (by decide +kernel) rfl mcm_reopen (fun p e s m below meth c A _ hX hB => wm_reopen_0 hX hB n _ (lv_entry _ (Nat.le_of_ble_eq_true rfl)) hf)
set_option maxRecDepth 100000 in
set_option maxHeartbeats 4000000 in
theorem wm_noWord_0 {p : Program} {l : Launch} {e : Env} {s : State} {m : MethodId} {args : Array Value} {below : List Frame} {meth : Method} {c : Code} {D : va_G} {gm : Nat → Nat} {ca : Nat → ClassId} {A : Nat → Prop} {st : MSt} (hX : MX p l e rmm_noWord s m args meth c D ca A km_noWord 3 (some .boolean)) (hP : va_P D vwCl (wM gm ca st) s.heap) (n : Nat) : ∀ (x1 : Int32) (x2 : Int32) {r : Int32} (ls : Array Slot), lv_has ls 3 [(0, .ref (gm 0)), (1, .int x1), (2, .int x2)] → fm_noWord n st x1 x2 = some r → W p l e rmm_noWord s m args below meth c s.heap [] 0 0 (MQX below (xx_Q (XI r)) args s 0 0 (fun _ => False)) (F0 m 0 ls []) := by
  obtain ⟨hx, hb, hml, hr, hlk, hown, hts, hK, htr, hZ, hnh, hA, hfl⟩ := id hX
  intro x1 x2 r ls hl hf
  rw [fm_noWord] at hf
  refine lv_iload_n hx hb dm_noWord_0 rfl (lv_at hl 1 rfl) ?_
  refine lv_if_lt (tgt := 22) hx hb dm_noWord_1 (by decide) (fun c1 => ?_) (fun c1 => ?_)
  · have hf := ifp c1 hf
    refine lv_iconst (v := 1) hx hb dm_noWord_22 (by decide) ?_
    refine lv_goto (tgt := 27) hx hb dm_noWord_23 (by decide) ?_
    cases hf
    exact er_z hx hb hr hlk rfl dm_noWord_27
  · have hf := ifn c1 hf
    refine lv_iload_n hx hb dm_noWord_4 rfl (lv_at hl 1 rfl) ?_
    refine lv_aload_n hx hb dm_noWord_5 rfl (lv_at hl 0 rfl) ?_
    refine qbg_pages hx hb hown hts hK hP dm_noWord_6 ?_
    refine lv_icmp_ge (tgt := 22) hx hb dm_noWord_9 (by decide) (fun c2 => ?_) (fun c2 => ?_)
    · have hf := ifp c2 hf
      refine lv_iconst (v := 1) hx hb dm_noWord_22 (by decide) ?_
      refine lv_goto (tgt := 27) hx hb dm_noWord_23 (by decide) ?_
      cases hf
      exact er_z hx hb hr hlk rfl dm_noWord_27
    · have hf := ifn c2 hf
      refine lv_iload_n hx hb dm_noWord_12 rfl (lv_at hl 2 rfl) ?_
      refine lv_if_lt (tgt := 22) hx hb dm_noWord_13 (by decide) (fun c3 => ?_) (fun c3 => ?_)
      · have hf := ifp c3 hf
        refine lv_iconst (v := 1) hx hb dm_noWord_22 (by decide) ?_
        refine lv_goto (tgt := 27) hx hb dm_noWord_23 (by decide) ?_
        cases hf
        exact er_z hx hb hr hlk rfl dm_noWord_27
      · have hf := ifn c3 hf
        refine lv_iload_n hx hb dm_noWord_16 rfl (lv_at hl 2 rfl) ?_
        refine lv_bipush (v := 16) hx hb dm_noWord_17 (by decide) ?_
        refine lv_icmp_lt (tgt := 26) hx hb dm_noWord_19 (by decide) (fun c4 => ?_) (fun c4 => ?_)
        · have hf := ifp c4 hf
          refine lv_iconst (v := 0) hx hb dm_noWord_26 (by decide) ?_
          cases hf
          exact er_z hx hb hr hlk rfl dm_noWord_27
        · have hf := ifn c4 hf
          refine lv_iconst (v := 1) hx hb dm_noWord_22 (by decide) ?_
          refine lv_goto (tgt := 27) hx hb dm_noWord_23 (by decide) ?_
          cases hf
          exact er_z hx hb hr hlk rfl dm_noWord_27
set_option maxRecDepth 100000 in
set_option maxHeartbeats 4000000 in
theorem cq_noWord {l : Launch} (hfl : l.flags = flags0) {D : va_G} {gm : Nat → Nat} {ca : Nat → ClassId} {st : MSt} {n : Nat} {x1 : Int32} {x2 : Int32} {r : Int32} (hf : fm_noWord n st x1 x2 = some r) : RMm l ym_noWord rmm_noWord D gm ca [.int x1, .int x2] st (XI r) :=
  RMm.of hfl (by decide +kernel) rfl mcm_noWord (fun p e s m below meth c hX hP => wm_noWord_0 hX hP n _ _ _ (lv_entry _ (Nat.le_of_ble_eq_true rfl)) hf)
set_option maxRecDepth 100000 in
set_option maxHeartbeats 4000000 in
theorem wm_noRoot_0 {p : Program} {l : Launch} {e : Env} {s : State} {m : MethodId} {args : Array Value} {below : List Frame} {meth : Method} {c : Code} (hX : p.tables.exec = Jvm.exec ∧ c.code = km_noRoot ∧ c.maxLocals = 2 ∧ meth.sig.returnType = some .boolean ∧ meth.locks = false ∧ s.vm.findClass RMo = some m.cls ∧ (∀ w ∈ lw_g, w.before args s = true) ∧ l.flags = flags0) (n : Nat) : ∀ (x0 : Int32) (x1 : Int32) {r : Int32} (ls : Array Slot), lv_has ls 2 [(0, .int x0), (1, .int x1)] → fm_noRoot n x0 x1 = some r → W p l e rmm_noRoot s m args below meth c s.heap [] 0 0 (MQX below (xx_Q (XI r)) args s 0 0 (fun _ => False)) (F0 m 0 ls []) := by
  obtain ⟨hx, hb, hml, hr, hlk, hown, hts, hfl⟩ := id hX
  intro x0 x1 r ls hl hf
  rw [fm_noRoot] at hf
  refine lv_iload_n hx hb dm_noRoot_0 rfl (lv_at hl 0 rfl) ?_
  refine lv_if_lt (tgt := 20) hx hb dm_noRoot_1 (by decide) (fun c1 => ?_) (fun c1 => ?_)
  · have hf := ifp c1 hf
    refine lv_iconst (v := 1) hx hb dm_noRoot_20 (by decide) ?_
    refine lv_goto (tgt := 25) hx hb dm_noRoot_21 (by decide) ?_
    cases hf
    exact er_z hx hb hr hlk rfl dm_noRoot_25
  · have hf := ifn c1 hf
    refine lv_iload_n hx hb dm_noRoot_4 rfl (lv_at hl 0 rfl) ?_
    refine lv_bipush (v := 7) hx hb dm_noRoot_5 (by decide) ?_
    refine lv_icmp_gt (tgt := 20) hx hb dm_noRoot_7 (by decide) (fun c2 => ?_) (fun c2 => ?_)
    · have hf := ifp c2 hf
      refine lv_iconst (v := 1) hx hb dm_noRoot_20 (by decide) ?_
      refine lv_goto (tgt := 25) hx hb dm_noRoot_21 (by decide) ?_
      cases hf
      exact er_z hx hb hr hlk rfl dm_noRoot_25
    · have hf := ifn c2 hf
      refine lv_iload_n hx hb dm_noRoot_10 rfl (lv_at hl 1 rfl) ?_
      refine lv_if_lt (tgt := 20) hx hb dm_noRoot_11 (by decide) (fun c3 => ?_) (fun c3 => ?_)
      · have hf := ifp c3 hf
        refine lv_iconst (v := 1) hx hb dm_noRoot_20 (by decide) ?_
        refine lv_goto (tgt := 25) hx hb dm_noRoot_21 (by decide) ?_
        cases hf
        exact er_z hx hb hr hlk rfl dm_noRoot_25
      · have hf := ifn c3 hf
        refine lv_iload_n hx hb dm_noRoot_14 rfl (lv_at hl 1 rfl) ?_
        refine lv_bipush (v := 20) hx hb dm_noRoot_15 (by decide) ?_
        refine lv_icmp_lt (tgt := 24) hx hb dm_noRoot_17 (by decide) (fun c4 => ?_) (fun c4 => ?_)
        · have hf := ifp c4 hf
          refine lv_iconst (v := 0) hx hb dm_noRoot_24 (by decide) ?_
          cases hf
          exact er_z hx hb hr hlk rfl dm_noRoot_25
        · have hf := ifn c4 hf
          refine lv_iconst (v := 1) hx hb dm_noRoot_20 (by decide) ?_
          refine lv_goto (tgt := 25) hx hb dm_noRoot_21 (by decide) ?_
          cases hf
          exact er_z hx hb hr hlk rfl dm_noRoot_25
set_option maxRecDepth 100000 in
set_option maxHeartbeats 4000000 in
theorem cq_noRoot {l : Launch} (hfl : l.flags = flags0) {n : Nat} {x0 : Int32} {x1 : Int32} {r : Int32} (hf : fm_noRoot n x0 x1 = some r) : SM l ym_noRoot rmm_noRoot [.int x0, .int x1] (XI r) :=
  SM.of hfl (by decide +kernel) rfl mcm_noRoot (fun p e s m below meth c h1 h2 h3 h4 h5 h6 h7 => wm_noRoot_0 ⟨h1, h2, h3, h4, h5, h6, h7, hfl⟩ n _ _ _ (lv_entry _ (Nat.le_of_ble_eq_true rfl)) hf)
set_option maxRecDepth 100000 in
set_option maxHeartbeats 4000000 in
theorem wm_wordAt_15 {p : Program} {l : Launch} {e : Env} {s : State} {m : MethodId} {args : Array Value} {below : List Frame} {meth : Method} {c : Code} {D : va_G} {gm : Nat → Nat} {ca : Nat → ClassId} {A : Nat → Prop} {st : MSt} (hX : MX p l e rmm_wordAt s m args meth c D ca A km_wordAt 3 (some .long)) (hB : MWd D gm ca A s.heap st s.heap []) (n : Nat) : ∀ (x1 : Int32) (x2 : Int32) (y1 : Int32) {r : Int64} {st' : MSt} (ls : Array Slot), lv_has ls 3 [(0, .ref (gm 0)), (1, .int x1), (2, .int x2)] → fm_wordAt_15 n st x1 x2 y1 = some (r, st') → W p l e rmm_wordAt s m args below meth c s.heap [] 0 0 (MQX below (qmm_Q D gm ca A (XL r) st') args s 0 0 A) (F0 m 15 ls [.int y1, .ref (gm 0)]) := by
  obtain ⟨hx, hb, hml, hr, hlk, hown, hts, hK, htr, hZ, hnh, hA, hfl⟩ := id hX
  intro x1 x2 y1 r st' ls hl hf
  rw [fm_wordAt_15] at hf
  refine qbp_thrown hx hb hown hts hK hB dm_wordAt_15 (fun H locs hB => ?_)
  refine lv_aload_n hx hb dm_wordAt_18 rfl (lv_at hl 0 rfl) ?_
  refine qbg_thrown hx hb hown hts hK hB.1 dm_wordAt_19 ?_
  refine lv_if_le (tgt := 29) hx hb dm_wordAt_22 (by decide) (fun c1 => ?_) (fun c1 => ?_)
  · have hf := ifp c1 hf
    refine lv_aload_n hx hb dm_wordAt_29 rfl (lv_at hl 0 rfl) ?_
    refine qbg_words hx hb hown hts hK hB.1 dm_wordAt_30 ?_
    refine lv_bipush (v := 16) hx hb dm_wordAt_33 (by decide) ?_
    refine lv_iload_n hx hb dm_wordAt_35 rfl (lv_at hl 1 rfl) ?_
    refine lv_imul hx hb dm_wordAt_36 ?_
    refine lv_iload_n hx hb dm_wordAt_37 rfl (lv_at hl 2 rfl) ?_
    refine lv_iadd hx hb dm_wordAt_38 ?_
    obtain ⟨r2, er2, ir2, hf⟩ := rdL_some hf
    refine qbl_words hx hb hK hB.1 ir2 er2 dm_wordAt_39 ?_
    cases hf
    exact qem_l hx hb hr hlk hB dm_wordAt_40
  · have hf := ifn c1 hf
    refine lv_lconst (v := 0) hx hb dm_wordAt_25 (by decide) ?_
    refine lv_goto (tgt := 40) hx hb dm_wordAt_26 (by decide) ?_
    cases hf
    exact qem_l hx hb hr hlk hB dm_wordAt_40
set_option maxRecDepth 100000 in
set_option maxHeartbeats 4000000 in
theorem wm_wordAt_0 {p : Program} {l : Launch} {e : Env} {s : State} {m : MethodId} {args : Array Value} {below : List Frame} {meth : Method} {c : Code} {D : va_G} {gm : Nat → Nat} {ca : Nat → ClassId} {A : Nat → Prop} {st : MSt} (hX : MX p l e rmm_wordAt s m args meth c D ca A km_wordAt 3 (some .long)) (hB : MWd D gm ca A s.heap st s.heap []) (n : Nat) : ∀ (x1 : Int32) (x2 : Int32) {r : Int64} {st' : MSt} (ls : Array Slot), lv_has ls 3 [(0, .ref (gm 0)), (1, .int x1), (2, .int x2)] → fm_wordAt n st x1 x2 = some (r, st') → W p l e rmm_wordAt s m args below meth c s.heap [] 0 0 (MQX below (qmm_Q D gm ca A (XL r) st') args s 0 0 A) (F0 m 0 ls []) := by
  obtain ⟨hx, hb, hml, hr, hlk, hown, hts, hK, htr, hZ, hnh, hA, hfl⟩ := id hX
  intro x1 x2 r st' ls hl hf
  rw [fm_wordAt] at hf
  refine lv_aload_n hx hb dm_wordAt_0 rfl (lv_at hl 0 rfl) ?_
  refine lv_aload_n hx hb dm_wordAt_1 rfl (lv_at hl 0 rfl) ?_
  refine lv_iload_n hx hb dm_wordAt_2 rfl (lv_at hl 1 rfl) ?_
  refine lv_iload_n hx hb dm_wordAt_3 rfl (lv_at hl 2 rfl) ?_
  obtain ⟨r1, h2, hf⟩ := obs hf
  refine qrmI (cq_noWord (l := l) (hfl := hfl) h2) (cw_m_noWord hts ⟨by decide, by decide⟩) hx hb hml hown hts hK hB.1 hB.2.2 hZ hl.1 rfl rfl (lv_room (Nat.le_of_ble_eq_true rfl)) dm_wordAt_4 ⟨by decide, by decide⟩ ?_
  refine lv_if_eq (tgt := 14) hx hb dm_wordAt_7 (by decide) (fun c3 => ?_) (fun c3 => ?_)
  · have hf := ifp c3 hf
    refine lv_iconst (v := 0) hx hb dm_wordAt_14 (by decide) ?_
    exact wm_wordAt_15 hX hB n _ _ _ _ (lv_sub hl [0, 1, 2] rfl) hf
  · have hf := ifn c3 hf
    refine lv_iconst (v := 1) hx hb dm_wordAt_10 (by decide) ?_
    refine lv_goto (tgt := 15) hx hb dm_wordAt_11 (by decide) ?_
    exact wm_wordAt_15 hX hB n _ _ _ _ (lv_sub hl [0, 1, 2] rfl) hf
set_option maxRecDepth 100000 in
set_option maxHeartbeats 4000000 in
theorem cq_wordAt {l : Launch} (hfl : l.flags = flags0) {D : va_G} {gm : Nat → Nat} {ca : Nat → ClassId} {st : MSt} {n : Nat} {x1 : Int32} {x2 : Int32} {r : Int64} {st' : MSt} (hf : fm_wordAt n st x1 x2 = some (r, st')) : MMm l ym_wordAt rmm_wordAt D gm ca [.int x1, .int x2] st (XL r) st' :=
  MMm.of hfl (by decide +kernel) rfl mcm_wordAt (fun p e s m below meth c A _ hX hB => wm_wordAt_0 hX hB n _ _ _ (lv_entry _ (Nat.le_of_ble_eq_true rfl)) hf)
set_option maxRecDepth 100000 in
set_option maxHeartbeats 4000000 in
theorem wm_rootAt_14 {p : Program} {l : Launch} {e : Env} {s : State} {m : MethodId} {args : Array Value} {below : List Frame} {meth : Method} {c : Code} {D : va_G} {gm : Nat → Nat} {ca : Nat → ClassId} {A : Nat → Prop} {st : MSt} (hX : MX p l e rmm_rootAt s m args meth c D ca A km_rootAt 3 (some .long)) (hB : MWd D gm ca A s.heap st s.heap []) (n : Nat) : ∀ (x1 : Int32) (x2 : Int32) (y1 : Int32) {r : Int64} {st' : MSt} (ls : Array Slot), lv_has ls 3 [(0, .ref (gm 0)), (1, .int x1), (2, .int x2)] → fm_rootAt_14 n st x1 x2 y1 = some (r, st') → W p l e rmm_rootAt s m args below meth c s.heap [] 0 0 (MQX below (qmm_Q D gm ca A (XL r) st') args s 0 0 A) (F0 m 14 ls [.int y1, .ref (gm 0)]) := by
  obtain ⟨hx, hb, hml, hr, hlk, hown, hts, hK, htr, hZ, hnh, hA, hfl⟩ := id hX
  intro x1 x2 y1 r st' ls hl hf
  rw [fm_rootAt_14] at hf
  refine qbp_thrown hx hb hown hts hK hB dm_rootAt_14 (fun H locs hB => ?_)
  refine lv_aload_n hx hb dm_rootAt_17 rfl (lv_at hl 0 rfl) ?_
  refine qbg_thrown hx hb hown hts hK hB.1 dm_rootAt_18 ?_
  refine lv_if_le (tgt := 28) hx hb dm_rootAt_21 (by decide) (fun c1 => ?_) (fun c1 => ?_)
  · have hf := ifp c1 hf
    refine lv_aload_n hx hb dm_rootAt_28 rfl (lv_at hl 0 rfl) ?_
    refine qbg_words hx hb hown hts hK hB.1 dm_rootAt_29 ?_
    refine lv_sipush (v := 1024) hx hb dm_rootAt_32 (by decide) ?_
    refine lv_bipush (v := 20) hx hb dm_rootAt_35 (by decide) ?_
    refine lv_iload_n hx hb dm_rootAt_37 rfl (lv_at hl 1 rfl) ?_
    refine lv_imul hx hb dm_rootAt_38 ?_
    refine lv_iadd hx hb dm_rootAt_39 ?_
    refine lv_iload_n hx hb dm_rootAt_40 rfl (lv_at hl 2 rfl) ?_
    refine lv_iadd hx hb dm_rootAt_41 ?_
    obtain ⟨r2, er2, ir2, hf⟩ := rdL_some hf
    refine qbl_words hx hb hK hB.1 ir2 er2 dm_rootAt_42 ?_
    cases hf
    exact qem_l hx hb hr hlk hB dm_rootAt_43
  · have hf := ifn c1 hf
    refine lv_lconst (v := 0) hx hb dm_rootAt_24 (by decide) ?_
    refine lv_goto (tgt := 43) hx hb dm_rootAt_25 (by decide) ?_
    cases hf
    exact qem_l hx hb hr hlk hB dm_rootAt_43
set_option maxRecDepth 100000 in
set_option maxHeartbeats 4000000 in
theorem wm_rootAt_0 {p : Program} {l : Launch} {e : Env} {s : State} {m : MethodId} {args : Array Value} {below : List Frame} {meth : Method} {c : Code} {D : va_G} {gm : Nat → Nat} {ca : Nat → ClassId} {A : Nat → Prop} {st : MSt} (hX : MX p l e rmm_rootAt s m args meth c D ca A km_rootAt 3 (some .long)) (hB : MWd D gm ca A s.heap st s.heap []) (n : Nat) : ∀ (x1 : Int32) (x2 : Int32) {r : Int64} {st' : MSt} (ls : Array Slot), lv_has ls 3 [(0, .ref (gm 0)), (1, .int x1), (2, .int x2)] → fm_rootAt n st x1 x2 = some (r, st') → W p l e rmm_rootAt s m args below meth c s.heap [] 0 0 (MQX below (qmm_Q D gm ca A (XL r) st') args s 0 0 A) (F0 m 0 ls []) := by
  obtain ⟨hx, hb, hml, hr, hlk, hown, hts, hK, htr, hZ, hnh, hA, hfl⟩ := id hX
  intro x1 x2 r st' ls hl hf
  rw [fm_rootAt] at hf
  refine lv_aload_n hx hb dm_rootAt_0 rfl (lv_at hl 0 rfl) ?_
  refine lv_iload_n hx hb dm_rootAt_1 rfl (lv_at hl 1 rfl) ?_
  refine lv_iload_n hx hb dm_rootAt_2 rfl (lv_at hl 2 rfl) ?_
  obtain ⟨r1, h2, hf⟩ := obs hf
  refine smI (cq_noRoot (l := l) (hfl := hfl) h2) (cw_m_noRoot hts ⟨by decide, by decide⟩) hx hb hml hown hts hl.1 rfl rfl (lv_room (Nat.le_of_ble_eq_true rfl)) dm_rootAt_3 ⟨by decide, by decide⟩ ?_
  refine lv_if_eq (tgt := 13) hx hb dm_rootAt_6 (by decide) (fun c3 => ?_) (fun c3 => ?_)
  · have hf := ifp c3 hf
    refine lv_iconst (v := 0) hx hb dm_rootAt_13 (by decide) ?_
    exact wm_rootAt_14 hX hB n _ _ _ _ (lv_sub hl [0, 1, 2] rfl) hf
  · have hf := ifn c3 hf
    refine lv_iconst (v := 1) hx hb dm_rootAt_9 (by decide) ?_
    refine lv_goto (tgt := 14) hx hb dm_rootAt_10 (by decide) ?_
    exact wm_rootAt_14 hX hB n _ _ _ _ (lv_sub hl [0, 1, 2] rfl) hf
set_option maxRecDepth 100000 in
set_option maxHeartbeats 4000000 in
theorem cq_rootAt {l : Launch} (hfl : l.flags = flags0) {D : va_G} {gm : Nat → Nat} {ca : Nat → ClassId} {st : MSt} {n : Nat} {x1 : Int32} {x2 : Int32} {r : Int64} {st' : MSt} (hf : fm_rootAt n st x1 x2 = some (r, st')) : MMm l ym_rootAt rmm_rootAt D gm ca [.int x1, .int x2] st (XL r) st' :=
  MMm.of hfl (by decide +kernel) rfl mcm_rootAt (fun p e s m below meth c A _ hX hB => wm_rootAt_0 hX hB n _ _ _ (lv_entry _ (Nat.le_of_ble_eq_true rfl)) hf)
set_option maxRecDepth 100000 in
set_option maxHeartbeats 4000000 in
theorem wm_poke_25 {p : Program} {l : Launch} {e : Env} {s : State} {m : MethodId} {args : Array Value} {below : List Frame} {meth : Method} {c : Code} {D : va_G} {gm : Nat → Nat} {ca : Nat → ClassId} {A : Nat → Prop} {st : MSt} (hX : MX p l e rmm_poke s m args meth c D ca A km_poke 5 (none)) (hB : MWd D gm ca A s.heap st s.heap []) (n : Nat) : ∀ (x1 : Int32) (x2 : Int32) (x3 : Int64) (y1 : Int32) {st' : MSt} (ls : Array Slot), lv_has ls 5 [(0, .ref (gm 0)), (1, .int x1), (2, .int x2), (3, .long x3)] → fm_poke_25 n st x1 x2 x3 y1 = some st' → W p l e rmm_poke s m args below meth c s.heap [] 0 0 (MQX below (qmm_Q D gm ca A (XV) st') args s 0 0 A) (F0 m 25 ls [.int y1, .ref (gm 0)]) := by
  obtain ⟨hx, hb, hml, hr, hlk, hown, hts, hK, htr, hZ, hnh, hA, hfl⟩ := id hX
  intro x1 x2 x3 y1 st' ls hl hf
  rw [fm_poke_25] at hf
  refine qbp_thrown hx hb hown hts hK hB dm_poke_25 (fun H locs hB => ?_)
  refine lv_aload_n hx hb dm_poke_28 rfl (lv_at hl 0 rfl) ?_
  refine qbg_thrown hx hb hown hts hK hB.1 dm_poke_29 ?_
  refine lv_if_ne (tgt := 55) hx hb dm_poke_32 (by decide) (fun c1 => ?_) (fun c1 => ?_)
  · have hf := ifn c1 hf
    cases hf
    exact qem_v hx hb hr hlk hB dm_poke_55
  · have hf := ifp c1 hf
    refine lv_aload_n hx hb dm_poke_35 rfl (lv_at hl 0 rfl) ?_
    refine qbg_words hx hb hown hts hK hB.1 dm_poke_36 ?_
    refine lv_bipush (v := 16) hx hb dm_poke_39 (by decide) ?_
    refine lv_iload_n hx hb dm_poke_41 rfl (lv_at hl 1 rfl) ?_
    refine lv_imul hx hb dm_poke_42 ?_
    refine lv_iload_n hx hb dm_poke_43 rfl (lv_at hl 2 rfl) ?_
    refine lv_iadd hx hb dm_poke_44 ?_
    refine lv_dup2_11 hx hb dm_poke_45 rfl rfl ?_
    obtain ⟨r2, er2, ir2, hf⟩ := rdL_some hf
    refine qbl_words hx hb hK hB.1 ir2 er2 dm_poke_46 ?_
    refine lv_lload_n hx hb dm_poke_47 rfl (lv_at hl 3 rfl) ?_
    refine lv_lxor hx hb dm_poke_48 ?_
    obtain ⟨a3, ea3, ia3, hf⟩ := wrL_some hf
    refine qbt_words hx hb hK hB ia3 ea3 dm_poke_49 (fun H locs hB => ?_)
    refine lv_aload_n hx hb dm_poke_50 rfl (lv_at hl 0 rfl) ?_
    refine lv_iconst (v := 1) hx hb dm_poke_51 (by decide) ?_
    refine qbp_altered hx hb hown hts hK hB rfl rfl dm_poke_52 (fun H locs hB => ?_)
    cases hf
    exact qem_v hx hb hr hlk hB dm_poke_55
set_option maxRecDepth 100000 in
set_option maxHeartbeats 4000000 in
theorem wm_poke_0 {p : Program} {l : Launch} {e : Env} {s : State} {m : MethodId} {args : Array Value} {below : List Frame} {meth : Method} {c : Code} {D : va_G} {gm : Nat → Nat} {ca : Nat → ClassId} {A : Nat → Prop} {st : MSt} (hX : MX p l e rmm_poke s m args meth c D ca A km_poke 5 (none)) (hB : MWd D gm ca A s.heap st s.heap []) (n : Nat) : ∀ (x1 : Int32) (x2 : Int32) (x3 : Int64) {st' : MSt} (ls : Array Slot), lv_has ls 5 [(0, .ref (gm 0)), (1, .int x1), (2, .int x2), (3, .long x3)] → fm_poke n st x1 x2 x3 = some st' → W p l e rmm_poke s m args below meth c s.heap [] 0 0 (MQX below (qmm_Q D gm ca A (XV) st') args s 0 0 A) (F0 m 0 ls []) := by
  obtain ⟨hx, hb, hml, hr, hlk, hown, hts, hK, htr, hZ, hnh, hA, hfl⟩ := id hX
  intro x1 x2 x3 st' ls hl hf
  rw [fm_poke] at hf
  refine lv_aload_n hx hb dm_poke_0 rfl (lv_at hl 0 rfl) ?_
  refine lv_aload_n hx hb dm_poke_1 rfl (lv_at hl 0 rfl) ?_
  refine lv_iload_n hx hb dm_poke_2 rfl (lv_at hl 1 rfl) ?_
  refine lv_iload_n hx hb dm_poke_3 rfl (lv_at hl 2 rfl) ?_
  obtain ⟨r1, h2, hf⟩ := obs hf
  refine qrmI (cq_noWord (l := l) (hfl := hfl) h2) (cw_m_noWord hts ⟨by decide, by decide⟩) hx hb hml hown hts hK hB.1 hB.2.2 hZ hl.1 rfl rfl (lv_room (Nat.le_of_ble_eq_true rfl)) dm_poke_4 ⟨by decide, by decide⟩ ?_
  refine lv_if_eq (tgt := 14) hx hb dm_poke_7 (by decide) (fun c3 => ?_) (fun c3 => ?_)
  · have hf := ifp c3 hf
    refine lv_lload_n hx hb dm_poke_14 rfl (lv_at hl 3 rfl) ?_
    refine lv_lconst (v := 0) hx hb dm_poke_15 (by decide) ?_
    refine W.lcmp hx hb dm_poke_16 ?_
    refine lv_if_ne (tgt := 24) hx hb dm_poke_17 (by decide) (fun c4 => ?_) (fun c4 => ?_)
    · have hf := ifn c4 hf
      refine lv_iconst (v := 0) hx hb dm_poke_24 (by decide) ?_
      exact wm_poke_25 hX hB n _ _ _ _ _ (lv_sub hl [0, 1, 2, 3] rfl) hf
    · have hf := ifp c4 hf
      refine lv_iconst (v := 2) hx hb dm_poke_20 (by decide) ?_
      refine lv_goto (tgt := 25) hx hb dm_poke_21 (by decide) ?_
      exact wm_poke_25 hX hB n _ _ _ _ _ (lv_sub hl [0, 1, 2, 3] rfl) hf
  · have hf := ifn c3 hf
    refine lv_iconst (v := 1) hx hb dm_poke_10 (by decide) ?_
    refine lv_goto (tgt := 25) hx hb dm_poke_11 (by decide) ?_
    exact wm_poke_25 hX hB n _ _ _ _ _ (lv_sub hl [0, 1, 2, 3] rfl) hf
set_option maxRecDepth 100000 in
set_option maxHeartbeats 4000000 in
theorem cq_poke {l : Launch} (hfl : l.flags = flags0) {D : va_G} {gm : Nat → Nat} {ca : Nat → ClassId} {st : MSt} {n : Nat} {x1 : Int32} {x2 : Int32} {x3 : Int64} {st' : MSt} (hf : fm_poke n st x1 x2 x3 = some st') : MMm l ym_poke rmm_poke D gm ca [.int x1, .int x2, .long x3] st (XV) st' :=
  MMm.of hfl (by decide +kernel) rfl mcm_poke (fun p e s m below meth c A _ hX hB => wm_poke_0 hX hB n _ _ _ _ (lv_entry _ (Nat.le_of_ble_eq_true rfl)) hf)
set_option maxRecDepth 100000 in
set_option maxHeartbeats 4000000 in
theorem wm_pokeRoot_24 {p : Program} {l : Launch} {e : Env} {s : State} {m : MethodId} {args : Array Value} {below : List Frame} {meth : Method} {c : Code} {D : va_G} {gm : Nat → Nat} {ca : Nat → ClassId} {A : Nat → Prop} {st : MSt} (hX : MX p l e rmm_pokeRoot s m args meth c D ca A km_pokeRoot 5 (none)) (hB : MWd D gm ca A s.heap st s.heap []) (n : Nat) : ∀ (x1 : Int32) (x2 : Int32) (x3 : Int64) (y1 : Int32) {st' : MSt} (ls : Array Slot), lv_has ls 5 [(0, .ref (gm 0)), (1, .int x1), (2, .int x2), (3, .long x3)] → fm_pokeRoot_24 n st x1 x2 x3 y1 = some st' → W p l e rmm_pokeRoot s m args below meth c s.heap [] 0 0 (MQX below (qmm_Q D gm ca A (XV) st') args s 0 0 A) (F0 m 24 ls [.int y1, .ref (gm 0)]) := by
  obtain ⟨hx, hb, hml, hr, hlk, hown, hts, hK, htr, hZ, hnh, hA, hfl⟩ := id hX
  intro x1 x2 x3 y1 st' ls hl hf
  rw [fm_pokeRoot_24] at hf
  refine qbp_thrown hx hb hown hts hK hB dm_pokeRoot_24 (fun H locs hB => ?_)
  refine lv_aload_n hx hb dm_pokeRoot_27 rfl (lv_at hl 0 rfl) ?_
  refine qbg_thrown hx hb hown hts hK hB.1 dm_pokeRoot_28 ?_
  refine lv_if_ne (tgt := 58) hx hb dm_pokeRoot_31 (by decide) (fun c1 => ?_) (fun c1 => ?_)
  · have hf := ifn c1 hf
    cases hf
    exact qem_v hx hb hr hlk hB dm_pokeRoot_58
  · have hf := ifp c1 hf
    refine lv_aload_n hx hb dm_pokeRoot_34 rfl (lv_at hl 0 rfl) ?_
    refine qbg_words hx hb hown hts hK hB.1 dm_pokeRoot_35 ?_
    refine lv_sipush (v := 1024) hx hb dm_pokeRoot_38 (by decide) ?_
    refine lv_bipush (v := 20) hx hb dm_pokeRoot_41 (by decide) ?_
    refine lv_iload_n hx hb dm_pokeRoot_43 rfl (lv_at hl 1 rfl) ?_
    refine lv_imul hx hb dm_pokeRoot_44 ?_
    refine lv_iadd hx hb dm_pokeRoot_45 ?_
    refine lv_iload_n hx hb dm_pokeRoot_46 rfl (lv_at hl 2 rfl) ?_
    refine lv_iadd hx hb dm_pokeRoot_47 ?_
    refine lv_dup2_11 hx hb dm_pokeRoot_48 rfl rfl ?_
    obtain ⟨r2, er2, ir2, hf⟩ := rdL_some hf
    refine qbl_words hx hb hK hB.1 ir2 er2 dm_pokeRoot_49 ?_
    refine lv_lload_n hx hb dm_pokeRoot_50 rfl (lv_at hl 3 rfl) ?_
    refine lv_lxor hx hb dm_pokeRoot_51 ?_
    obtain ⟨a3, ea3, ia3, hf⟩ := wrL_some hf
    refine qbt_words hx hb hK hB ia3 ea3 dm_pokeRoot_52 (fun H locs hB => ?_)
    refine lv_aload_n hx hb dm_pokeRoot_53 rfl (lv_at hl 0 rfl) ?_
    refine lv_iconst (v := 1) hx hb dm_pokeRoot_54 (by decide) ?_
    refine qbp_altered hx hb hown hts hK hB rfl rfl dm_pokeRoot_55 (fun H locs hB => ?_)
    cases hf
    exact qem_v hx hb hr hlk hB dm_pokeRoot_58
set_option maxRecDepth 100000 in
set_option maxHeartbeats 4000000 in
theorem wm_pokeRoot_0 {p : Program} {l : Launch} {e : Env} {s : State} {m : MethodId} {args : Array Value} {below : List Frame} {meth : Method} {c : Code} {D : va_G} {gm : Nat → Nat} {ca : Nat → ClassId} {A : Nat → Prop} {st : MSt} (hX : MX p l e rmm_pokeRoot s m args meth c D ca A km_pokeRoot 5 (none)) (hB : MWd D gm ca A s.heap st s.heap []) (n : Nat) : ∀ (x1 : Int32) (x2 : Int32) (x3 : Int64) {st' : MSt} (ls : Array Slot), lv_has ls 5 [(0, .ref (gm 0)), (1, .int x1), (2, .int x2), (3, .long x3)] → fm_pokeRoot n st x1 x2 x3 = some st' → W p l e rmm_pokeRoot s m args below meth c s.heap [] 0 0 (MQX below (qmm_Q D gm ca A (XV) st') args s 0 0 A) (F0 m 0 ls []) := by
  obtain ⟨hx, hb, hml, hr, hlk, hown, hts, hK, htr, hZ, hnh, hA, hfl⟩ := id hX
  intro x1 x2 x3 st' ls hl hf
  rw [fm_pokeRoot] at hf
  refine lv_aload_n hx hb dm_pokeRoot_0 rfl (lv_at hl 0 rfl) ?_
  refine lv_iload_n hx hb dm_pokeRoot_1 rfl (lv_at hl 1 rfl) ?_
  refine lv_iload_n hx hb dm_pokeRoot_2 rfl (lv_at hl 2 rfl) ?_
  obtain ⟨r1, h2, hf⟩ := obs hf
  refine smI (cq_noRoot (l := l) (hfl := hfl) h2) (cw_m_noRoot hts ⟨by decide, by decide⟩) hx hb hml hown hts hl.1 rfl rfl (lv_room (Nat.le_of_ble_eq_true rfl)) dm_pokeRoot_3 ⟨by decide, by decide⟩ ?_
  refine lv_if_eq (tgt := 13) hx hb dm_pokeRoot_6 (by decide) (fun c3 => ?_) (fun c3 => ?_)
  · have hf := ifp c3 hf
    refine lv_lload_n hx hb dm_pokeRoot_13 rfl (lv_at hl 3 rfl) ?_
    refine lv_lconst (v := 0) hx hb dm_pokeRoot_14 (by decide) ?_
    refine W.lcmp hx hb dm_pokeRoot_15 ?_
    refine lv_if_ne (tgt := 23) hx hb dm_pokeRoot_16 (by decide) (fun c4 => ?_) (fun c4 => ?_)
    · have hf := ifn c4 hf
      refine lv_iconst (v := 0) hx hb dm_pokeRoot_23 (by decide) ?_
      exact wm_pokeRoot_24 hX hB n _ _ _ _ _ (lv_sub hl [0, 1, 2, 3] rfl) hf
    · have hf := ifp c4 hf
      refine lv_iconst (v := 2) hx hb dm_pokeRoot_19 (by decide) ?_
      refine lv_goto (tgt := 24) hx hb dm_pokeRoot_20 (by decide) ?_
      exact wm_pokeRoot_24 hX hB n _ _ _ _ _ (lv_sub hl [0, 1, 2, 3] rfl) hf
  · have hf := ifn c3 hf
    refine lv_iconst (v := 1) hx hb dm_pokeRoot_9 (by decide) ?_
    refine lv_goto (tgt := 24) hx hb dm_pokeRoot_10 (by decide) ?_
    exact wm_pokeRoot_24 hX hB n _ _ _ _ _ (lv_sub hl [0, 1, 2, 3] rfl) hf
set_option maxRecDepth 100000 in
set_option maxHeartbeats 4000000 in
theorem cq_pokeRoot {l : Launch} (hfl : l.flags = flags0) {D : va_G} {gm : Nat → Nat} {ca : Nat → ClassId} {st : MSt} {n : Nat} {x1 : Int32} {x2 : Int32} {x3 : Int64} {st' : MSt} (hf : fm_pokeRoot n st x1 x2 x3 = some st') : MMm l ym_pokeRoot rmm_pokeRoot D gm ca [.int x1, .int x2, .long x3] st (XV) st' :=
  MMm.of hfl (by decide +kernel) rfl mcm_pokeRoot (fun p e s m below meth c A _ hX hB => wm_pokeRoot_0 hX hB n _ _ _ _ (lv_entry _ (Nat.le_of_ble_eq_true rfl)) hf)
