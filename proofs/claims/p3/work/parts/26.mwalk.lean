set_option maxRecDepth 100000 in
set_option maxHeartbeats 4000000 in
theorem wm_enter_59 {p : Program} {l : Launch} {e : Env} {s : State} {m : MethodId} {args : Array Value} {below : List Frame} {meth : Method} {c : Code} {D : va_G} {gm : Nat → Nat} {ca : Nat → ClassId} {A : Nat → Prop} (hX : MX p l e rmm_enter s m args meth c D ca A km_enter 6 (none)) (n : Nat) :∀ (k : Nat), ∀ (st : MSt) (x1 : Int32) (x2 : Int64) (x4 : Int32) (x5 : Int32) {st' : MSt} (ls : Array Slot) (H : Heap) (locs : List Loc), MWd D gm ca A s.heap st H locs → lv_has ls 6 [(0, .ref (gm 0)), (1, .int x1), (2, .long x2), (4, .int x4), (5, .int x5)] → fm_enter_59 n k st x1 x2 x4 x5 = some st' → W p l e rmm_enter s m args below meth c H locs 0 0 (MQX below (qmm_Q D gm ca A (XV) st') args s 0 0 A) (F0 m 59 ls []) := by
  obtain ⟨hx, hb, hml, hr, hlk, hown, hts, hK, htr, hZ, hnh, hA, hfl⟩ := id hX
  intro k
  induction k with
  | zero =>
    intro st x1 x2 x4 x5 st' ls H locs hB hl hf
    rw [fm_enter_59] at hf
    cases hf
  | succ k ih =>
    intro st x1 x2 x4 x5 st' ls H locs hB hl hf
    rw [fm_enter_59] at hf
    refine lv_iload hx hb dm_enter_59 (lv_at hl 4 rfl) ?_
    refine lv_iload hx hb dm_enter_61 (lv_at hl 3 rfl) ?_
    refine lv_icmp_le (tgt := 104) hx hb dm_enter_63 (by decide) (fun c1 => ?_) (fun c1 => ?_)
    · have hf := ifp c1 hf
      refine lv_aload_n hx hb dm_enter_104 rfl (lv_at hl 0 rfl) ?_
      refine lv_dup hx hb dm_enter_105 rfl ?_
      refine qbg_many hx hb hown hts hK hB.1 dm_enter_106 ?_
      refine lv_iconst (v := 1) hx hb dm_enter_109 (by decide) ?_
      refine lv_iadd hx hb dm_enter_110 ?_
      refine qbp_many hx hb hown hts hK hB dm_enter_111 (fun H locs hB => ?_)
      refine lv_aload_n hx hb dm_enter_114 rfl (lv_at hl 0 rfl) ?_
      refine qbg_keys hx hb hown hts hK hB.1 dm_enter_115 ?_
      refine lv_iload hx hb dm_enter_118 (lv_at hl 3 rfl) ?_
      refine lv_iload_n hx hb dm_enter_120 rfl (lv_at hl 1 rfl) ?_
      refine lv_i2l hx hb dm_enter_121 rfl ?_
      obtain ⟨a2, ea2, ia2, hf⟩ := wrL_some hf
      refine qbt_keys hx hb hK hB ia2 ea2 dm_enter_122 (fun H locs hB => ?_)
      refine lv_aload_n hx hb dm_enter_123 rfl (lv_at hl 0 rfl) ?_
      refine qbg_values hx hb hown hts hK hB.1 dm_enter_124 ?_
      refine lv_iload hx hb dm_enter_127 (lv_at hl 3 rfl) ?_
      refine lv_lload_n hx hb dm_enter_129 rfl (lv_at hl 2 rfl) ?_
      obtain ⟨a3, ea3, ia3, hf⟩ := wrL_some hf
      refine qbt_values hx hb hK hB ia3 ea3 dm_enter_130 (fun H locs hB => ?_)
      cases hf
      exact qem_v hx hb hr hlk hB dm_enter_131
    · have hf := ifn c1 hf
      refine lv_aload_n hx hb dm_enter_66 rfl (lv_at hl 0 rfl) ?_
      refine qbg_keys hx hb hown hts hK hB.1 dm_enter_67 ?_
      refine lv_iload hx hb dm_enter_70 (lv_at hl 4 rfl) ?_
      refine lv_aload_n hx hb dm_enter_72 rfl (lv_at hl 0 rfl) ?_
      refine qbg_keys hx hb hown hts hK hB.1 dm_enter_73 ?_
      refine lv_iload hx hb dm_enter_76 (lv_at hl 4 rfl) ?_
      refine lv_iconst (v := 1) hx hb dm_enter_78 (by decide) ?_
      refine lv_isub hx hb dm_enter_79 ?_
      obtain ⟨r4, er4, ir4, hf⟩ := rdL_some hf
      refine qbl_keys hx hb hK hB.1 ir4 er4 dm_enter_80 ?_
      obtain ⟨a5, ea5, ia5, hf⟩ := wrL_some hf
      refine qbt_keys hx hb hK hB ia5 ea5 dm_enter_81 (fun H locs hB => ?_)
      refine lv_aload_n hx hb dm_enter_82 rfl (lv_at hl 0 rfl) ?_
      refine qbg_values hx hb hown hts hK hB.1 dm_enter_83 ?_
      refine lv_iload hx hb dm_enter_86 (lv_at hl 4 rfl) ?_
      refine lv_aload_n hx hb dm_enter_88 rfl (lv_at hl 0 rfl) ?_
      refine qbg_values hx hb hown hts hK hB.1 dm_enter_89 ?_
      refine lv_iload hx hb dm_enter_92 (lv_at hl 4 rfl) ?_
      refine lv_iconst (v := 1) hx hb dm_enter_94 (by decide) ?_
      refine lv_isub hx hb dm_enter_95 ?_
      obtain ⟨r6, er6, ir6, hf⟩ := rdL_some hf
      refine qbl_values hx hb hK hB.1 ir6 er6 dm_enter_96 ?_
      obtain ⟨a7, ea7, ia7, hf⟩ := wrL_some hf
      refine qbt_values hx hb hK hB ia7 ea7 dm_enter_97 (fun H locs hB => ?_)
      refine lv_iinc (v := (x5 + (-1))) (lv' := [(5, .int (x5 + (-1))), (0, .ref (gm 0)), (1, .int x1), (2, .long x2), (4, .int x4)]) hx hb dm_enter_98 hl (k := 4) rfl rfl (by decide) rfl (fun ls hl => ?_)
      refine lv_goto (tgt := 59) hx hb dm_enter_101 (by decide) ?_
      exact ih _ _ _ _ _ _ _ _ hB (lv_sub hl [1, 2, 3, 4, 0] rfl) hf
set_option maxRecDepth 100000 in
set_option maxHeartbeats 4000000 in
theorem wm_enter_31 {p : Program} {l : Launch} {e : Env} {s : State} {m : MethodId} {args : Array Value} {below : List Frame} {meth : Method} {c : Code} {D : va_G} {gm : Nat → Nat} {ca : Nat → ClassId} {A : Nat → Prop} (hX : MX p l e rmm_enter s m args meth c D ca A km_enter 6 (none)) (n : Nat) : ∀ (st : MSt) (x1 : Int32) (x2 : Int64) (x4 : Int32) {st' : MSt} (ls : Array Slot) (H : Heap) (locs : List Loc), MWd D gm ca A s.heap st H locs → lv_has ls 6 [(0, .ref (gm 0)), (1, .int x1), (2, .long x2), (4, .int x4)] → fm_enter_31 n st x1 x2 x4 = some st' → W p l e rmm_enter s m args below meth c H locs 0 0 (MQX below (qmm_Q D gm ca A (XV) st') args s 0 0 A) (F0 m 31 ls []) := by
  obtain ⟨hx, hb, hml, hr, hlk, hown, hts, hK, htr, hZ, hnh, hA, hfl⟩ := id hX
  intro st x1 x2 x4 st' ls H locs hB hl hf
  rw [fm_enter_31] at hf
  refine lv_iload hx hb dm_enter_31 (lv_at hl 3 rfl) ?_
  refine lv_aload_n hx hb dm_enter_33 rfl (lv_at hl 0 rfl) ?_
  refine qbg_many hx hb hown hts hK hB.1 dm_enter_34 ?_
  refine lv_icmp_eq (tgt := 53) hx hb dm_enter_37 (by decide) (fun c1 => ?_) (fun c1 => ?_)
  · have hf := ifp c1 hf
    refine lv_aload_n hx hb dm_enter_53 rfl (lv_at hl 0 rfl) ?_
    refine qbg_many hx hb hown hts hK hB.1 dm_enter_54 ?_
    refine lv_istore (lv' := [(5, .int (qbs_many st)), (0, .ref (gm 0)), (1, .int x1), (2, .long x2), (4, .int x4)]) hx hb dm_enter_57 hl (by decide) rfl (fun ls hl => ?_)
    exact wm_enter_59 hX n n _ _ _ _ _ _ _ _ hB (lv_sub hl [1, 2, 3, 4, 0] rfl) hf
  · have hf := ifn c1 hf
    refine lv_aload_n hx hb dm_enter_40 rfl (lv_at hl 0 rfl) ?_
    refine qbg_keys hx hb hown hts hK hB.1 dm_enter_41 ?_
    refine lv_iload hx hb dm_enter_44 (lv_at hl 3 rfl) ?_
    obtain ⟨r2, er2, ir2, hf⟩ := rdL_some hf
    refine qbl_keys hx hb hK hB.1 ir2 er2 dm_enter_46 ?_
    refine lv_iload_n hx hb dm_enter_47 rfl (lv_at hl 1 rfl) ?_
    refine lv_i2l hx hb dm_enter_48 rfl ?_
    refine W.lcmp hx hb dm_enter_49 ?_
    refine lv_if_eq (tgt := 114) hx hb dm_enter_50 (by decide) (fun c3 => ?_) (fun c3 => ?_)
    · have hf := ifp c3 hf
      refine lv_aload_n hx hb dm_enter_114 rfl (lv_at hl 0 rfl) ?_
      refine qbg_keys hx hb hown hts hK hB.1 dm_enter_115 ?_
      refine lv_iload hx hb dm_enter_118 (lv_at hl 3 rfl) ?_
      refine lv_iload_n hx hb dm_enter_120 rfl (lv_at hl 1 rfl) ?_
      refine lv_i2l hx hb dm_enter_121 rfl ?_
      obtain ⟨a4, ea4, ia4, hf⟩ := wrL_some hf
      refine qbt_keys hx hb hK hB ia4 ea4 dm_enter_122 (fun H locs hB => ?_)
      refine lv_aload_n hx hb dm_enter_123 rfl (lv_at hl 0 rfl) ?_
      refine qbg_values hx hb hown hts hK hB.1 dm_enter_124 ?_
      refine lv_iload hx hb dm_enter_127 (lv_at hl 3 rfl) ?_
      refine lv_lload_n hx hb dm_enter_129 rfl (lv_at hl 2 rfl) ?_
      obtain ⟨a5, ea5, ia5, hf⟩ := wrL_some hf
      refine qbt_values hx hb hK hB ia5 ea5 dm_enter_130 (fun H locs hB => ?_)
      cases hf
      exact qem_v hx hb hr hlk hB dm_enter_131
    · have hf := ifn c3 hf
      refine lv_aload_n hx hb dm_enter_53 rfl (lv_at hl 0 rfl) ?_
      refine qbg_many hx hb hown hts hK hB.1 dm_enter_54 ?_
      refine lv_istore (lv' := [(5, .int (qbs_many st)), (0, .ref (gm 0)), (1, .int x1), (2, .long x2), (4, .int x4)]) hx hb dm_enter_57 hl (by decide) rfl (fun ls hl => ?_)
      exact wm_enter_59 hX n n _ _ _ _ _ _ _ _ hB (lv_sub hl [1, 2, 3, 4, 0] rfl) hf
set_option maxRecDepth 100000 in
set_option maxHeartbeats 4000000 in
theorem wm_enter_3 {p : Program} {l : Launch} {e : Env} {s : State} {m : MethodId} {args : Array Value} {below : List Frame} {meth : Method} {c : Code} {D : va_G} {gm : Nat → Nat} {ca : Nat → ClassId} {A : Nat → Prop} (hX : MX p l e rmm_enter s m args meth c D ca A km_enter 6 (none)) (n : Nat) :∀ (k : Nat), ∀ (st : MSt) (x1 : Int32) (x2 : Int64) (x4 : Int32) {st' : MSt} (ls : Array Slot) (H : Heap) (locs : List Loc), MWd D gm ca A s.heap st H locs → lv_has ls 6 [(0, .ref (gm 0)), (1, .int x1), (2, .long x2), (4, .int x4)] → fm_enter_3 n k st x1 x2 x4 = some st' → W p l e rmm_enter s m args below meth c H locs 0 0 (MQX below (qmm_Q D gm ca A (XV) st') args s 0 0 A) (F0 m 3 ls []) := by
  obtain ⟨hx, hb, hml, hr, hlk, hown, hts, hK, htr, hZ, hnh, hA, hfl⟩ := id hX
  intro k
  induction k with
  | zero =>
    intro st x1 x2 x4 st' ls H locs hB hl hf
    rw [fm_enter_3] at hf
    cases hf
  | succ k ih =>
    intro st x1 x2 x4 st' ls H locs hB hl hf
    rw [fm_enter_3] at hf
    refine lv_iload hx hb dm_enter_3 (lv_at hl 3 rfl) ?_
    refine lv_aload_n hx hb dm_enter_5 rfl (lv_at hl 0 rfl) ?_
    refine qbg_many hx hb hown hts hK hB.1 dm_enter_6 ?_
    refine lv_icmp_ge (tgt := 31) hx hb dm_enter_9 (by decide) (fun c1 => ?_) (fun c1 => ?_)
    · have hf := ifp c1 hf
      exact wm_enter_31 hX n _ _ _ _ _ _ _ hB (lv_sub hl [0, 1, 2, 3] rfl) hf
    · have hf := ifn c1 hf
      refine lv_aload_n hx hb dm_enter_12 rfl (lv_at hl 0 rfl) ?_
      refine qbg_keys hx hb hown hts hK hB.1 dm_enter_13 ?_
      refine lv_iload hx hb dm_enter_16 (lv_at hl 3 rfl) ?_
      obtain ⟨r2, er2, ir2, hf⟩ := rdL_some hf
      refine qbl_keys hx hb hK hB.1 ir2 er2 dm_enter_18 ?_
      refine lv_iload_n hx hb dm_enter_19 rfl (lv_at hl 1 rfl) ?_
      refine lv_i2l hx hb dm_enter_20 rfl ?_
      refine W.lcmp hx hb dm_enter_21 ?_
      refine lv_if_ge (tgt := 31) hx hb dm_enter_22 (by decide) (fun c3 => ?_) (fun c3 => ?_)
      · have hf := ifp c3 hf
        exact wm_enter_31 hX n _ _ _ _ _ _ _ hB (lv_sub hl [0, 1, 2, 3] rfl) hf
      · have hf := ifn c3 hf
        refine lv_iinc (v := (x4 + 1)) (lv' := [(4, .int (x4 + 1)), (0, .ref (gm 0)), (1, .int x1), (2, .long x2)]) hx hb dm_enter_25 hl (k := 3) rfl rfl (by decide) rfl (fun ls hl => ?_)
        refine lv_goto (tgt := 3) hx hb dm_enter_28 (by decide) ?_
        exact ih _ _ _ _ _ _ _ hB (lv_sub hl [1, 2, 3, 0] rfl) hf
set_option maxRecDepth 100000 in
set_option maxHeartbeats 4000000 in
theorem wm_enter_0 {p : Program} {l : Launch} {e : Env} {s : State} {m : MethodId} {args : Array Value} {below : List Frame} {meth : Method} {c : Code} {D : va_G} {gm : Nat → Nat} {ca : Nat → ClassId} {A : Nat → Prop} {st : MSt} (hX : MX p l e rmm_enter s m args meth c D ca A km_enter 6 (none)) (hB : MWd D gm ca A s.heap st s.heap []) (n : Nat) : ∀ (x1 : Int32) (x2 : Int64) {st' : MSt} (ls : Array Slot), lv_has ls 6 [(0, .ref (gm 0)), (1, .int x1), (2, .long x2)] → fm_enter n st x1 x2 = some st' → W p l e rmm_enter s m args below meth c s.heap [] 0 0 (MQX below (qmm_Q D gm ca A (XV) st') args s 0 0 A) (F0 m 0 ls []) := by
  obtain ⟨hx, hb, hml, hr, hlk, hown, hts, hK, htr, hZ, hnh, hA, hfl⟩ := id hX
  intro x1 x2 st' ls hl hf
  rw [fm_enter] at hf
  refine lv_iconst (v := 0) hx hb dm_enter_0 (by decide) ?_
  refine lv_istore (lv' := [(4, .int 0), (0, .ref (gm 0)), (1, .int x1), (2, .long x2)]) hx hb dm_enter_1 hl (by decide) rfl (fun ls hl => ?_)
  exact wm_enter_3 hX n n _ _ _ _ _ _ _ hB (lv_sub hl [1, 2, 3, 0] rfl) hf
set_option maxRecDepth 100000 in
set_option maxHeartbeats 4000000 in
theorem cq_enter {l : Launch} (hfl : l.flags = flags0) {D : va_G} {gm : Nat → Nat} {ca : Nat → ClassId} {st : MSt} {n : Nat} {x1 : Int32} {x2 : Int64} {st' : MSt} (hf : fm_enter n st x1 x2 = some st') : MMm l ym_enter rmm_enter D gm ca [.int x1, .long x2] st (XV) st' :=
  MMm.of hfl (by decide +kernel) rfl mcm_enter (fun p e s m below meth c A _ hX hB => wm_enter_0 hX hB n _ _ _ (lv_entry _ (Nat.le_of_ble_eq_true rfl)) hf)
set_option maxRecDepth 100000 in
set_option maxHeartbeats 4000000 in
theorem wm_remove_4 {p : Program} {l : Launch} {e : Env} {s : State} {m : MethodId} {args : Array Value} {below : List Frame} {meth : Method} {c : Code} {D : va_G} {gm : Nat → Nat} {ca : Nat → ClassId} {A : Nat → Prop} (hX : MX p l e rmm_remove s m args meth c D ca A km_remove 4 (none)) (n : Nat) :∀ (k : Nat), ∀ (st : MSt) (x1 : Int32) (x2 : Int32) (x3 : Int32) {st' : MSt} (ls : Array Slot) (H : Heap) (locs : List Loc), MWd D gm ca A s.heap st H locs → lv_has ls 4 [(0, .ref (gm 0)), (1, .int x1), (2, .int x2), (3, .int x3)] → fm_remove_4 n k st x1 x2 x3 = some st' → W p l e rmm_remove s m args below meth c H locs 0 0 (MQX below (qmm_Q D gm ca A (XV) st') args s 0 0 A) (F0 m 4 ls []) := by
  obtain ⟨hx, hb, hml, hr, hlk, hown, hts, hK, htr, hZ, hnh, hA, hfl⟩ := id hX
  intro k
  induction k with
  | zero =>
    intro st x1 x2 x3 st' ls H locs hB hl hf
    rw [fm_remove_4] at hf
    cases hf
  | succ k ih =>
    intro st x1 x2 x3 st' ls H locs hB hl hf
    rw [fm_remove_4] at hf
    refine lv_iload_n hx hb dm_remove_4 rfl (lv_at hl 3 rfl) ?_
    refine lv_aload_n hx hb dm_remove_5 rfl (lv_at hl 0 rfl) ?_
    refine qbg_many hx hb hown hts hK hB.1 dm_remove_6 ?_
    refine lv_icmp_ge (tgt := 57) hx hb dm_remove_9 (by decide) (fun c1 => ?_) (fun c1 => ?_)
    · have hf := ifp c1 hf
      refine lv_aload_n hx hb dm_remove_57 rfl (lv_at hl 0 rfl) ?_
      refine lv_iload_n hx hb dm_remove_58 rfl (lv_at hl 2 rfl) ?_
      refine qbp_many hx hb hown hts hK hB dm_remove_59 (fun H locs hB => ?_)
      cases hf
      exact qem_v hx hb hr hlk hB dm_remove_62
    · have hf := ifn c1 hf
      refine lv_aload_n hx hb dm_remove_12 rfl (lv_at hl 0 rfl) ?_
      refine qbg_keys hx hb hown hts hK hB.1 dm_remove_13 ?_
      refine lv_iload_n hx hb dm_remove_16 rfl (lv_at hl 3 rfl) ?_
      obtain ⟨r2, er2, ir2, hf⟩ := rdL_some hf
      refine qbl_keys hx hb hK hB.1 ir2 er2 dm_remove_17 ?_
      refine lv_iload_n hx hb dm_remove_18 rfl (lv_at hl 1 rfl) ?_
      refine lv_i2l hx hb dm_remove_19 rfl ?_
      refine W.lcmp hx hb dm_remove_20 ?_
      refine lv_if_eq (tgt := 51) hx hb dm_remove_21 (by decide) (fun c3 => ?_) (fun c3 => ?_)
      · have hf := ifp c3 hf
        refine lv_iinc (v := (x3 + 1)) (lv' := [(3, .int (x3 + 1)), (0, .ref (gm 0)), (1, .int x1), (2, .int x2)]) hx hb dm_remove_51 hl (k := 3) rfl rfl (by decide) rfl (fun ls hl => ?_)
        refine lv_goto (tgt := 4) hx hb dm_remove_54 (by decide) ?_
        exact ih _ _ _ _ _ _ _ hB (lv_sub hl [1, 2, 3, 0] rfl) hf
      · have hf := ifn c3 hf
        refine lv_aload_n hx hb dm_remove_24 rfl (lv_at hl 0 rfl) ?_
        refine qbg_keys hx hb hown hts hK hB.1 dm_remove_25 ?_
        refine lv_iload_n hx hb dm_remove_28 rfl (lv_at hl 2 rfl) ?_
        refine lv_aload_n hx hb dm_remove_29 rfl (lv_at hl 0 rfl) ?_
        refine qbg_keys hx hb hown hts hK hB.1 dm_remove_30 ?_
        refine lv_iload_n hx hb dm_remove_33 rfl (lv_at hl 3 rfl) ?_
        obtain ⟨r4, er4, ir4, hf⟩ := rdL_some hf
        refine qbl_keys hx hb hK hB.1 ir4 er4 dm_remove_34 ?_
        obtain ⟨a5, ea5, ia5, hf⟩ := wrL_some hf
        refine qbt_keys hx hb hK hB ia5 ea5 dm_remove_35 (fun H locs hB => ?_)
        refine lv_aload_n hx hb dm_remove_36 rfl (lv_at hl 0 rfl) ?_
        refine qbg_values hx hb hown hts hK hB.1 dm_remove_37 ?_
        refine lv_iload_n hx hb dm_remove_40 rfl (lv_at hl 2 rfl) ?_
        refine lv_aload_n hx hb dm_remove_41 rfl (lv_at hl 0 rfl) ?_
        refine qbg_values hx hb hown hts hK hB.1 dm_remove_42 ?_
        refine lv_iload_n hx hb dm_remove_45 rfl (lv_at hl 3 rfl) ?_
        obtain ⟨r6, er6, ir6, hf⟩ := rdL_some hf
        refine qbl_values hx hb hK hB.1 ir6 er6 dm_remove_46 ?_
        obtain ⟨a7, ea7, ia7, hf⟩ := wrL_some hf
        refine qbt_values hx hb hK hB ia7 ea7 dm_remove_47 (fun H locs hB => ?_)
        refine lv_iinc (v := (x2 + 1)) (lv' := [(2, .int (x2 + 1)), (0, .ref (gm 0)), (1, .int x1), (3, .int x3)]) hx hb dm_remove_48 hl (k := 2) rfl rfl (by decide) rfl (fun ls hl => ?_)
        refine lv_iinc (v := (x3 + 1)) (lv' := [(3, .int (x3 + 1)), (2, .int (x2 + 1)), (0, .ref (gm 0)), (1, .int x1)]) hx hb dm_remove_51 hl (k := 3) rfl rfl (by decide) rfl (fun ls hl => ?_)
        refine lv_goto (tgt := 4) hx hb dm_remove_54 (by decide) ?_
        exact ih _ _ _ _ _ _ _ hB (lv_sub hl [2, 3, 1, 0] rfl) hf
set_option maxRecDepth 100000 in
set_option maxHeartbeats 4000000 in
theorem wm_remove_0 {p : Program} {l : Launch} {e : Env} {s : State} {m : MethodId} {args : Array Value} {below : List Frame} {meth : Method} {c : Code} {D : va_G} {gm : Nat → Nat} {ca : Nat → ClassId} {A : Nat → Prop} {st : MSt} (hX : MX p l e rmm_remove s m args meth c D ca A km_remove 4 (none)) (hB : MWd D gm ca A s.heap st s.heap []) (n : Nat) : ∀ (x1 : Int32) {st' : MSt} (ls : Array Slot), lv_has ls 4 [(0, .ref (gm 0)), (1, .int x1)] → fm_remove n st x1 = some st' → W p l e rmm_remove s m args below meth c s.heap [] 0 0 (MQX below (qmm_Q D gm ca A (XV) st') args s 0 0 A) (F0 m 0 ls []) := by
  obtain ⟨hx, hb, hml, hr, hlk, hown, hts, hK, htr, hZ, hnh, hA, hfl⟩ := id hX
  intro x1 st' ls hl hf
  rw [fm_remove] at hf
  refine lv_iconst (v := 0) hx hb dm_remove_0 (by decide) ?_
  refine lv_istore_n (lv' := [(2, .int 0), (0, .ref (gm 0)), (1, .int x1)]) hx hb dm_remove_1 rfl hl (by decide) rfl (fun ls hl => ?_)
  refine lv_iconst (v := 0) hx hb dm_remove_2 (by decide) ?_
  refine lv_istore_n (lv' := [(3, .int 0), (2, .int 0), (0, .ref (gm 0)), (1, .int x1)]) hx hb dm_remove_3 rfl hl (by decide) rfl (fun ls hl => ?_)
  exact wm_remove_4 hX n n _ _ _ _ _ _ _ hB (lv_sub hl [2, 3, 1, 0] rfl) hf
set_option maxRecDepth 100000 in
set_option maxHeartbeats 4000000 in
theorem cq_remove {l : Launch} (hfl : l.flags = flags0) {D : va_G} {gm : Nat → Nat} {ca : Nat → ClassId} {st : MSt} {n : Nat} {x1 : Int32} {st' : MSt} (hf : fm_remove n st x1 = some st') : MMm l ym_remove rmm_remove D gm ca [.int x1] st (XV) st' :=
  MMm.of hfl (by decide +kernel) rfl mcm_remove (fun p e s m below meth c A _ hX hB => wm_remove_0 hX hB n _ _ (lv_entry _ (Nat.le_of_ble_eq_true rfl)) hf)
set_option maxRecDepth 100000 in
set_option maxHeartbeats 4000000 in
theorem wm_nextFree_9 {p : Program} {l : Launch} {e : Env} {s : State} {m : MethodId} {args : Array Value} {below : List Frame} {meth : Method} {c : Code} {D : va_G} {gm : Nat → Nat} {ca : Nat → ClassId} {A : Nat → Prop} {st : MSt} (hX : MX p l e rmm_nextFree s m args meth c D ca A km_nextFree 3 (some .int)) (hP : va_P D vwCl (wM gm ca st) s.heap) (n : Nat) :∀ (k : Nat), ∀ (x1 : Int32) (x2 : Int32) {r : Int32} (ls : Array Slot), lv_has ls 3 [(0, .ref (gm 0)), (1, .int x1), (2, .int x2)] → fm_nextFree_9 n k st x1 x2 = some r → W p l e rmm_nextFree s m args below meth c s.heap [] 0 0 (MQX below (xx_Q (XI r)) args s 0 0 (fun _ => False)) (F0 m 9 ls []) := by
  obtain ⟨hx, hb, hml, hr, hlk, hown, hts, hK, htr, hZ, hnh, hA, hfl⟩ := id hX
  intro k
  induction k with
  | zero =>
    intro x1 x2 r ls hl hf
    rw [fm_nextFree_9] at hf
    cases hf
  | succ k ih =>
    intro x1 x2 r ls hl hf
    rw [fm_nextFree_9] at hf
    refine lv_iload_n hx hb dm_nextFree_9 rfl (lv_at hl 2 rfl) ?_
    refine lv_if_lt (tgt := 42) hx hb dm_nextFree_10 (by decide) (fun c1 => ?_) (fun c1 => ?_)
    · have hf := ifp c1 hf
      refine lv_iload_n hx hb dm_nextFree_42 rfl (lv_at hl 1 rfl) ?_
      cases hf
      exact er_i hx hb hr hlk dm_nextFree_43
    · have hf := ifn c1 hf
      refine lv_aload_n hx hb dm_nextFree_13 rfl (lv_at hl 0 rfl) ?_
      refine lv_iload_n hx hb dm_nextFree_14 rfl (lv_at hl 2 rfl) ?_
      obtain ⟨r2, h3, hf⟩ := obs hf
      refine qrmI (cq_isFree (l := l) (hfl := hfl) h3) (cw_m_isFree hts ⟨by decide, by decide⟩) hx hb hml hown hts hK hP va_S.rf hZ hl.1 rfl rfl (lv_room (Nat.le_of_ble_eq_true rfl)) dm_nextFree_15 ⟨by decide, by decide⟩ ?_
      refine lv_if_eq (tgt := 34) hx hb dm_nextFree_18 (by decide) (fun c4 => ?_) (fun c4 => ?_)
      · have hf := ifp c4 hf
        refine lv_iload_n hx hb dm_nextFree_34 rfl (lv_at hl 1 rfl) ?_
        refine lv_istore_n (lv' := [(1, .int x1), (0, .ref (gm 0)), (2, .int x2)]) hx hb dm_nextFree_35 rfl hl (by decide) rfl (fun ls hl => ?_)
        refine lv_iinc (v := (x2 + (-1))) (lv' := [(2, .int (x2 + (-1))), (1, .int x1), (0, .ref (gm 0))]) hx hb dm_nextFree_36 hl (k := 2) rfl rfl (by decide) rfl (fun ls hl => ?_)
        refine lv_goto (tgt := 9) hx hb dm_nextFree_39 (by decide) ?_
        exact ih _ _ _ (lv_sub hl [2, 1, 0] rfl) hf
      · have hf := ifn c4 hf
        refine lv_aload_n hx hb dm_nextFree_21 rfl (lv_at hl 0 rfl) ?_
        refine qbg_taken hx hb hown hts hK hP dm_nextFree_22 ?_
        refine lv_iload_n hx hb dm_nextFree_25 rfl (lv_at hl 2 rfl) ?_
        obtain ⟨r5, er5, ir5, hf⟩ := rdI_some hf
        refine qbl_taken hx hb hK hP ir5 er5 dm_nextFree_26 ?_
        refine lv_if_ne (tgt := 34) hx hb dm_nextFree_27 (by decide) (fun c6 => ?_) (fun c6 => ?_)
        · have hf := ifn c6 hf
          refine lv_iload_n hx hb dm_nextFree_34 rfl (lv_at hl 1 rfl) ?_
          refine lv_istore_n (lv' := [(1, .int x1), (0, .ref (gm 0)), (2, .int x2)]) hx hb dm_nextFree_35 rfl hl (by decide) rfl (fun ls hl => ?_)
          refine lv_iinc (v := (x2 + (-1))) (lv' := [(2, .int (x2 + (-1))), (1, .int x1), (0, .ref (gm 0))]) hx hb dm_nextFree_36 hl (k := 2) rfl rfl (by decide) rfl (fun ls hl => ?_)
          refine lv_goto (tgt := 9) hx hb dm_nextFree_39 (by decide) ?_
          exact ih _ _ _ (lv_sub hl [2, 1, 0] rfl) hf
        · have hf := ifp c6 hf
          refine lv_iload_n hx hb dm_nextFree_30 rfl (lv_at hl 2 rfl) ?_
          refine lv_goto (tgt := 35) hx hb dm_nextFree_31 (by decide) ?_
          refine lv_istore_n (lv' := [(1, .int x2), (0, .ref (gm 0)), (2, .int x2)]) hx hb dm_nextFree_35 rfl hl (by decide) rfl (fun ls hl => ?_)
          refine lv_iinc (v := (x2 + (-1))) (lv' := [(2, .int (x2 + (-1))), (1, .int x2), (0, .ref (gm 0))]) hx hb dm_nextFree_36 hl (k := 2) rfl rfl (by decide) rfl (fun ls hl => ?_)
          refine lv_goto (tgt := 9) hx hb dm_nextFree_39 (by decide) ?_
          exact ih _ _ _ (lv_sub hl [2, 1, 0] rfl) hf
set_option maxRecDepth 100000 in
set_option maxHeartbeats 4000000 in
theorem wm_nextFree_0 {p : Program} {l : Launch} {e : Env} {s : State} {m : MethodId} {args : Array Value} {below : List Frame} {meth : Method} {c : Code} {D : va_G} {gm : Nat → Nat} {ca : Nat → ClassId} {A : Nat → Prop} {st : MSt} (hX : MX p l e rmm_nextFree s m args meth c D ca A km_nextFree 3 (some .int)) (hP : va_P D vwCl (wM gm ca st) s.heap) (n : Nat) : ∀ {r : Int32} (ls : Array Slot), lv_has ls 3 [(0, .ref (gm 0))] → fm_nextFree n st = some r → W p l e rmm_nextFree s m args below meth c s.heap [] 0 0 (MQX below (xx_Q (XI r)) args s 0 0 (fun _ => False)) (F0 m 0 ls []) := by
  obtain ⟨hx, hb, hml, hr, hlk, hown, hts, hK, htr, hZ, hnh, hA, hfl⟩ := id hX
  intro r ls hl hf
  rw [fm_nextFree] at hf
  refine lv_iconst (v := (-1)) hx hb dm_nextFree_0 (by decide) ?_
  refine lv_istore_n (lv' := [(1, .int (-1)), (0, .ref (gm 0))]) hx hb dm_nextFree_1 rfl hl (by decide) rfl (fun ls hl => ?_)
  refine lv_aload_n hx hb dm_nextFree_2 rfl (lv_at hl 1 rfl) ?_
  refine qbg_pages hx hb hown hts hK hP dm_nextFree_3 ?_
  refine lv_iconst (v := 1) hx hb dm_nextFree_6 (by decide) ?_
  refine lv_isub hx hb dm_nextFree_7 ?_
  refine lv_istore_n (lv' := [(2, .int ((qbs_pages st) - 1)), (1, .int (-1)), (0, .ref (gm 0))]) hx hb dm_nextFree_8 rfl hl (by decide) rfl (fun ls hl => ?_)
  exact wm_nextFree_9 hX hP n n _ _ _ (lv_sub hl [2, 1, 0] rfl) hf
set_option maxRecDepth 100000 in
set_option maxHeartbeats 4000000 in
theorem cq_nextFree {l : Launch} (hfl : l.flags = flags0) {D : va_G} {gm : Nat → Nat} {ca : Nat → ClassId} {st : MSt} {n : Nat} {r : Int32} (hf : fm_nextFree n st = some r) : RMm l ym_nextFree rmm_nextFree D gm ca [] st (XI r) :=
  RMm.of hfl (by decide +kernel) rfl mcm_nextFree (fun p e s m below meth c hX hP => wm_nextFree_0 hX hP n _ (lv_entry _ (Nat.le_of_ble_eq_true rfl)) hf)
set_option maxRecDepth 100000 in
set_option maxHeartbeats 4000000 in
theorem wm_writeLeaf_17 {p : Program} {l : Launch} {e : Env} {s : State} {m : MethodId} {args : Array Value} {below : List Frame} {meth : Method} {c : Code} {D : va_G} {gm : Nat → Nat} {ca : Nat → ClassId} {A : Nat → Prop} (hX : MX p l e rmm_writeLeaf s m args meth c D ca A km_writeLeaf 6 (none)) (n : Nat) :∀ (k : Nat), ∀ (st : MSt) (x2 : Int32) (x3 : Int32) (x4 : Int32) (x5 : Int32) {st' : MSt} (ls : Array Slot) (H : Heap) (locs : List Loc), MWd D gm ca A s.heap st H locs → lv_has ls 6 [(0, .ref (gm 0)), (2, .int x2), (3, .int x3), (4, .int x4), (5, .int x5)] → fm_writeLeaf_17 n k st x2 x3 x4 x5 = some st' → W p l e rmm_writeLeaf s m args below meth c H locs 0 0 (MQX below (qmm_Q D gm ca A (XV) st') args s 0 0 A) (F0 m 17 ls []) := by
  obtain ⟨hx, hb, hml, hr, hlk, hown, hts, hK, htr, hZ, hnh, hA, hfl⟩ := id hX
  intro k
  induction k with
  | zero =>
    intro st x2 x3 x4 x5 st' ls H locs hB hl hf
    rw [fm_writeLeaf_17] at hf
    cases hf
  | succ k ih =>
    intro st x2 x3 x4 x5 st' ls H locs hB hl hf
    rw [fm_writeLeaf_17] at hf
    refine lv_iload hx hb dm_writeLeaf_17 (lv_at hl 4 rfl) ?_
    refine lv_bipush (v := 7) hx hb dm_writeLeaf_19 (by decide) ?_
    refine lv_icmp_ge (tgt := 94) hx hb dm_writeLeaf_21 (by decide) (fun c1 => ?_) (fun c1 => ?_)
    · have hf := ifp c1 hf
      refine lv_aload_n hx hb dm_writeLeaf_94 rfl (lv_at hl 0 rfl) ?_
      refine lv_iload hx hb dm_writeLeaf_95 (lv_at hl 3 rfl) ?_
      refine lv_bipush (v := 15) hx hb dm_writeLeaf_97 (by decide) ?_
      refine lv_iadd hx hb dm_writeLeaf_99 ?_
      refine lv_aload_n hx hb dm_writeLeaf_100 rfl (lv_at hl 0 rfl) ?_
      refine lv_iload hx hb dm_writeLeaf_101 (lv_at hl 3 rfl) ?_
      refine lv_bipush (v := 15) hx hb dm_writeLeaf_103 (by decide) ?_
      obtain ⟨r2, h3, hf⟩ := obs hf
      refine qrmL (cq_sum (l := l) (hfl := hfl) h3) (cw_m_sum hts ⟨by decide, by decide⟩) hx hb hml hown hts hK hB.1 hB.2.2 hZ hl.1 rfl rfl (lv_room (Nat.le_of_ble_eq_true rfl)) dm_writeLeaf_105 ⟨by decide, by decide⟩ ?_
      obtain ⟨st4, h5, hf⟩ := obs hf
      refine qmmV (cq_write (l := l) (hfl := hfl) h5) (cw_m_write hts ⟨by decide, by decide⟩) hx hb hml hown hts hK hB hZ hA hl.1 rfl rfl (lv_room (Nat.le_of_ble_eq_true rfl)) dm_writeLeaf_108 ⟨by decide, by decide⟩ (fun H locs hB => ?_)
      cases hf
      exact qem_v hx hb hr hlk hB dm_writeLeaf_111
    · have hf := ifn c1 hf
      refine lv_aload_n hx hb dm_writeLeaf_24 rfl (lv_at hl 0 rfl) ?_
      refine lv_iload hx hb dm_writeLeaf_25 (lv_at hl 3 rfl) ?_
      refine lv_iconst (v := 1) hx hb dm_writeLeaf_27 (by decide) ?_
      refine lv_iadd hx hb dm_writeLeaf_28 ?_
      refine lv_iconst (v := 2) hx hb dm_writeLeaf_29 (by decide) ?_
      refine lv_iload hx hb dm_writeLeaf_30 (lv_at hl 4 rfl) ?_
      refine lv_imul hx hb dm_writeLeaf_32 ?_
      refine lv_iadd hx hb dm_writeLeaf_33 ?_
      refine lv_iload hx hb dm_writeLeaf_34 (lv_at hl 4 rfl) ?_
      refine lv_iload_n hx hb dm_writeLeaf_36 rfl (lv_at hl 2 rfl) ?_
      refine lv_icmp_ge (tgt := 52) hx hb dm_writeLeaf_37 (by decide) (fun c6 => ?_) (fun c6 => ?_)
      · have hf := ifp c6 hf
        refine lv_lconst (v := 0) hx hb dm_writeLeaf_52 (by decide) ?_
        obtain ⟨st7, h8, hf⟩ := obs hf
        refine qmmV (cq_write (l := l) (hfl := hfl) h8) (cw_m_write hts ⟨by decide, by decide⟩) hx hb hml hown hts hK hB hZ hA hl.1 rfl rfl (lv_room (Nat.le_of_ble_eq_true rfl)) dm_writeLeaf_53 ⟨by decide, by decide⟩ (fun H locs hB => ?_)
        refine lv_aload_n hx hb dm_writeLeaf_56 rfl (lv_at hl 0 rfl) ?_
        refine lv_iload hx hb dm_writeLeaf_57 (lv_at hl 3 rfl) ?_
        refine lv_iconst (v := 2) hx hb dm_writeLeaf_59 (by decide) ?_
        refine lv_iadd hx hb dm_writeLeaf_60 ?_
        refine lv_iconst (v := 2) hx hb dm_writeLeaf_61 (by decide) ?_
        refine lv_iload hx hb dm_writeLeaf_62 (lv_at hl 4 rfl) ?_
        refine lv_imul hx hb dm_writeLeaf_64 ?_
        refine lv_iadd hx hb dm_writeLeaf_65 ?_
        refine lv_iload hx hb dm_writeLeaf_66 (lv_at hl 4 rfl) ?_
        refine lv_iload_n hx hb dm_writeLeaf_68 rfl (lv_at hl 2 rfl) ?_
        refine lv_icmp_ge (tgt := 84) hx hb dm_writeLeaf_69 (by decide) (fun c9 => ?_) (fun c9 => ?_)
        · have hf := ifp c9 hf
          refine lv_lconst (v := 0) hx hb dm_writeLeaf_84 (by decide) ?_
          obtain ⟨st10, h11, hf⟩ := obs hf
          refine qmmV (cq_write (l := l) (hfl := hfl) h11) (cw_m_write hts ⟨by decide, by decide⟩) hx hb hml hown hts hK hB hZ hA hl.1 rfl rfl (lv_room (Nat.le_of_ble_eq_true rfl)) dm_writeLeaf_85 ⟨by decide, by decide⟩ (fun H locs hB => ?_)
          refine lv_iinc (v := (x5 + 1)) (lv' := [(5, .int (x5 + 1)), (0, .ref (gm 0)), (2, .int x2), (3, .int x3), (4, .int x4)]) hx hb dm_writeLeaf_88 hl (k := 4) rfl rfl (by decide) rfl (fun ls hl => ?_)
          refine lv_goto (tgt := 17) hx hb dm_writeLeaf_91 (by decide) ?_
          exact ih _ _ _ _ _ _ _ _ hB (lv_sub hl [1, 2, 3, 4, 0] rfl) hf
        · have hf := ifn c9 hf
          refine lv_aload_n hx hb dm_writeLeaf_72 rfl (lv_at hl 0 rfl) ?_
          refine qbg_values hx hb hown hts hK hB.1 dm_writeLeaf_73 ?_
          refine lv_iload_n hx hb dm_writeLeaf_76 rfl (lv_at hl 1 rfl) ?_
          refine lv_iload hx hb dm_writeLeaf_77 (lv_at hl 4 rfl) ?_
          refine lv_iadd hx hb dm_writeLeaf_79 ?_
          obtain ⟨r12, er12, ir12, hf⟩ := rdL_some hf
          refine qbl_values hx hb hK hB.1 ir12 er12 dm_writeLeaf_80 ?_
          refine lv_goto (tgt := 85) hx hb dm_writeLeaf_81 (by decide) ?_
          obtain ⟨st13, h14, hf⟩ := obs hf
          refine qmmV (cq_write (l := l) (hfl := hfl) h14) (cw_m_write hts ⟨by decide, by decide⟩) hx hb hml hown hts hK hB hZ hA hl.1 rfl rfl (lv_room (Nat.le_of_ble_eq_true rfl)) dm_writeLeaf_85 ⟨by decide, by decide⟩ (fun H locs hB => ?_)
          refine lv_iinc (v := (x5 + 1)) (lv' := [(5, .int (x5 + 1)), (0, .ref (gm 0)), (2, .int x2), (3, .int x3), (4, .int x4)]) hx hb dm_writeLeaf_88 hl (k := 4) rfl rfl (by decide) rfl (fun ls hl => ?_)
          refine lv_goto (tgt := 17) hx hb dm_writeLeaf_91 (by decide) ?_
          exact ih _ _ _ _ _ _ _ _ hB (lv_sub hl [1, 2, 3, 4, 0] rfl) hf
      · have hf := ifn c6 hf
        refine lv_aload_n hx hb dm_writeLeaf_40 rfl (lv_at hl 0 rfl) ?_
        refine qbg_keys hx hb hown hts hK hB.1 dm_writeLeaf_41 ?_
        refine lv_iload_n hx hb dm_writeLeaf_44 rfl (lv_at hl 1 rfl) ?_
        refine lv_iload hx hb dm_writeLeaf_45 (lv_at hl 4 rfl) ?_
        refine lv_iadd hx hb dm_writeLeaf_47 ?_
        obtain ⟨r15, er15, ir15, hf⟩ := rdL_some hf
        refine qbl_keys hx hb hK hB.1 ir15 er15 dm_writeLeaf_48 ?_
        refine lv_goto (tgt := 53) hx hb dm_writeLeaf_49 (by decide) ?_
        obtain ⟨st16, h17, hf⟩ := obs hf
        refine qmmV (cq_write (l := l) (hfl := hfl) h17) (cw_m_write hts ⟨by decide, by decide⟩) hx hb hml hown hts hK hB hZ hA hl.1 rfl rfl (lv_room (Nat.le_of_ble_eq_true rfl)) dm_writeLeaf_53 ⟨by decide, by decide⟩ (fun H locs hB => ?_)
        refine lv_aload_n hx hb dm_writeLeaf_56 rfl (lv_at hl 0 rfl) ?_
        refine lv_iload hx hb dm_writeLeaf_57 (lv_at hl 3 rfl) ?_
        refine lv_iconst (v := 2) hx hb dm_writeLeaf_59 (by decide) ?_
        refine lv_iadd hx hb dm_writeLeaf_60 ?_
        refine lv_iconst (v := 2) hx hb dm_writeLeaf_61 (by decide) ?_
        refine lv_iload hx hb dm_writeLeaf_62 (lv_at hl 4 rfl) ?_
        refine lv_imul hx hb dm_writeLeaf_64 ?_
        refine lv_iadd hx hb dm_writeLeaf_65 ?_
        refine lv_iload hx hb dm_writeLeaf_66 (lv_at hl 4 rfl) ?_
        refine lv_iload_n hx hb dm_writeLeaf_68 rfl (lv_at hl 2 rfl) ?_
        refine lv_icmp_ge (tgt := 84) hx hb dm_writeLeaf_69 (by decide) (fun c18 => ?_) (fun c18 => ?_)
        · have hf := ifp c18 hf
          refine lv_lconst (v := 0) hx hb dm_writeLeaf_84 (by decide) ?_
          obtain ⟨st19, h20, hf⟩ := obs hf
          refine qmmV (cq_write (l := l) (hfl := hfl) h20) (cw_m_write hts ⟨by decide, by decide⟩) hx hb hml hown hts hK hB hZ hA hl.1 rfl rfl (lv_room (Nat.le_of_ble_eq_true rfl)) dm_writeLeaf_85 ⟨by decide, by decide⟩ (fun H locs hB => ?_)
          refine lv_iinc (v := (x5 + 1)) (lv' := [(5, .int (x5 + 1)), (0, .ref (gm 0)), (2, .int x2), (3, .int x3), (4, .int x4)]) hx hb dm_writeLeaf_88 hl (k := 4) rfl rfl (by decide) rfl (fun ls hl => ?_)
          refine lv_goto (tgt := 17) hx hb dm_writeLeaf_91 (by decide) ?_
          exact ih _ _ _ _ _ _ _ _ hB (lv_sub hl [1, 2, 3, 4, 0] rfl) hf
        · have hf := ifn c18 hf
          refine lv_aload_n hx hb dm_writeLeaf_72 rfl (lv_at hl 0 rfl) ?_
          refine qbg_values hx hb hown hts hK hB.1 dm_writeLeaf_73 ?_
          refine lv_iload_n hx hb dm_writeLeaf_76 rfl (lv_at hl 1 rfl) ?_
          refine lv_iload hx hb dm_writeLeaf_77 (lv_at hl 4 rfl) ?_
          refine lv_iadd hx hb dm_writeLeaf_79 ?_
          obtain ⟨r21, er21, ir21, hf⟩ := rdL_some hf
          refine qbl_values hx hb hK hB.1 ir21 er21 dm_writeLeaf_80 ?_
          refine lv_goto (tgt := 85) hx hb dm_writeLeaf_81 (by decide) ?_
          obtain ⟨st22, h23, hf⟩ := obs hf
          refine qmmV (cq_write (l := l) (hfl := hfl) h23) (cw_m_write hts ⟨by decide, by decide⟩) hx hb hml hown hts hK hB hZ hA hl.1 rfl rfl (lv_room (Nat.le_of_ble_eq_true rfl)) dm_writeLeaf_85 ⟨by decide, by decide⟩ (fun H locs hB => ?_)
          refine lv_iinc (v := (x5 + 1)) (lv' := [(5, .int (x5 + 1)), (0, .ref (gm 0)), (2, .int x2), (3, .int x3), (4, .int x4)]) hx hb dm_writeLeaf_88 hl (k := 4) rfl rfl (by decide) rfl (fun ls hl => ?_)
          refine lv_goto (tgt := 17) hx hb dm_writeLeaf_91 (by decide) ?_
          exact ih _ _ _ _ _ _ _ _ hB (lv_sub hl [1, 2, 3, 4, 0] rfl) hf
set_option maxRecDepth 100000 in
set_option maxHeartbeats 4000000 in
theorem wm_writeLeaf_0 {p : Program} {l : Launch} {e : Env} {s : State} {m : MethodId} {args : Array Value} {below : List Frame} {meth : Method} {c : Code} {D : va_G} {gm : Nat → Nat} {ca : Nat → ClassId} {A : Nat → Prop} {st : MSt} (hX : MX p l e rmm_writeLeaf s m args meth c D ca A km_writeLeaf 6 (none)) (hB : MWd D gm ca A s.heap st s.heap []) (n : Nat) : ∀ (x1 : Int32) (x2 : Int32) (x3 : Int32) {st' : MSt} (ls : Array Slot), lv_has ls 6 [(0, .ref (gm 0)), (1, .int x1), (2, .int x2), (3, .int x3)] → fm_writeLeaf n st x1 x2 x3 = some st' → W p l e rmm_writeLeaf s m args below meth c s.heap [] 0 0 (MQX below (qmm_Q D gm ca A (XV) st') args s 0 0 A) (F0 m 0 ls []) := by
  obtain ⟨hx, hb, hml, hr, hlk, hown, hts, hK, htr, hZ, hnh, hA, hfl⟩ := id hX
  intro x1 x2 x3 st' ls hl hf
  rw [fm_writeLeaf] at hf
  refine lv_bipush (v := 16) hx hb dm_writeLeaf_0 (by decide) ?_
  refine lv_iload_n hx hb dm_writeLeaf_2 rfl (lv_at hl 1 rfl) ?_
  refine lv_imul hx hb dm_writeLeaf_3 ?_
  refine lv_istore (lv' := [(4, .int (16 * x1)), (0, .ref (gm 0)), (1, .int x1), (2, .int x2), (3, .int x3)]) hx hb dm_writeLeaf_4 hl (by decide) rfl (fun ls hl => ?_)
  refine lv_aload_n hx hb dm_writeLeaf_6 rfl (lv_at hl 1 rfl) ?_
  refine lv_iload hx hb dm_writeLeaf_7 (lv_at hl 0 rfl) ?_
  refine lv_iload_n hx hb dm_writeLeaf_9 rfl (lv_at hl 4 rfl) ?_
  refine lv_i2l hx hb dm_writeLeaf_10 rfl ?_
  obtain ⟨st1, h2, hf⟩ := obs hf
  refine qmmV (cq_write (l := l) (hfl := hfl) h2) (cw_m_write hts ⟨by decide, by decide⟩) hx hb hml hown hts hK hB hZ hA hl.1 rfl rfl (lv_room (Nat.le_of_ble_eq_true rfl)) dm_writeLeaf_11 ⟨by decide, by decide⟩ (fun H locs hB => ?_)
  refine lv_iconst (v := 0) hx hb dm_writeLeaf_14 (by decide) ?_
  refine lv_istore (lv' := [(5, .int 0), (4, .int (16 * x1)), (0, .ref (gm 0)), (1, .int x1), (2, .int x2), (3, .int x3)]) hx hb dm_writeLeaf_15 hl (by decide) rfl (fun ls hl => ?_)
  exact wm_writeLeaf_17 hX n n _ _ _ _ _ _ _ _ hB (lv_sub hl [2, 4, 5, 1, 0] rfl) hf
set_option maxRecDepth 100000 in
set_option maxHeartbeats 4000000 in
theorem cq_writeLeaf {l : Launch} (hfl : l.flags = flags0) {D : va_G} {gm : Nat → Nat} {ca : Nat → ClassId} {st : MSt} {n : Nat} {x1 : Int32} {x2 : Int32} {x3 : Int32} {st' : MSt} (hf : fm_writeLeaf n st x1 x2 x3 = some st') : MMm l ym_writeLeaf rmm_writeLeaf D gm ca [.int x1, .int x2, .int x3] st (XV) st' :=
  MMm.of hfl (by decide +kernel) rfl mcm_writeLeaf (fun p e s m below meth c A _ hX hB => wm_writeLeaf_0 hX hB n _ _ _ _ (lv_entry _ (Nat.le_of_ble_eq_true rfl)) hf)
set_option maxRecDepth 100000 in
set_option maxHeartbeats 4000000 in
theorem wm_writeRoot_37 {p : Program} {l : Launch} {e : Env} {s : State} {m : MethodId} {args : Array Value} {below : List Frame} {meth : Method} {c : Code} {D : va_G} {gm : Nat → Nat} {ca : Nat → ClassId} {A : Nat → Prop} (hX : MX p l e rmm_writeRoot s m args meth c D ca A km_writeRoot 6 (none)) (n : Nat) :∀ (k : Nat), ∀ (st : MSt) (x2 : Int64) (x4 : Int32) (x5 : Int32) {st' : MSt} (ls : Array Slot) (H : Heap) (locs : List Loc), MWd D gm ca A s.heap st H locs → lv_has ls 6 [(0, .ref (gm 0)), (2, .long x2), (4, .int x4), (5, .int x5)] → fm_writeRoot_37 n k st x2 x4 x5 = some st' → W p l e rmm_writeRoot s m args below meth c H locs 0 0 (MQX below (qmm_Q D gm ca A (XV) st') args s 0 0 A) (F0 m 37 ls []) := by
  obtain ⟨hx, hb, hml, hr, hlk, hown, hts, hK, htr, hZ, hnh, hA, hfl⟩ := id hX
  intro k
  induction k with
  | zero =>
    intro st x2 x4 x5 st' ls H locs hB hl hf
    rw [fm_writeRoot_37] at hf
    cases hf
  | succ k ih =>
    intro st x2 x4 x5 st' ls H locs hB hl hf
    rw [fm_writeRoot_37] at hf
    refine lv_iload hx hb dm_writeRoot_37 (lv_at hl 3 rfl) ?_
    refine lv_bipush (v := 16) hx hb dm_writeRoot_39 (by decide) ?_
    refine lv_icmp_ge (tgt := 82) hx hb dm_writeRoot_41 (by decide) (fun c1 => ?_) (fun c1 => ?_)
    · have hf := ifp c1 hf
      refine lv_aload_n hx hb dm_writeRoot_82 rfl (lv_at hl 0 rfl) ?_
      refine lv_iload hx hb dm_writeRoot_83 (lv_at hl 2 rfl) ?_
      refine lv_bipush (v := 18) hx hb dm_writeRoot_85 (by decide) ?_
      refine lv_iadd hx hb dm_writeRoot_87 ?_
      refine lv_lload_n hx hb dm_writeRoot_88 rfl (lv_at hl 1 rfl) ?_
      obtain ⟨st2, h3, hf⟩ := obs hf
      refine qmmV (cq_write (l := l) (hfl := hfl) h3) (cw_m_write hts ⟨by decide, by decide⟩) hx hb hml hown hts hK hB hZ hA hl.1 rfl rfl (lv_room (Nat.le_of_ble_eq_true rfl)) dm_writeRoot_89 ⟨by decide, by decide⟩ (fun H locs hB => ?_)
      refine lv_aload_n hx hb dm_writeRoot_92 rfl (lv_at hl 0 rfl) ?_
      refine lv_iload hx hb dm_writeRoot_93 (lv_at hl 2 rfl) ?_
      refine lv_bipush (v := 19) hx hb dm_writeRoot_95 (by decide) ?_
      refine lv_iadd hx hb dm_writeRoot_97 ?_
      refine lv_aload_n hx hb dm_writeRoot_98 rfl (lv_at hl 0 rfl) ?_
      refine lv_iload hx hb dm_writeRoot_99 (lv_at hl 2 rfl) ?_
      refine lv_bipush (v := 19) hx hb dm_writeRoot_101 (by decide) ?_
      obtain ⟨r4, h5, hf⟩ := obs hf
      refine qrmL (cq_sum (l := l) (hfl := hfl) h5) (cw_m_sum hts ⟨by decide, by decide⟩) hx hb hml hown hts hK hB.1 hB.2.2 hZ hl.1 rfl rfl (lv_room (Nat.le_of_ble_eq_true rfl)) dm_writeRoot_103 ⟨by decide, by decide⟩ ?_
      obtain ⟨st6, h7, hf⟩ := obs hf
      refine qmmV (cq_write (l := l) (hfl := hfl) h7) (cw_m_write hts ⟨by decide, by decide⟩) hx hb hml hown hts hK hB hZ hA hl.1 rfl rfl (lv_room (Nat.le_of_ble_eq_true rfl)) dm_writeRoot_106 ⟨by decide, by decide⟩ (fun H locs hB => ?_)
      cases hf
      exact qem_v hx hb hr hlk hB dm_writeRoot_109
    · have hf := ifn c1 hf
      refine lv_aload_n hx hb dm_writeRoot_44 rfl (lv_at hl 0 rfl) ?_
      refine lv_iload hx hb dm_writeRoot_45 (lv_at hl 2 rfl) ?_
      refine lv_iconst (v := 2) hx hb dm_writeRoot_47 (by decide) ?_
      refine lv_iadd hx hb dm_writeRoot_48 ?_
      refine lv_iload hx hb dm_writeRoot_49 (lv_at hl 3 rfl) ?_
      refine lv_iadd hx hb dm_writeRoot_51 ?_
      refine lv_iload hx hb dm_writeRoot_52 (lv_at hl 3 rfl) ?_
      refine lv_aload_n hx hb dm_writeRoot_54 rfl (lv_at hl 0 rfl) ?_
      refine qbg_leafCount hx hb hown hts hK hB.1 dm_writeRoot_55 ?_
      refine lv_icmp_ge (tgt := 72) hx hb dm_writeRoot_58 (by decide) (fun c8 => ?_) (fun c8 => ?_)
      · have hf := ifp c8 hf
        refine lv_lconst (v := 0) hx hb dm_writeRoot_72 (by decide) ?_
        obtain ⟨st9, h10, hf⟩ := obs hf
        refine qmmV (cq_write (l := l) (hfl := hfl) h10) (cw_m_write hts ⟨by decide, by decide⟩) hx hb hml hown hts hK hB hZ hA hl.1 rfl rfl (lv_room (Nat.le_of_ble_eq_true rfl)) dm_writeRoot_73 ⟨by decide, by decide⟩ (fun H locs hB => ?_)
        refine lv_iinc (v := (x5 + 1)) (lv' := [(5, .int (x5 + 1)), (0, .ref (gm 0)), (2, .long x2), (4, .int x4)]) hx hb dm_writeRoot_76 hl (k := 3) rfl rfl (by decide) rfl (fun ls hl => ?_)
        refine lv_goto (tgt := 37) hx hb dm_writeRoot_79 (by decide) ?_
        exact ih _ _ _ _ _ _ _ hB (lv_sub hl [1, 2, 3, 0] rfl) hf
      · have hf := ifn c8 hf
        refine lv_aload_n hx hb dm_writeRoot_61 rfl (lv_at hl 0 rfl) ?_
        refine qbg_leaves hx hb hown hts hK hB.1 dm_writeRoot_62 ?_
        refine lv_iload hx hb dm_writeRoot_65 (lv_at hl 3 rfl) ?_
        obtain ⟨r11, er11, ir11, hf⟩ := rdI_some hf
        refine qbl_leaves hx hb hK hB.1 ir11 er11 dm_writeRoot_67 ?_
        refine lv_i2l hx hb dm_writeRoot_68 rfl ?_
        refine lv_goto (tgt := 73) hx hb dm_writeRoot_69 (by decide) ?_
        obtain ⟨st12, h13, hf⟩ := obs hf
        refine qmmV (cq_write (l := l) (hfl := hfl) h13) (cw_m_write hts ⟨by decide, by decide⟩) hx hb hml hown hts hK hB hZ hA hl.1 rfl rfl (lv_room (Nat.le_of_ble_eq_true rfl)) dm_writeRoot_73 ⟨by decide, by decide⟩ (fun H locs hB => ?_)
        refine lv_iinc (v := (x5 + 1)) (lv' := [(5, .int (x5 + 1)), (0, .ref (gm 0)), (2, .long x2), (4, .int x4)]) hx hb dm_writeRoot_76 hl (k := 3) rfl rfl (by decide) rfl (fun ls hl => ?_)
        refine lv_goto (tgt := 37) hx hb dm_writeRoot_79 (by decide) ?_
        exact ih _ _ _ _ _ _ _ hB (lv_sub hl [1, 2, 3, 0] rfl) hf
set_option maxRecDepth 100000 in
set_option maxHeartbeats 4000000 in
theorem wm_writeRoot_0 {p : Program} {l : Launch} {e : Env} {s : State} {m : MethodId} {args : Array Value} {below : List Frame} {meth : Method} {c : Code} {D : va_G} {gm : Nat → Nat} {ca : Nat → ClassId} {A : Nat → Prop} {st : MSt} (hX : MX p l e rmm_writeRoot s m args meth c D ca A km_writeRoot 6 (none)) (hB : MWd D gm ca A s.heap st s.heap []) (n : Nat) : ∀ (x1 : Int32) (x2 : Int64) {st' : MSt} (ls : Array Slot), lv_has ls 6 [(0, .ref (gm 0)), (1, .int x1), (2, .long x2)] → fm_writeRoot n st x1 x2 = some st' → W p l e rmm_writeRoot s m args below meth c s.heap [] 0 0 (MQX below (qmm_Q D gm ca A (XV) st') args s 0 0 A) (F0 m 0 ls []) := by
  obtain ⟨hx, hb, hml, hr, hlk, hown, hts, hK, htr, hZ, hnh, hA, hfl⟩ := id hX
  intro x1 x2 st' ls hl hf
  rw [fm_writeRoot] at hf
  refine lv_sipush (v := 1024) hx hb dm_writeRoot_0 (by decide) ?_
  refine lv_bipush (v := 20) hx hb dm_writeRoot_3 (by decide) ?_
  refine lv_iload_n hx hb dm_writeRoot_5 rfl (lv_at hl 1 rfl) ?_
  refine lv_bipush (v := 8) hx hb dm_writeRoot_6 (by decide) ?_
  refine lv_irem hx hb dm_writeRoot_8 (by decide) ?_
  refine lv_imul hx hb dm_writeRoot_9 ?_
  refine lv_iadd hx hb dm_writeRoot_10 ?_
  refine lv_istore (lv' := [(4, .int (1024 + (20 * (x1 - x1 / 8 * 8)))), (0, .ref (gm 0)), (1, .int x1), (2, .long x2)]) hx hb dm_writeRoot_11 hl (by decide) rfl (fun ls hl => ?_)
  refine lv_aload_n hx hb dm_writeRoot_13 rfl (lv_at hl 1 rfl) ?_
  refine lv_iload hx hb dm_writeRoot_14 (lv_at hl 0 rfl) ?_
  refine lv_iload_n hx hb dm_writeRoot_16 rfl (lv_at hl 2 rfl) ?_
  refine lv_i2l hx hb dm_writeRoot_17 rfl ?_
  obtain ⟨st1, h2, hf⟩ := obs hf
  refine qmmV (cq_write (l := l) (hfl := hfl) h2) (cw_m_write hts ⟨by decide, by decide⟩) hx hb hml hown hts hK hB hZ hA hl.1 rfl rfl (lv_room (Nat.le_of_ble_eq_true rfl)) dm_writeRoot_18 ⟨by decide, by decide⟩ (fun H locs hB => ?_)
  refine lv_aload_n hx hb dm_writeRoot_21 rfl (lv_at hl 1 rfl) ?_
  refine lv_iload hx hb dm_writeRoot_22 (lv_at hl 0 rfl) ?_
  refine lv_iconst (v := 1) hx hb dm_writeRoot_24 (by decide) ?_
  refine lv_iadd hx hb dm_writeRoot_25 ?_
  refine lv_aload_n hx hb dm_writeRoot_26 rfl (lv_at hl 1 rfl) ?_
  refine qbg_leafCount hx hb hown hts hK hB.1 dm_writeRoot_27 ?_
  refine lv_i2l hx hb dm_writeRoot_30 rfl ?_
  obtain ⟨st3, h4, hf⟩ := obs hf
  refine qmmV (cq_write (l := l) (hfl := hfl) h4) (cw_m_write hts ⟨by decide, by decide⟩) hx hb hml hown hts hK hB hZ hA hl.1 rfl rfl (lv_room (Nat.le_of_ble_eq_true rfl)) dm_writeRoot_31 ⟨by decide, by decide⟩ (fun H locs hB => ?_)
  refine lv_iconst (v := 0) hx hb dm_writeRoot_34 (by decide) ?_
  refine lv_istore (lv' := [(5, .int 0), (4, .int (1024 + (20 * (x1 - x1 / 8 * 8)))), (0, .ref (gm 0)), (1, .int x1), (2, .long x2)]) hx hb dm_writeRoot_35 hl (by decide) rfl (fun ls hl => ?_)
  exact wm_writeRoot_37 hX n n _ _ _ _ _ _ _ hB (lv_sub hl [2, 4, 1, 0] rfl) hf
set_option maxRecDepth 100000 in
set_option maxHeartbeats 4000000 in
theorem cq_writeRoot {l : Launch} (hfl : l.flags = flags0) {D : va_G} {gm : Nat → Nat} {ca : Nat → ClassId} {st : MSt} {n : Nat} {x1 : Int32} {x2 : Int64} {st' : MSt} (hf : fm_writeRoot n st x1 x2 = some st') : MMm l ym_writeRoot rmm_writeRoot D gm ca [.int x1, .long x2] st (XV) st' :=
  MMm.of hfl (by decide +kernel) rfl mcm_writeRoot (fun p e s m below meth c A _ hX hB => wm_writeRoot_0 hX hB n _ _ _ (lv_entry _ (Nat.le_of_ble_eq_true rfl)) hf)
