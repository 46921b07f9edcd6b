abbrev rml_put : Room := { frames := 9, cells := 4, slots := 24, locals := 172 }
theorem cl_put_v {l : Launch} {D : va_G} {gm : Nat → Nat} {ca : Nat → ClassId} {o : Nat} {cO : ClassId} {f : Nat → Int64} {st st' : BSt} {x1 : Int32} {x2 : Int64} {v : Int32} (hM : MM l yb_put rmb_put D gm ca [.int x1, .long x2] st (XI v) st') : LM l yl_put rml_put D (tysO ca cO) [.ref (gm 0), .int x1, .long x2, .ref o] (wO gm ca st o cO f) (XI 0) (wO gm ca st' o cO (vp_updL f 0 v.toInt64)) := by
  refine LM.ofWW (by decide +kernel) rfl mcl_put ?_
  intro p e s m below meth c A hX hL
  obtain ⟨hx, hb, hml, hr, hlk, hown, hts, hk, hZ, htab, hA⟩ := id hX
  have hl := lv_entry ([.ref (gm 0), .int x1, .long x2, .ref o] : List Value) (n := 6) (Nat.le_of_ble_eq_true rfl)
  refine lv_aload hx hb dl_put_0 (lv_at hl 3 rfl) ?_
  refine lv_iconst (v := 0) hx hb dl_put_2 rfl ?_
  refine lv_aload_n hx hb dl_put_3 rfl (lv_at hl 0 rfl) ?_
  refine lv_iload_n hx hb dl_put_4 rfl (lv_at hl 1 rfl) ?_
  refine lv_lload_n hx hb dl_put_5 rfl (lv_at hl 2 rfl) ?_
  refine lm_v (wr := [eO o cO f]) (lm_runV (q0 := 0) (ci := 0) (wr := [eO o cO f]) hM.lm (cw_l_put hts ⟨by decide, by decide⟩) hx hb hml hown hts hk.tail hZ hL wO_perm rfl rfl hl.1 rfl rfl (lv_room (Nat.le_of_ble_eq_true rfl)) dl_put_6 ⟨by decide, by decide⟩) hA hL wO_perm wO_perm' ?_
  intro H locs hL
  refine lv_i2l hx hb dl_put_9 rfl ?_
  refine lo_st hx hb hk hL dl_put_10 ?_
  intro H locs hL
  refine lv_goto (tgt := 22) hx hb dl_put_11 (by decide) ?_
  refine lv_iconst (v := 0) hx hb dl_put_22 rfl ?_
  exact lq_i hx hb hr hlk hL dl_put_23
theorem cl_put_t0 {l : Launch} {D : va_G} {gm : Nat → Nat} {ca : Nat → ClassId} {o : Nat} {cO : ClassId} {f : Nat → Int64} {st st' : BSt} {x1 : Int32} {x2 : Int64} (hM : MM l yb_put rmb_put D gm ca [.int x1, .long x2] st (.inr 0) st') : LM l yl_put rml_put D (tysO ca cO) [.ref (gm 0), .int x1, .long x2, .ref o] (wO gm ca st o cO f) (XI 1) (wO gm ca st' o cO f) := by
  refine LM.ofWW (by decide +kernel) rfl mcl_put ?_
  intro p e s m below meth c A hX hL
  obtain ⟨hx, hb, hml, hr, hlk, hown, hts, hk, hZ, htab, hA⟩ := id hX
  have hl := lv_entry ([.ref (gm 0), .int x1, .long x2, .ref o] : List Value) (n := 6) (Nat.le_of_ble_eq_true rfl)
  refine lv_aload hx hb dl_put_0 (lv_at hl 3 rfl) ?_
  refine lv_iconst (v := 0) hx hb dl_put_2 rfl ?_
  refine lv_aload_n hx hb dl_put_3 rfl (lv_at hl 0 rfl) ?_
  refine lv_iload_n hx hb dl_put_4 rfl (lv_at hl 1 rfl) ?_
  refine lv_lload_n hx hb dl_put_5 rfl (lv_at hl 2 rfl) ?_
  refine lm_t (wr := [eO o cO f]) (lm_runV (q0 := 0) (ci := 0) (wr := [eO o cO f]) hM.lm (cw_l_put hts ⟨by decide, by decide⟩) hx hb hml hown hts hk.tail hZ hL wO_perm rfl rfl hl.1 rfl rfl (lv_room (Nat.le_of_ble_eq_true rfl)) dl_put_6 ⟨by decide, by decide⟩) hA hL wO_perm wO_perm' ?_
  intro H locs x t ht h5 hw hL
  refine lc_catch (h := 14) hX (by decide) sfl_0 ?_ rfl ht h5 hw ?_
  · intro z hz
    simp only [List.mem_cons, List.not_mem_nil, or_false] at hz
    rcases hz with rfl | rfl
    · exact ⟨⟨by decide, by decide⟩, by decide, by decide, cll_0⟩
    · exact ⟨⟨by decide, by decide⟩, by decide, by decide, cll_1⟩
  refine lv_astore (i := 5) (nL := 6) hx hb dl_put_14 hl (by decide) rfl ?_
  intro ls hl
  refine lv_iconst (v := 1) hx hb dl_put_16 rfl ?_
  exact lq_i hx hb hr hlk hL dl_put_17
theorem cl_put_t1 {l : Launch} {D : va_G} {gm : Nat → Nat} {ca : Nat → ClassId} {o : Nat} {cO : ClassId} {f : Nat → Int64} {st st' : BSt} {x1 : Int32} {x2 : Int64} (hM : MM l yb_put rmb_put D gm ca [.int x1, .long x2] st (.inr 1) st') : LM l yl_put rml_put D (tysO ca cO) [.ref (gm 0), .int x1, .long x2, .ref o] (wO gm ca st o cO f) (XI 2) (wO gm ca st' o cO f) := by
  refine LM.ofWW (by decide +kernel) rfl mcl_put ?_
  intro p e s m below meth c A hX hL
  obtain ⟨hx, hb, hml, hr, hlk, hown, hts, hk, hZ, htab, hA⟩ := id hX
  have hl := lv_entry ([.ref (gm 0), .int x1, .long x2, .ref o] : List Value) (n := 6) (Nat.le_of_ble_eq_true rfl)
  refine lv_aload hx hb dl_put_0 (lv_at hl 3 rfl) ?_
  refine lv_iconst (v := 0) hx hb dl_put_2 rfl ?_
  refine lv_aload_n hx hb dl_put_3 rfl (lv_at hl 0 rfl) ?_
  refine lv_iload_n hx hb dl_put_4 rfl (lv_at hl 1 rfl) ?_
  refine lv_lload_n hx hb dl_put_5 rfl (lv_at hl 2 rfl) ?_
  refine lm_t (wr := [eO o cO f]) (lm_runV (q0 := 0) (ci := 0) (wr := [eO o cO f]) hM.lm (cw_l_put hts ⟨by decide, by decide⟩) hx hb hml hown hts hk.tail hZ hL wO_perm rfl rfl hl.1 rfl rfl (lv_room (Nat.le_of_ble_eq_true rfl)) dl_put_6 ⟨by decide, by decide⟩) hA hL wO_perm wO_perm' ?_
  intro H locs x t ht h5 hw hL
  refine lc_catch (h := 18) hX (by decide) sfl_1 ?_ rfl ht h5 hw ?_
  · intro z hz
    simp only [List.mem_cons, List.not_mem_nil, or_false] at hz
    rcases hz with rfl | rfl
    · exact ⟨⟨by decide, by decide⟩, by decide, by decide, cll_0⟩
    · exact ⟨⟨by decide, by decide⟩, by decide, by decide, cll_1⟩
  refine lv_astore (i := 5) (nL := 6) hx hb dl_put_18 hl (by decide) rfl ?_
  intro ls hl
  refine lv_iconst (v := 2) hx hb dl_put_20 rfl ?_
  exact lq_i hx hb hr hlk hL dl_put_21
abbrev rml_drop : Room := { frames := 9, cells := 4, slots := 24, locals := 170 }
theorem cl_drop_v {l : Launch} {D : va_G} {gm : Nat → Nat} {ca : Nat → ClassId} {o : Nat} {cO : ClassId} {f : Nat → Int64} {st st' : BSt} {x1 : Int32} {v : Int32} (hM : MM l yb_drop rmb_drop D gm ca [.int x1] st (XI v) st') : LM l yl_drop rml_drop D (tysO ca cO) [.ref (gm 0), .int x1, .ref o] (wO gm ca st o cO f) (XI 0) (wO gm ca st' o cO (vp_updL f 0 v.toInt64)) := by
  refine LM.ofWW (by decide +kernel) rfl mcl_drop ?_
  intro p e s m below meth c A hX hL
  obtain ⟨hx, hb, hml, hr, hlk, hown, hts, hk, hZ, htab, hA⟩ := id hX
  have hl := lv_entry ([.ref (gm 0), .int x1, .ref o] : List Value) (n := 4) (Nat.le_of_ble_eq_true rfl)
  refine lv_aload_n hx hb dl_drop_0 rfl (lv_at hl 2 rfl) ?_
  refine lv_iconst (v := 0) hx hb dl_drop_1 rfl ?_
  refine lv_aload_n hx hb dl_drop_2 rfl (lv_at hl 0 rfl) ?_
  refine lv_iload_n hx hb dl_drop_3 rfl (lv_at hl 1 rfl) ?_
  refine lm_v (wr := [eO o cO f]) (lm_runV (q0 := 0) (ci := 0) (wr := [eO o cO f]) hM.lm (cw_l_drop hts ⟨by decide, by decide⟩) hx hb hml hown hts hk.tail hZ hL wO_perm rfl rfl hl.1 rfl rfl (lv_room (Nat.le_of_ble_eq_true rfl)) dl_drop_4 ⟨by decide, by decide⟩) hA hL wO_perm wO_perm' ?_
  intro H locs hL
  refine lv_i2l hx hb dl_drop_7 rfl ?_
  refine lo_st hx hb hk hL dl_drop_8 ?_
  intro H locs hL
  refine lv_goto (tgt := 18) hx hb dl_drop_9 (by decide) ?_
  refine lv_iconst (v := 0) hx hb dl_drop_18 rfl ?_
  exact lq_i hx hb hr hlk hL dl_drop_19
theorem cl_drop_t0 {l : Launch} {D : va_G} {gm : Nat → Nat} {ca : Nat → ClassId} {o : Nat} {cO : ClassId} {f : Nat → Int64} {st st' : BSt} {x1 : Int32} (hM : MM l yb_drop rmb_drop D gm ca [.int x1] st (.inr 0) st') : LM l yl_drop rml_drop D (tysO ca cO) [.ref (gm 0), .int x1, .ref o] (wO gm ca st o cO f) (XI 1) (wO gm ca st' o cO f) := by
  refine LM.ofWW (by decide +kernel) rfl mcl_drop ?_
  intro p e s m below meth c A hX hL
  obtain ⟨hx, hb, hml, hr, hlk, hown, hts, hk, hZ, htab, hA⟩ := id hX
  have hl := lv_entry ([.ref (gm 0), .int x1, .ref o] : List Value) (n := 4) (Nat.le_of_ble_eq_true rfl)
  refine lv_aload_n hx hb dl_drop_0 rfl (lv_at hl 2 rfl) ?_
  refine lv_iconst (v := 0) hx hb dl_drop_1 rfl ?_
  refine lv_aload_n hx hb dl_drop_2 rfl (lv_at hl 0 rfl) ?_
  refine lv_iload_n hx hb dl_drop_3 rfl (lv_at hl 1 rfl) ?_
  refine lm_t (wr := [eO o cO f]) (lm_runV (q0 := 0) (ci := 0) (wr := [eO o cO f]) hM.lm (cw_l_drop hts ⟨by decide, by decide⟩) hx hb hml hown hts hk.tail hZ hL wO_perm rfl rfl hl.1 rfl rfl (lv_room (Nat.le_of_ble_eq_true rfl)) dl_drop_4 ⟨by decide, by decide⟩) hA hL wO_perm wO_perm' ?_
  intro H locs x t ht h5 hw hL
  refine lc_catch (h := 12) hX (by decide) sfl_0 ?_ rfl ht h5 hw ?_
  · intro z hz
    simp only [List.mem_cons, List.not_mem_nil, or_false] at hz
    rcases hz with rfl | rfl
    · exact ⟨⟨by decide, by decide⟩, by decide, by decide, cll_0⟩
    · exact ⟨⟨by decide, by decide⟩, by decide, by decide, cll_1⟩
  refine lv_astore_n (i := 3) (nL := 4) hx hb dl_drop_12 rfl hl (by decide) rfl ?_
  intro ls hl
  refine lv_iconst (v := 1) hx hb dl_drop_13 rfl ?_
  exact lq_i hx hb hr hlk hL dl_drop_14
theorem cl_drop_t1 {l : Launch} {D : va_G} {gm : Nat → Nat} {ca : Nat → ClassId} {o : Nat} {cO : ClassId} {f : Nat → Int64} {st st' : BSt} {x1 : Int32} (hM : MM l yb_drop rmb_drop D gm ca [.int x1] st (.inr 1) st') : LM l yl_drop rml_drop D (tysO ca cO) [.ref (gm 0), .int x1, .ref o] (wO gm ca st o cO f) (XI 2) (wO gm ca st' o cO f) := by
  refine LM.ofWW (by decide +kernel) rfl mcl_drop ?_
  intro p e s m below meth c A hX hL
  obtain ⟨hx, hb, hml, hr, hlk, hown, hts, hk, hZ, htab, hA⟩ := id hX
  have hl := lv_entry ([.ref (gm 0), .int x1, .ref o] : List Value) (n := 4) (Nat.le_of_ble_eq_true rfl)
  refine lv_aload_n hx hb dl_drop_0 rfl (lv_at hl 2 rfl) ?_
  refine lv_iconst (v := 0) hx hb dl_drop_1 rfl ?_
  refine lv_aload_n hx hb dl_drop_2 rfl (lv_at hl 0 rfl) ?_
  refine lv_iload_n hx hb dl_drop_3 rfl (lv_at hl 1 rfl) ?_
  refine lm_t (wr := [eO o cO f]) (lm_runV (q0 := 0) (ci := 0) (wr := [eO o cO f]) hM.lm (cw_l_drop hts ⟨by decide, by decide⟩) hx hb hml hown hts hk.tail hZ hL wO_perm rfl rfl hl.1 rfl rfl (lv_room (Nat.le_of_ble_eq_true rfl)) dl_drop_4 ⟨by decide, by decide⟩) hA hL wO_perm wO_perm' ?_
  intro H locs x t ht h5 hw hL
  refine lc_catch (h := 15) hX (by decide) sfl_1 ?_ rfl ht h5 hw ?_
  · intro z hz
    simp only [List.mem_cons, List.not_mem_nil, or_false] at hz
    rcases hz with rfl | rfl
    · exact ⟨⟨by decide, by decide⟩, by decide, by decide, cll_0⟩
    · exact ⟨⟨by decide, by decide⟩, by decide, by decide, cll_1⟩
  refine lv_astore_n (i := 3) (nL := 4) hx hb dl_drop_15 rfl hl (by decide) rfl ?_
  intro ls hl
  refine lv_iconst (v := 2) hx hb dl_drop_16 rfl ?_
  exact lq_i hx hb hr hlk hL dl_drop_17
abbrev rml_version : Room := { frames := 8, cells := 1, slots := 6, locals := 122 }
theorem cl_version_v {l : Launch} {D : va_G} {gm : Nat → Nat} {ca : Nat → ClassId} {o : Nat} {cO : ClassId} {f : Nat → Int64} {st : BSt} {v : Int32} (hM : RM l yb_version rmb_version D gm ca [] st (XI v)) : LM l yl_version rml_version D (tysO ca cO) [.ref (gm 0), .ref o] (wO gm ca st o cO f) (XI 0) (wO gm ca st o cO (vp_updL f 0 v.toInt64)) := by
  refine LM.ofWW (by decide +kernel) rfl mcl_version ?_
  intro p e s m below meth c A hX hL
  obtain ⟨hx, hb, hml, hr, hlk, hown, hts, hk, hZ, htab, hA⟩ := id hX
  have hl := lv_entry ([.ref (gm 0), .ref o] : List Value) (n := 3) (Nat.le_of_ble_eq_true rfl)
  refine lv_aload_n hx hb dl_version_0 rfl (lv_at hl 1 rfl) ?_
  refine lv_iconst (v := 0) hx hb dl_version_1 rfl ?_
  refine lv_aload_n hx hb dl_version_2 rfl (lv_at hl 0 rfl) ?_
  refine lm_v (wr := [eO o cO f]) (lm_runV (q0 := 0) (ci := 0) (wr := [eO o cO f]) hM.lm (cw_l_version hts ⟨by decide, by decide⟩) hx hb hml hown hts hk.tail hZ hL wO_perm rfl rfl hl.1 rfl rfl (lv_room (Nat.le_of_ble_eq_true rfl)) dl_version_3 ⟨by decide, by decide⟩) hA hL wO_perm wO_perm' ?_
  intro H locs hL
  refine lv_i2l hx hb dl_version_6 rfl ?_
  refine lo_st hx hb hk hL dl_version_7 ?_
  intro H locs hL
  refine lv_goto (tgt := 14) hx hb dl_version_8 (by decide) ?_
  refine lv_iconst (v := 0) hx hb dl_version_14 rfl ?_
  exact lq_i hx hb hr hlk hL dl_version_15
theorem cl_version_t0 {l : Launch} {D : va_G} {gm : Nat → Nat} {ca : Nat → ClassId} {o : Nat} {cO : ClassId} {f : Nat → Int64} {st : BSt} (hM : RM l yb_version rmb_version D gm ca [] st (.inr 0)) : LM l yl_version rml_version D (tysO ca cO) [.ref (gm 0), .ref o] (wO gm ca st o cO f) (XI 1) (wO gm ca st o cO f) := by
  refine LM.ofWW (by decide +kernel) rfl mcl_version ?_
  intro p e s m below meth c A hX hL
  obtain ⟨hx, hb, hml, hr, hlk, hown, hts, hk, hZ, htab, hA⟩ := id hX
  have hl := lv_entry ([.ref (gm 0), .ref o] : List Value) (n := 3) (Nat.le_of_ble_eq_true rfl)
  refine lv_aload_n hx hb dl_version_0 rfl (lv_at hl 1 rfl) ?_
  refine lv_iconst (v := 0) hx hb dl_version_1 rfl ?_
  refine lv_aload_n hx hb dl_version_2 rfl (lv_at hl 0 rfl) ?_
  refine lm_t (wr := [eO o cO f]) (lm_runV (q0 := 0) (ci := 0) (wr := [eO o cO f]) hM.lm (cw_l_version hts ⟨by decide, by decide⟩) hx hb hml hown hts hk.tail hZ hL wO_perm rfl rfl hl.1 rfl rfl (lv_room (Nat.le_of_ble_eq_true rfl)) dl_version_3 ⟨by decide, by decide⟩) hA hL wO_perm wO_perm' ?_
  intro H locs x t ht h5 hw hL
  refine lc_catch (h := 11) hX (by decide) sfl_0 ?_ rfl ht h5 hw ?_
  · intro z hz
    simp only [List.mem_cons, List.not_mem_nil, or_false] at hz
    rcases hz with rfl
    · exact ⟨⟨by decide, by decide⟩, by decide, by decide, cll_0⟩
  refine lv_astore_n (i := 2) (nL := 3) hx hb dl_version_11 rfl hl (by decide) rfl ?_
  intro ls hl
  refine lv_iconst (v := 1) hx hb dl_version_12 rfl ?_
  exact lq_i hx hb hr hlk hL dl_version_13
abbrev rml_has : Room := { frames := 8, cells := 2, slots := 12, locals := 170 }
theorem cl_has_v {l : Launch} {D : va_G} {gm : Nat → Nat} {ca : Nat → ClassId} {o : Nat} {cO : ClassId} {f : Nat → Int64} {st : BSt} {x1 : Int32} {x2 : Int32} {v : Int32} (hM : RM l yb_has rmb_has D gm ca [.int x1, .int x2] st (XI v)) : LM l yl_has rml_has D (tysO ca cO) [.ref (gm 0), .int x1, .int x2, .ref o] (wO gm ca st o cO f) (XI 0) (wO gm ca st o cO (vp_updL f 0 (if v = 0 then 0 else 1))) := by
  refine LM.ofWW (by decide +kernel) rfl mcl_has ?_
  intro p e s m below meth c A hX hL
  obtain ⟨hx, hb, hml, hr, hlk, hown, hts, hk, hZ, htab, hA⟩ := id hX
  have hl := lv_entry ([.ref (gm 0), .int x1, .int x2, .ref o] : List Value) (n := 5) (Nat.le_of_ble_eq_true rfl)
  refine lv_aload_n hx hb dl_has_0 rfl (lv_at hl 3 rfl) ?_
  refine lv_iconst (v := 0) hx hb dl_has_1 rfl ?_
  refine lv_aload_n hx hb dl_has_2 rfl (lv_at hl 0 rfl) ?_
  refine lv_iload_n hx hb dl_has_3 rfl (lv_at hl 1 rfl) ?_
  refine lv_iload_n hx hb dl_has_4 rfl (lv_at hl 2 rfl) ?_
  refine lm_v (wr := [eO o cO f]) (lm_runV (q0 := 0) (ci := 0) (wr := [eO o cO f]) hM.lm (cw_l_has hts ⟨by decide, by decide⟩) hx hb hml hown hts hk.tail hZ hL wO_perm rfl rfl hl.1 rfl rfl (lv_room (Nat.le_of_ble_eq_true rfl)) dl_has_5 ⟨by decide, by decide⟩) hA hL wO_perm wO_perm' ?_
  intro H locs hL
  refine lv_if_eq (tgt := 15) hx hb dl_has_8 (by decide) (fun c3 => ?_) (fun c3 => ?_)
  · rw [if_pos c3]
    refine lv_lconst (v := 0) hx hb dl_has_15 rfl ?_
    refine lo_st hx hb hk hL dl_has_16 ?_
    intro H locs hL
    refine lv_goto (tgt := 28) hx hb dl_has_17 (by decide) ?_
    refine lv_iconst (v := 0) hx hb dl_has_28 rfl ?_
    exact lq_i hx hb hr hlk hL dl_has_29
  · rw [if_neg c3]
    refine lv_lconst (v := 1) hx hb dl_has_11 rfl ?_
    refine lv_goto (tgt := 16) hx hb dl_has_12 (by decide) ?_
    refine lo_st hx hb hk hL dl_has_16 ?_
    intro H locs hL
    refine lv_goto (tgt := 28) hx hb dl_has_17 (by decide) ?_
    refine lv_iconst (v := 0) hx hb dl_has_28 rfl ?_
    exact lq_i hx hb hr hlk hL dl_has_29
theorem cl_has_t0 {l : Launch} {D : va_G} {gm : Nat → Nat} {ca : Nat → ClassId} {o : Nat} {cO : ClassId} {f : Nat → Int64} {st : BSt} {x1 : Int32} {x2 : Int32} (hM : RM l yb_has rmb_has D gm ca [.int x1, .int x2] st (.inr 0)) : LM l yl_has rml_has D (tysO ca cO) [.ref (gm 0), .int x1, .int x2, .ref o] (wO gm ca st o cO f) (XI 1) (wO gm ca st o cO f) := by
  refine LM.ofWW (by decide +kernel) rfl mcl_has ?_
  intro p e s m below meth c A hX hL
  obtain ⟨hx, hb, hml, hr, hlk, hown, hts, hk, hZ, htab, hA⟩ := id hX
  have hl := lv_entry ([.ref (gm 0), .int x1, .int x2, .ref o] : List Value) (n := 5) (Nat.le_of_ble_eq_true rfl)
  refine lv_aload_n hx hb dl_has_0 rfl (lv_at hl 3 rfl) ?_
  refine lv_iconst (v := 0) hx hb dl_has_1 rfl ?_
  refine lv_aload_n hx hb dl_has_2 rfl (lv_at hl 0 rfl) ?_
  refine lv_iload_n hx hb dl_has_3 rfl (lv_at hl 1 rfl) ?_
  refine lv_iload_n hx hb dl_has_4 rfl (lv_at hl 2 rfl) ?_
  refine lm_t (wr := [eO o cO f]) (lm_runV (q0 := 0) (ci := 0) (wr := [eO o cO f]) hM.lm (cw_l_has hts ⟨by decide, by decide⟩) hx hb hml hown hts hk.tail hZ hL wO_perm rfl rfl hl.1 rfl rfl (lv_room (Nat.le_of_ble_eq_true rfl)) dl_has_5 ⟨by decide, by decide⟩) hA hL wO_perm wO_perm' ?_
  intro H locs x t ht h5 hw hL
  refine lc_catch (h := 20) hX (by decide) sfl_0 ?_ rfl ht h5 hw ?_
  · intro z hz
    simp only [List.mem_cons, List.not_mem_nil, or_false] at hz
    rcases hz with rfl | rfl
    · exact ⟨⟨by decide, by decide⟩, by decide, by decide, cll_0⟩
    · exact ⟨⟨by decide, by decide⟩, by decide, by decide, cll_2⟩
  refine lv_astore (i := 4) (nL := 5) hx hb dl_has_20 hl (by decide) rfl ?_
  intro ls hl
  refine lv_iconst (v := 1) hx hb dl_has_22 rfl ?_
  exact lq_i hx hb hr hlk hL dl_has_23
theorem cl_has_t2 {l : Launch} {D : va_G} {gm : Nat → Nat} {ca : Nat → ClassId} {o : Nat} {cO : ClassId} {f : Nat → Int64} {st : BSt} {x1 : Int32} {x2 : Int32} (hM : RM l yb_has rmb_has D gm ca [.int x1, .int x2] st (.inr 2)) : LM l yl_has rml_has D (tysO ca cO) [.ref (gm 0), .int x1, .int x2, .ref o] (wO gm ca st o cO f) (XI 2) (wO gm ca st o cO f) := by
  refine LM.ofWW (by decide +kernel) rfl mcl_has ?_
  intro p e s m below meth c A hX hL
  obtain ⟨hx, hb, hml, hr, hlk, hown, hts, hk, hZ, htab, hA⟩ := id hX
  have hl := lv_entry ([.ref (gm 0), .int x1, .int x2, .ref o] : List Value) (n := 5) (Nat.le_of_ble_eq_true rfl)
  refine lv_aload_n hx hb dl_has_0 rfl (lv_at hl 3 rfl) ?_
  refine lv_iconst (v := 0) hx hb dl_has_1 rfl ?_
  refine lv_aload_n hx hb dl_has_2 rfl (lv_at hl 0 rfl) ?_
  refine lv_iload_n hx hb dl_has_3 rfl (lv_at hl 1 rfl) ?_
  refine lv_iload_n hx hb dl_has_4 rfl (lv_at hl 2 rfl) ?_
  refine lm_t (wr := [eO o cO f]) (lm_runV (q0 := 0) (ci := 0) (wr := [eO o cO f]) hM.lm (cw_l_has hts ⟨by decide, by decide⟩) hx hb hml hown hts hk.tail hZ hL wO_perm rfl rfl hl.1 rfl rfl (lv_room (Nat.le_of_ble_eq_true rfl)) dl_has_5 ⟨by decide, by decide⟩) hA hL wO_perm wO_perm' ?_
  intro H locs x t ht h5 hw hL
  refine lc_catch (h := 24) hX (by decide) sfl_2 ?_ rfl ht h5 hw ?_
  · intro z hz
    simp only [List.mem_cons, List.not_mem_nil, or_false] at hz
    rcases hz with rfl | rfl
    · exact ⟨⟨by decide, by decide⟩, by decide, by decide, cll_0⟩
    · exact ⟨⟨by decide, by decide⟩, by decide, by decide, cll_2⟩
  refine lv_astore (i := 4) (nL := 5) hx hb dl_has_24 hl (by decide) rfl ?_
  intro ls hl
  refine lv_iconst (v := 2) hx hb dl_has_26 rfl ?_
  exact lq_i hx hb hr hlk hL dl_has_27
abbrev rml_find : Room := { frames := 8, cells := 2, slots := 12, locals := 171 }
theorem cl_find_v {l : Launch} {D : va_G} {gm : Nat → Nat} {ca : Nat → ClassId} {o : Nat} {cO : ClassId} {f : Nat → Int64} {st : BSt} {x1 : Int32} {x2 : Int32} {v : Int64} (hM : RM l yb_find rmb_find D gm ca [.int x1, .int x2] st (XL v)) : LM l yl_find rml_find D (tysO ca cO) [.ref (gm 0), .int x1, .int x2, .ref o] (wO gm ca st o cO f) (XI 0) (wO gm ca st o cO (vp_updL f 0 v)) := by
  refine LM.ofWW (by decide +kernel) rfl mcl_find ?_
  intro p e s m below meth c A hX hL
  obtain ⟨hx, hb, hml, hr, hlk, hown, hts, hk, hZ, htab, hA⟩ := id hX
  have hl := lv_entry ([.ref (gm 0), .int x1, .int x2, .ref o] : List Value) (n := 5) (Nat.le_of_ble_eq_true rfl)
  refine lv_aload_n hx hb dl_find_0 rfl (lv_at hl 3 rfl) ?_
  refine lv_iconst (v := 0) hx hb dl_find_1 rfl ?_
  refine lv_aload_n hx hb dl_find_2 rfl (lv_at hl 0 rfl) ?_
  refine lv_iload_n hx hb dl_find_3 rfl (lv_at hl 1 rfl) ?_
  refine lv_iload_n hx hb dl_find_4 rfl (lv_at hl 2 rfl) ?_
  refine lm_v (wr := [eO o cO f]) (lm_runV (q0 := 0) (ci := 0) (wr := [eO o cO f]) hM.lm (cw_l_find hts ⟨by decide, by decide⟩) hx hb hml hown hts hk.tail hZ hL wO_perm rfl rfl hl.1 rfl rfl (lv_room (Nat.le_of_ble_eq_true rfl)) dl_find_5 ⟨by decide, by decide⟩) hA hL wO_perm wO_perm' ?_
  intro H locs hL
  refine lo_st hx hb hk hL dl_find_8 ?_
  intro H locs hL
  refine lv_goto (tgt := 20) hx hb dl_find_9 (by decide) ?_
  refine lv_iconst (v := 0) hx hb dl_find_20 rfl ?_
  exact lq_i hx hb hr hlk hL dl_find_21
theorem cl_find_t0 {l : Launch} {D : va_G} {gm : Nat → Nat} {ca : Nat → ClassId} {o : Nat} {cO : ClassId} {f : Nat → Int64} {st : BSt} {x1 : Int32} {x2 : Int32} (hM : RM l yb_find rmb_find D gm ca [.int x1, .int x2] st (.inr 0)) : LM l yl_find rml_find D (tysO ca cO) [.ref (gm 0), .int x1, .int x2, .ref o] (wO gm ca st o cO f) (XI 1) (wO gm ca st o cO f) := by
  refine LM.ofWW (by decide +kernel) rfl mcl_find ?_
  intro p e s m below meth c A hX hL
  obtain ⟨hx, hb, hml, hr, hlk, hown, hts, hk, hZ, htab, hA⟩ := id hX
  have hl := lv_entry ([.ref (gm 0), .int x1, .int x2, .ref o] : List Value) (n := 5) (Nat.le_of_ble_eq_true rfl)
  refine lv_aload_n hx hb dl_find_0 rfl (lv_at hl 3 rfl) ?_
  refine lv_iconst (v := 0) hx hb dl_find_1 rfl ?_
  refine lv_aload_n hx hb dl_find_2 rfl (lv_at hl 0 rfl) ?_
  refine lv_iload_n hx hb dl_find_3 rfl (lv_at hl 1 rfl) ?_
  refine lv_iload_n hx hb dl_find_4 rfl (lv_at hl 2 rfl) ?_
  refine lm_t (wr := [eO o cO f]) (lm_runV (q0 := 0) (ci := 0) (wr := [eO o cO f]) hM.lm (cw_l_find hts ⟨by decide, by decide⟩) hx hb hml hown hts hk.tail hZ hL wO_perm rfl rfl hl.1 rfl rfl (lv_room (Nat.le_of_ble_eq_true rfl)) dl_find_5 ⟨by decide, by decide⟩) hA hL wO_perm wO_perm' ?_
  intro H locs x t ht h5 hw hL
  refine lc_catch (h := 12) hX (by decide) sfl_0 ?_ rfl ht h5 hw ?_
  · intro z hz
    simp only [List.mem_cons, List.not_mem_nil, or_false] at hz
    rcases hz with rfl | rfl
    · exact ⟨⟨by decide, by decide⟩, by decide, by decide, cll_0⟩
    · exact ⟨⟨by decide, by decide⟩, by decide, by decide, cll_2⟩
  refine lv_astore (i := 4) (nL := 5) hx hb dl_find_12 hl (by decide) rfl ?_
  intro ls hl
  refine lv_iconst (v := 1) hx hb dl_find_14 rfl ?_
  exact lq_i hx hb hr hlk hL dl_find_15
theorem cl_find_t2 {l : Launch} {D : va_G} {gm : Nat → Nat} {ca : Nat → ClassId} {o : Nat} {cO : ClassId} {f : Nat → Int64} {st : BSt} {x1 : Int32} {x2 : Int32} (hM : RM l yb_find rmb_find D gm ca [.int x1, .int x2] st (.inr 2)) : LM l yl_find rml_find D (tysO ca cO) [.ref (gm 0), .int x1, .int x2, .ref o] (wO gm ca st o cO f) (XI 2) (wO gm ca st o cO f) := by
  refine LM.ofWW (by decide +kernel) rfl mcl_find ?_
  intro p e s m below meth c A hX hL
  obtain ⟨hx, hb, hml, hr, hlk, hown, hts, hk, hZ, htab, hA⟩ := id hX
  have hl := lv_entry ([.ref (gm 0), .int x1, .int x2, .ref o] : List Value) (n := 5) (Nat.le_of_ble_eq_true rfl)
  refine lv_aload_n hx hb dl_find_0 rfl (lv_at hl 3 rfl) ?_
  refine lv_iconst (v := 0) hx hb dl_find_1 rfl ?_
  refine lv_aload_n hx hb dl_find_2 rfl (lv_at hl 0 rfl) ?_
  refine lv_iload_n hx hb dl_find_3 rfl (lv_at hl 1 rfl) ?_
  refine lv_iload_n hx hb dl_find_4 rfl (lv_at hl 2 rfl) ?_
  refine lm_t (wr := [eO o cO f]) (lm_runV (q0 := 0) (ci := 0) (wr := [eO o cO f]) hM.lm (cw_l_find hts ⟨by decide, by decide⟩) hx hb hml hown hts hk.tail hZ hL wO_perm rfl rfl hl.1 rfl rfl (lv_room (Nat.le_of_ble_eq_true rfl)) dl_find_5 ⟨by decide, by decide⟩) hA hL wO_perm wO_perm' ?_
  intro H locs x t ht h5 hw hL
  refine lc_catch (h := 16) hX (by decide) sfl_2 ?_ rfl ht h5 hw ?_
  · intro z hz
    simp only [List.mem_cons, List.not_mem_nil, or_false] at hz
    rcases hz with rfl | rfl
    · exact ⟨⟨by decide, by decide⟩, by decide, by decide, cll_0⟩
    · exact ⟨⟨by decide, by decide⟩, by decide, by decide, cll_2⟩
  refine lv_astore (i := 4) (nL := 5) hx hb dl_find_16 hl (by decide) rfl ?_
  intro ls hl
  refine lv_iconst (v := 2) hx hb dl_find_18 rfl ?_
  exact lq_i hx hb hr hlk hL dl_find_19
abbrev rml_count : Room := { frames := 8, cells := 3, slots := 18, locals := 171 }
theorem cl_count_v {l : Launch} {D : va_G} {gm : Nat → Nat} {ca : Nat → ClassId} {o : Nat} {cO : ClassId} {f : Nat → Int64} {st : BSt} {x1 : Int32} {x2 : Int32} {v : Int32} (hM : RM l yb_count rmb_count D gm ca [.int x1, .int x2] st (XI v)) : LM l yl_count rml_count D (tysO ca cO) [.ref (gm 0), .int x1, .int x2, .ref o] (wO gm ca st o cO f) (XI 0) (wO gm ca st o cO (vp_updL f 0 v.toInt64)) := by
  refine LM.ofWW (by decide +kernel) rfl mcl_count ?_
  intro p e s m below meth c A hX hL
  obtain ⟨hx, hb, hml, hr, hlk, hown, hts, hk, hZ, htab, hA⟩ := id hX
  have hl := lv_entry ([.ref (gm 0), .int x1, .int x2, .ref o] : List Value) (n := 5) (Nat.le_of_ble_eq_true rfl)
  refine lv_aload_n hx hb dl_count_0 rfl (lv_at hl 3 rfl) ?_
  refine lv_iconst (v := 0) hx hb dl_count_1 rfl ?_
  refine lv_aload_n hx hb dl_count_2 rfl (lv_at hl 0 rfl) ?_
  refine lv_iload_n hx hb dl_count_3 rfl (lv_at hl 1 rfl) ?_
  refine lv_iload_n hx hb dl_count_4 rfl (lv_at hl 2 rfl) ?_
  refine lm_v (wr := [eO o cO f]) (lm_runV (q0 := 0) (ci := 0) (wr := [eO o cO f]) hM.lm (cw_l_count hts ⟨by decide, by decide⟩) hx hb hml hown hts hk.tail hZ hL wO_perm rfl rfl hl.1 rfl rfl (lv_room (Nat.le_of_ble_eq_true rfl)) dl_count_5 ⟨by decide, by decide⟩) hA hL wO_perm wO_perm' ?_
  intro H locs hL
  refine lv_i2l hx hb dl_count_8 rfl ?_
  refine lo_st hx hb hk hL dl_count_9 ?_
  intro H locs hL
  refine lv_goto (tgt := 25) hx hb dl_count_10 (by decide) ?_
  refine lv_iconst (v := 0) hx hb dl_count_25 rfl ?_
  exact lq_i hx hb hr hlk hL dl_count_26
theorem cl_count_t0 {l : Launch} {D : va_G} {gm : Nat → Nat} {ca : Nat → ClassId} {o : Nat} {cO : ClassId} {f : Nat → Int64} {st : BSt} {x1 : Int32} {x2 : Int32} (hM : RM l yb_count rmb_count D gm ca [.int x1, .int x2] st (.inr 0)) : LM l yl_count rml_count D (tysO ca cO) [.ref (gm 0), .int x1, .int x2, .ref o] (wO gm ca st o cO f) (XI 1) (wO gm ca st o cO f) := by
  refine LM.ofWW (by decide +kernel) rfl mcl_count ?_
  intro p e s m below meth c A hX hL
  obtain ⟨hx, hb, hml, hr, hlk, hown, hts, hk, hZ, htab, hA⟩ := id hX
  have hl := lv_entry ([.ref (gm 0), .int x1, .int x2, .ref o] : List Value) (n := 5) (Nat.le_of_ble_eq_true rfl)
  refine lv_aload_n hx hb dl_count_0 rfl (lv_at hl 3 rfl) ?_
  refine lv_iconst (v := 0) hx hb dl_count_1 rfl ?_
  refine lv_aload_n hx hb dl_count_2 rfl (lv_at hl 0 rfl) ?_
  refine lv_iload_n hx hb dl_count_3 rfl (lv_at hl 1 rfl) ?_
  refine lv_iload_n hx hb dl_count_4 rfl (lv_at hl 2 rfl) ?_
  refine lm_t (wr := [eO o cO f]) (lm_runV (q0 := 0) (ci := 0) (wr := [eO o cO f]) hM.lm (cw_l_count hts ⟨by decide, by decide⟩) hx hb hml hown hts hk.tail hZ hL wO_perm rfl rfl hl.1 rfl rfl (lv_room (Nat.le_of_ble_eq_true rfl)) dl_count_5 ⟨by decide, by decide⟩) hA hL wO_perm wO_perm' ?_
  intro H locs x t ht h5 hw hL
  refine lc_catch (h := 13) hX (by decide) sfl_0 ?_ rfl ht h5 hw ?_
  · intro z hz
    simp only [List.mem_cons, List.not_mem_nil, or_false] at hz
    rcases hz with rfl | rfl | rfl
    · exact ⟨⟨by decide, by decide⟩, by decide, by decide, cll_0⟩
    · exact ⟨⟨by decide, by decide⟩, by decide, by decide, cll_2⟩
    · exact ⟨⟨by decide, by decide⟩, by decide, by decide, cll_1⟩
  refine lv_astore (i := 4) (nL := 5) hx hb dl_count_13 hl (by decide) rfl ?_
  intro ls hl
  refine lv_iconst (v := 1) hx hb dl_count_15 rfl ?_
  exact lq_i hx hb hr hlk hL dl_count_16
theorem cl_count_t2 {l : Launch} {D : va_G} {gm : Nat → Nat} {ca : Nat → ClassId} {o : Nat} {cO : ClassId} {f : Nat → Int64} {st : BSt} {x1 : Int32} {x2 : Int32} (hM : RM l yb_count rmb_count D gm ca [.int x1, .int x2] st (.inr 2)) : LM l yl_count rml_count D (tysO ca cO) [.ref (gm 0), .int x1, .int x2, .ref o] (wO gm ca st o cO f) (XI 2) (wO gm ca st o cO f) := by
  refine LM.ofWW (by decide +kernel) rfl mcl_count ?_
  intro p e s m below meth c A hX hL
  obtain ⟨hx, hb, hml, hr, hlk, hown, hts, hk, hZ, htab, hA⟩ := id hX
  have hl := lv_entry ([.ref (gm 0), .int x1, .int x2, .ref o] : List Value) (n := 5) (Nat.le_of_ble_eq_true rfl)
  refine lv_aload_n hx hb dl_count_0 rfl (lv_at hl 3 rfl) ?_
  refine lv_iconst (v := 0) hx hb dl_count_1 rfl ?_
  refine lv_aload_n hx hb dl_count_2 rfl (lv_at hl 0 rfl) ?_
  refine lv_iload_n hx hb dl_count_3 rfl (lv_at hl 1 rfl) ?_
  refine lv_iload_n hx hb dl_count_4 rfl (lv_at hl 2 rfl) ?_
  refine lm_t (wr := [eO o cO f]) (lm_runV (q0 := 0) (ci := 0) (wr := [eO o cO f]) hM.lm (cw_l_count hts ⟨by decide, by decide⟩) hx hb hml hown hts hk.tail hZ hL wO_perm rfl rfl hl.1 rfl rfl (lv_room (Nat.le_of_ble_eq_true rfl)) dl_count_5 ⟨by decide, by decide⟩) hA hL wO_perm wO_perm' ?_
  intro H locs x t ht h5 hw hL
  refine lc_catch (h := 17) hX (by decide) sfl_2 ?_ rfl ht h5 hw ?_
  · intro z hz
    simp only [List.mem_cons, List.not_mem_nil, or_false] at hz
    rcases hz with rfl | rfl | rfl
    · exact ⟨⟨by decide, by decide⟩, by decide, by decide, cll_0⟩
    · exact ⟨⟨by decide, by decide⟩, by decide, by decide, cll_2⟩
    · exact ⟨⟨by decide, by decide⟩, by decide, by decide, cll_1⟩
  refine lv_astore (i := 4) (nL := 5) hx hb dl_count_17 hl (by decide) rfl ?_
  intro ls hl
  refine lv_iconst (v := 2) hx hb dl_count_19 rfl ?_
  exact lq_i hx hb hr hlk hL dl_count_20
theorem cl_count_t1 {l : Launch} {D : va_G} {gm : Nat → Nat} {ca : Nat → ClassId} {o : Nat} {cO : ClassId} {f : Nat → Int64} {st : BSt} {x1 : Int32} {x2 : Int32} (hM : RM l yb_count rmb_count D gm ca [.int x1, .int x2] st (.inr 1)) : LM l yl_count rml_count D (tysO ca cO) [.ref (gm 0), .int x1, .int x2, .ref o] (wO gm ca st o cO f) (XI 3) (wO gm ca st o cO f) := by
  refine LM.ofWW (by decide +kernel) rfl mcl_count ?_
  intro p e s m below meth c A hX hL
  obtain ⟨hx, hb, hml, hr, hlk, hown, hts, hk, hZ, htab, hA⟩ := id hX
  have hl := lv_entry ([.ref (gm 0), .int x1, .int x2, .ref o] : List Value) (n := 5) (Nat.le_of_ble_eq_true rfl)
  refine lv_aload_n hx hb dl_count_0 rfl (lv_at hl 3 rfl) ?_
  refine lv_iconst (v := 0) hx hb dl_count_1 rfl ?_
  refine lv_aload_n hx hb dl_count_2 rfl (lv_at hl 0 rfl) ?_
  refine lv_iload_n hx hb dl_count_3 rfl (lv_at hl 1 rfl) ?_
  refine lv_iload_n hx hb dl_count_4 rfl (lv_at hl 2 rfl) ?_
  refine lm_t (wr := [eO o cO f]) (lm_runV (q0 := 0) (ci := 0) (wr := [eO o cO f]) hM.lm (cw_l_count hts ⟨by decide, by decide⟩) hx hb hml hown hts hk.tail hZ hL wO_perm rfl rfl hl.1 rfl rfl (lv_room (Nat.le_of_ble_eq_true rfl)) dl_count_5 ⟨by decide, by decide⟩) hA hL wO_perm wO_perm' ?_
  intro H locs x t ht h5 hw hL
  refine lc_catch (h := 21) hX (by decide) sfl_1 ?_ rfl ht h5 hw ?_
  · intro z hz
    simp only [List.mem_cons, List.not_mem_nil, or_false] at hz
    rcases hz with rfl | rfl | rfl
    · exact ⟨⟨by decide, by decide⟩, by decide, by decide, cll_0⟩
    · exact ⟨⟨by decide, by decide⟩, by decide, by decide, cll_2⟩
    · exact ⟨⟨by decide, by decide⟩, by decide, by decide, cll_1⟩
  refine lv_astore (i := 4) (nL := 5) hx hb dl_count_21 hl (by decide) rfl ?_
  intro ls hl
  refine lv_iconst (v := 3) hx hb dl_count_23 rfl ?_
  exact lq_i hx hb hr hlk hL dl_count_24
abbrev rml_key : Room := { frames := 8, cells := 3, slots := 18, locals := 171 }
theorem cl_key_v {l : Launch} {D : va_G} {gm : Nat → Nat} {ca : Nat → ClassId} {o : Nat} {cO : ClassId} {f : Nat → Int64} {st : BSt} {x1 : Int32} {x2 : Int32} {v : Int32} (hM : RM l yb_key rmb_key D gm ca [.int x1, .int x2] st (XI v)) : LM l yl_key rml_key D (tysO ca cO) [.ref (gm 0), .int x1, .int x2, .ref o] (wO gm ca st o cO f) (XI 0) (wO gm ca st o cO (vp_updL f 0 v.toInt64)) := by
  refine LM.ofWW (by decide +kernel) rfl mcl_key ?_
  intro p e s m below meth c A hX hL
  obtain ⟨hx, hb, hml, hr, hlk, hown, hts, hk, hZ, htab, hA⟩ := id hX
  have hl := lv_entry ([.ref (gm 0), .int x1, .int x2, .ref o] : List Value) (n := 5) (Nat.le_of_ble_eq_true rfl)
  refine lv_aload_n hx hb dl_key_0 rfl (lv_at hl 3 rfl) ?_
  refine lv_iconst (v := 0) hx hb dl_key_1 rfl ?_
  refine lv_aload_n hx hb dl_key_2 rfl (lv_at hl 0 rfl) ?_
  refine lv_iload_n hx hb dl_key_3 rfl (lv_at hl 1 rfl) ?_
  refine lv_iload_n hx hb dl_key_4 rfl (lv_at hl 2 rfl) ?_
  refine lm_v (wr := [eO o cO f]) (lm_runV (q0 := 0) (ci := 0) (wr := [eO o cO f]) hM.lm (cw_l_key hts ⟨by decide, by decide⟩) hx hb hml hown hts hk.tail hZ hL wO_perm rfl rfl hl.1 rfl rfl (lv_room (Nat.le_of_ble_eq_true rfl)) dl_key_5 ⟨by decide, by decide⟩) hA hL wO_perm wO_perm' ?_
  intro H locs hL
  refine lv_i2l hx hb dl_key_8 rfl ?_
  refine lo_st hx hb hk hL dl_key_9 ?_
  intro H locs hL
  refine lv_goto (tgt := 21) hx hb dl_key_10 (by decide) ?_
  refine lv_iconst (v := 0) hx hb dl_key_21 rfl ?_
  exact lq_i hx hb hr hlk hL dl_key_22
theorem cl_key_t0 {l : Launch} {D : va_G} {gm : Nat → Nat} {ca : Nat → ClassId} {o : Nat} {cO : ClassId} {f : Nat → Int64} {st : BSt} {x1 : Int32} {x2 : Int32} (hM : RM l yb_key rmb_key D gm ca [.int x1, .int x2] st (.inr 0)) : LM l yl_key rml_key D (tysO ca cO) [.ref (gm 0), .int x1, .int x2, .ref o] (wO gm ca st o cO f) (XI 1) (wO gm ca st o cO f) := by
  refine LM.ofWW (by decide +kernel) rfl mcl_key ?_
  intro p e s m below meth c A hX hL
  obtain ⟨hx, hb, hml, hr, hlk, hown, hts, hk, hZ, htab, hA⟩ := id hX
  have hl := lv_entry ([.ref (gm 0), .int x1, .int x2, .ref o] : List Value) (n := 5) (Nat.le_of_ble_eq_true rfl)
  refine lv_aload_n hx hb dl_key_0 rfl (lv_at hl 3 rfl) ?_
  refine lv_iconst (v := 0) hx hb dl_key_1 rfl ?_
  refine lv_aload_n hx hb dl_key_2 rfl (lv_at hl 0 rfl) ?_
  refine lv_iload_n hx hb dl_key_3 rfl (lv_at hl 1 rfl) ?_
  refine lv_iload_n hx hb dl_key_4 rfl (lv_at hl 2 rfl) ?_
  refine lm_t (wr := [eO o cO f]) (lm_runV (q0 := 0) (ci := 0) (wr := [eO o cO f]) hM.lm (cw_l_key hts ⟨by decide, by decide⟩) hx hb hml hown hts hk.tail hZ hL wO_perm rfl rfl hl.1 rfl rfl (lv_room (Nat.le_of_ble_eq_true rfl)) dl_key_5 ⟨by decide, by decide⟩) hA hL wO_perm wO_perm' ?_
  intro H locs x t ht h5 hw hL
  refine lc_catch (h := 13) hX (by decide) sfl_0 ?_ rfl ht h5 hw ?_
  · intro z hz
    simp only [List.mem_cons, List.not_mem_nil, or_false] at hz
    rcases hz with rfl | rfl
    · exact ⟨⟨by decide, by decide⟩, by decide, by decide, cll_0⟩
    · exact ⟨⟨by decide, by decide⟩, by decide, by decide, cll_2⟩
  refine lv_astore (i := 4) (nL := 5) hx hb dl_key_13 hl (by decide) rfl ?_
  intro ls hl
  refine lv_iconst (v := 1) hx hb dl_key_15 rfl ?_
  exact lq_i hx hb hr hlk hL dl_key_16
theorem cl_key_t2 {l : Launch} {D : va_G} {gm : Nat → Nat} {ca : Nat → ClassId} {o : Nat} {cO : ClassId} {f : Nat → Int64} {st : BSt} {x1 : Int32} {x2 : Int32} (hM : RM l yb_key rmb_key D gm ca [.int x1, .int x2] st (.inr 2)) : LM l yl_key rml_key D (tysO ca cO) [.ref (gm 0), .int x1, .int x2, .ref o] (wO gm ca st o cO f) (XI 2) (wO gm ca st o cO f) := by
  refine LM.ofWW (by decide +kernel) rfl mcl_key ?_
  intro p e s m below meth c A hX hL
  obtain ⟨hx, hb, hml, hr, hlk, hown, hts, hk, hZ, htab, hA⟩ := id hX
  have hl := lv_entry ([.ref (gm 0), .int x1, .int x2, .ref o] : List Value) (n := 5) (Nat.le_of_ble_eq_true rfl)
  refine lv_aload_n hx hb dl_key_0 rfl (lv_at hl 3 rfl) ?_
  refine lv_iconst (v := 0) hx hb dl_key_1 rfl ?_
  refine lv_aload_n hx hb dl_key_2 rfl (lv_at hl 0 rfl) ?_
  refine lv_iload_n hx hb dl_key_3 rfl (lv_at hl 1 rfl) ?_
  refine lv_iload_n hx hb dl_key_4 rfl (lv_at hl 2 rfl) ?_
  refine lm_t (wr := [eO o cO f]) (lm_runV (q0 := 0) (ci := 0) (wr := [eO o cO f]) hM.lm (cw_l_key hts ⟨by decide, by decide⟩) hx hb hml hown hts hk.tail hZ hL wO_perm rfl rfl hl.1 rfl rfl (lv_room (Nat.le_of_ble_eq_true rfl)) dl_key_5 ⟨by decide, by decide⟩) hA hL wO_perm wO_perm' ?_
  intro H locs x t ht h5 hw hL
  refine lc_catch (h := 17) hX (by decide) sfl_2 ?_ rfl ht h5 hw ?_
  · intro z hz
    simp only [List.mem_cons, List.not_mem_nil, or_false] at hz
    rcases hz with rfl | rfl
    · exact ⟨⟨by decide, by decide⟩, by decide, by decide, cll_0⟩
    · exact ⟨⟨by decide, by decide⟩, by decide, by decide, cll_2⟩
  refine lv_astore (i := 4) (nL := 5) hx hb dl_key_17 hl (by decide) rfl ?_
  intro ls hl
  refine lv_iconst (v := 2) hx hb dl_key_19 rfl ?_
  exact lq_i hx hb hr hlk hL dl_key_20
abbrev rml_same : Room := { frames := 8, cells := 3, slots := 18, locals := 170 }
theorem cl_same_v {l : Launch} {D : va_G} {gm : Nat → Nat} {ca : Nat → ClassId} {o : Nat} {cO : ClassId} {f : Nat → Int64} {st : BSt} {x1 : Int32} {x2 : Int32} {v : Int32} (hM : RM l yb_same rmb_same D gm ca [.int x1, .int x2] st (XI v)) : LM l yl_same rml_same D (tysO ca cO) [.ref (gm 0), .int x1, .int x2, .ref o] (wO gm ca st o cO f) (XI 0) (wO gm ca st o cO (vp_updL f 0 (if v = 0 then 0 else 1))) := by
  refine LM.ofWW (by decide +kernel) rfl mcl_same ?_
  intro p e s m below meth c A hX hL
  obtain ⟨hx, hb, hml, hr, hlk, hown, hts, hk, hZ, htab, hA⟩ := id hX
  have hl := lv_entry ([.ref (gm 0), .int x1, .int x2, .ref o] : List Value) (n := 5) (Nat.le_of_ble_eq_true rfl)
  refine lv_aload_n hx hb dl_same_0 rfl (lv_at hl 3 rfl) ?_
  refine lv_iconst (v := 0) hx hb dl_same_1 rfl ?_
  refine lv_aload_n hx hb dl_same_2 rfl (lv_at hl 0 rfl) ?_
  refine lv_iload_n hx hb dl_same_3 rfl (lv_at hl 1 rfl) ?_
  refine lv_iload_n hx hb dl_same_4 rfl (lv_at hl 2 rfl) ?_
  refine lm_v (wr := [eO o cO f]) (lm_runV (q0 := 0) (ci := 0) (wr := [eO o cO f]) hM.lm (cw_l_same hts ⟨by decide, by decide⟩) hx hb hml hown hts hk.tail hZ hL wO_perm rfl rfl hl.1 rfl rfl (lv_room (Nat.le_of_ble_eq_true rfl)) dl_same_5 ⟨by decide, by decide⟩) hA hL wO_perm wO_perm' ?_
  intro H locs hL
  refine lv_if_eq (tgt := 15) hx hb dl_same_8 (by decide) (fun c3 => ?_) (fun c3 => ?_)
  · rw [if_pos c3]
    refine lv_lconst (v := 0) hx hb dl_same_15 rfl ?_
    refine lo_st hx hb hk hL dl_same_16 ?_
    intro H locs hL
    refine lv_goto (tgt := 28) hx hb dl_same_17 (by decide) ?_
    refine lv_iconst (v := 0) hx hb dl_same_28 rfl ?_
    exact lq_i hx hb hr hlk hL dl_same_29
  · rw [if_neg c3]
    refine lv_lconst (v := 1) hx hb dl_same_11 rfl ?_
    refine lv_goto (tgt := 16) hx hb dl_same_12 (by decide) ?_
    refine lo_st hx hb hk hL dl_same_16 ?_
    intro H locs hL
    refine lv_goto (tgt := 28) hx hb dl_same_17 (by decide) ?_
    refine lv_iconst (v := 0) hx hb dl_same_28 rfl ?_
    exact lq_i hx hb hr hlk hL dl_same_29
theorem cl_same_t0 {l : Launch} {D : va_G} {gm : Nat → Nat} {ca : Nat → ClassId} {o : Nat} {cO : ClassId} {f : Nat → Int64} {st : BSt} {x1 : Int32} {x2 : Int32} (hM : RM l yb_same rmb_same D gm ca [.int x1, .int x2] st (.inr 0)) : LM l yl_same rml_same D (tysO ca cO) [.ref (gm 0), .int x1, .int x2, .ref o] (wO gm ca st o cO f) (XI 1) (wO gm ca st o cO f) := by
  refine LM.ofWW (by decide +kernel) rfl mcl_same ?_
  intro p e s m below meth c A hX hL
  obtain ⟨hx, hb, hml, hr, hlk, hown, hts, hk, hZ, htab, hA⟩ := id hX
  have hl := lv_entry ([.ref (gm 0), .int x1, .int x2, .ref o] : List Value) (n := 5) (Nat.le_of_ble_eq_true rfl)
  refine lv_aload_n hx hb dl_same_0 rfl (lv_at hl 3 rfl) ?_
  refine lv_iconst (v := 0) hx hb dl_same_1 rfl ?_
  refine lv_aload_n hx hb dl_same_2 rfl (lv_at hl 0 rfl) ?_
  refine lv_iload_n hx hb dl_same_3 rfl (lv_at hl 1 rfl) ?_
  refine lv_iload_n hx hb dl_same_4 rfl (lv_at hl 2 rfl) ?_
  refine lm_t (wr := [eO o cO f]) (lm_runV (q0 := 0) (ci := 0) (wr := [eO o cO f]) hM.lm (cw_l_same hts ⟨by decide, by decide⟩) hx hb hml hown hts hk.tail hZ hL wO_perm rfl rfl hl.1 rfl rfl (lv_room (Nat.le_of_ble_eq_true rfl)) dl_same_5 ⟨by decide, by decide⟩) hA hL wO_perm wO_perm' ?_
  intro H locs x t ht h5 hw hL
  refine lc_catch (h := 20) hX (by decide) sfl_0 ?_ rfl ht h5 hw ?_
  · intro z hz
    simp only [List.mem_cons, List.not_mem_nil, or_false] at hz
    rcases hz with rfl | rfl
    · exact ⟨⟨by decide, by decide⟩, by decide, by decide, cll_0⟩
    · exact ⟨⟨by decide, by decide⟩, by decide, by decide, cll_2⟩
  refine lv_astore (i := 4) (nL := 5) hx hb dl_same_20 hl (by decide) rfl ?_
  intro ls hl
  refine lv_iconst (v := 1) hx hb dl_same_22 rfl ?_
  exact lq_i hx hb hr hlk hL dl_same_23
theorem cl_same_t2 {l : Launch} {D : va_G} {gm : Nat → Nat} {ca : Nat → ClassId} {o : Nat} {cO : ClassId} {f : Nat → Int64} {st : BSt} {x1 : Int32} {x2 : Int32} (hM : RM l yb_same rmb_same D gm ca [.int x1, .int x2] st (.inr 2)) : LM l yl_same rml_same D (tysO ca cO) [.ref (gm 0), .int x1, .int x2, .ref o] (wO gm ca st o cO f) (XI 2) (wO gm ca st o cO f) := by
  refine LM.ofWW (by decide +kernel) rfl mcl_same ?_
  intro p e s m below meth c A hX hL
  obtain ⟨hx, hb, hml, hr, hlk, hown, hts, hk, hZ, htab, hA⟩ := id hX
  have hl := lv_entry ([.ref (gm 0), .int x1, .int x2, .ref o] : List Value) (n := 5) (Nat.le_of_ble_eq_true rfl)
  refine lv_aload_n hx hb dl_same_0 rfl (lv_at hl 3 rfl) ?_
  refine lv_iconst (v := 0) hx hb dl_same_1 rfl ?_
  refine lv_aload_n hx hb dl_same_2 rfl (lv_at hl 0 rfl) ?_
  refine lv_iload_n hx hb dl_same_3 rfl (lv_at hl 1 rfl) ?_
  refine lv_iload_n hx hb dl_same_4 rfl (lv_at hl 2 rfl) ?_
  refine lm_t (wr := [eO o cO f]) (lm_runV (q0 := 0) (ci := 0) (wr := [eO o cO f]) hM.lm (cw_l_same hts ⟨by decide, by decide⟩) hx hb hml hown hts hk.tail hZ hL wO_perm rfl rfl hl.1 rfl rfl (lv_room (Nat.le_of_ble_eq_true rfl)) dl_same_5 ⟨by decide, by decide⟩) hA hL wO_perm wO_perm' ?_
  intro H locs x t ht h5 hw hL
  refine lc_catch (h := 24) hX (by decide) sfl_2 ?_ rfl ht h5 hw ?_
  · intro z hz
    simp only [List.mem_cons, List.not_mem_nil, or_false] at hz
    rcases hz with rfl | rfl
    · exact ⟨⟨by decide, by decide⟩, by decide, by decide, cll_0⟩
    · exact ⟨⟨by decide, by decide⟩, by decide, by decide, cll_2⟩
  refine lv_astore (i := 4) (nL := 5) hx hb dl_same_24 hl (by decide) rfl ?_
  intro ls hl
  refine lv_iconst (v := 2) hx hb dl_same_26 rfl ?_
  exact lq_i hx hb hr hlk hL dl_same_27
abbrev rml_free : Room := { frames := 8, cells := 1, slots := 6, locals := 122 }
theorem cl_free_v {l : Launch} {D : va_G} {gm : Nat → Nat} {ca : Nat → ClassId} {o : Nat} {cO : ClassId} {f : Nat → Int64} {st : BSt} {v : Int32} (hM : RM l yb_free rmb_free D gm ca [] st (XI v)) : LM l yl_free rml_free D (tysO ca cO) [.ref (gm 0), .ref o] (wO gm ca st o cO f) (XI 0) (wO gm ca st o cO (vp_updL f 0 v.toInt64)) := by
  refine LM.ofWW (by decide +kernel) rfl mcl_free ?_
  intro p e s m below meth c A hX hL
  obtain ⟨hx, hb, hml, hr, hlk, hown, hts, hk, hZ, htab, hA⟩ := id hX
  have hl := lv_entry ([.ref (gm 0), .ref o] : List Value) (n := 3) (Nat.le_of_ble_eq_true rfl)
  refine lv_aload_n hx hb dl_free_0 rfl (lv_at hl 1 rfl) ?_
  refine lv_iconst (v := 0) hx hb dl_free_1 rfl ?_
  refine lv_aload_n hx hb dl_free_2 rfl (lv_at hl 0 rfl) ?_
  refine lm_v (wr := [eO o cO f]) (lm_runV (q0 := 0) (ci := 0) (wr := [eO o cO f]) hM.lm (cw_l_free hts ⟨by decide, by decide⟩) hx hb hml hown hts hk.tail hZ hL wO_perm rfl rfl hl.1 rfl rfl (lv_room (Nat.le_of_ble_eq_true rfl)) dl_free_3 ⟨by decide, by decide⟩) hA hL wO_perm wO_perm' ?_
  intro H locs hL
  refine lv_i2l hx hb dl_free_6 rfl ?_
  refine lo_st hx hb hk hL dl_free_7 ?_
  intro H locs hL
  refine lv_goto (tgt := 14) hx hb dl_free_8 (by decide) ?_
  refine lv_iconst (v := 0) hx hb dl_free_14 rfl ?_
  exact lq_i hx hb hr hlk hL dl_free_15
theorem cl_free_t0 {l : Launch} {D : va_G} {gm : Nat → Nat} {ca : Nat → ClassId} {o : Nat} {cO : ClassId} {f : Nat → Int64} {st : BSt} (hM : RM l yb_free rmb_free D gm ca [] st (.inr 0)) : LM l yl_free rml_free D (tysO ca cO) [.ref (gm 0), .ref o] (wO gm ca st o cO f) (XI 1) (wO gm ca st o cO f) := by
  refine LM.ofWW (by decide +kernel) rfl mcl_free ?_
  intro p e s m below meth c A hX hL
  obtain ⟨hx, hb, hml, hr, hlk, hown, hts, hk, hZ, htab, hA⟩ := id hX
  have hl := lv_entry ([.ref (gm 0), .ref o] : List Value) (n := 3) (Nat.le_of_ble_eq_true rfl)
  refine lv_aload_n hx hb dl_free_0 rfl (lv_at hl 1 rfl) ?_
  refine lv_iconst (v := 0) hx hb dl_free_1 rfl ?_
  refine lv_aload_n hx hb dl_free_2 rfl (lv_at hl 0 rfl) ?_
  refine lm_t (wr := [eO o cO f]) (lm_runV (q0 := 0) (ci := 0) (wr := [eO o cO f]) hM.lm (cw_l_free hts ⟨by decide, by decide⟩) hx hb hml hown hts hk.tail hZ hL wO_perm rfl rfl hl.1 rfl rfl (lv_room (Nat.le_of_ble_eq_true rfl)) dl_free_3 ⟨by decide, by decide⟩) hA hL wO_perm wO_perm' ?_
  intro H locs x t ht h5 hw hL
  refine lc_catch (h := 11) hX (by decide) sfl_0 ?_ rfl ht h5 hw ?_
  · intro z hz
    simp only [List.mem_cons, List.not_mem_nil, or_false] at hz
    rcases hz with rfl
    · exact ⟨⟨by decide, by decide⟩, by decide, by decide, cll_0⟩
  refine lv_astore_n (i := 2) (nL := 3) hx hb dl_free_11 rfl hl (by decide) rfl ?_
  intro ls hl
  refine lv_iconst (v := 1) hx hb dl_free_12 rfl ?_
  exact lq_i hx hb hr hlk hL dl_free_13
abbrev rml_crash : Room := { frames := 8, cells := 2, slots := 12, locals := 123 }
theorem cl_crash_v {l : Launch} {D : va_G} {gm : Nat → Nat} {ca : Nat → ClassId} {o : Nat} {cO : ClassId} {f : Nat → Int64} {st st' : BSt} {x1 : Int32} {v : Int32} (hM : MM l yb_crash rmb_crash D gm ca [.int x1] st (XI v) st') : LM l yl_crash rml_crash D (tysO ca cO) [.ref (gm 0), .int x1, .ref o] (wO gm ca st o cO f) (XI 0) (wO gm ca st' o cO (vp_updL f 0 v.toInt64)) := by
  refine LM.ofWW (by decide +kernel) rfl mcl_crash ?_
  intro p e s m below meth c A hX hL
  obtain ⟨hx, hb, hml, hr, hlk, hown, hts, hk, hZ, htab, hA⟩ := id hX
  have hl := lv_entry ([.ref (gm 0), .int x1, .ref o] : List Value) (n := 4) (Nat.le_of_ble_eq_true rfl)
  refine lv_aload_n hx hb dl_crash_0 rfl (lv_at hl 2 rfl) ?_
  refine lv_iconst (v := 0) hx hb dl_crash_1 rfl ?_
  refine lv_aload_n hx hb dl_crash_2 rfl (lv_at hl 0 rfl) ?_
  refine lv_iload_n hx hb dl_crash_3 rfl (lv_at hl 1 rfl) ?_
  refine lm_v (wr := [eO o cO f]) (lm_runV (q0 := 0) (ci := 0) (wr := [eO o cO f]) hM.lm (cw_l_crash hts ⟨by decide, by decide⟩) hx hb hml hown hts hk.tail hZ hL wO_perm rfl rfl hl.1 rfl rfl (lv_room (Nat.le_of_ble_eq_true rfl)) dl_crash_4 ⟨by decide, by decide⟩) hA hL wO_perm wO_perm' ?_
  intro H locs hL
  refine lv_i2l hx hb dl_crash_7 rfl ?_
  refine lo_st hx hb hk hL dl_crash_8 ?_
  intro H locs hL
  refine lv_goto (tgt := 18) hx hb dl_crash_9 (by decide) ?_
  refine lv_iconst (v := 0) hx hb dl_crash_18 rfl ?_
  exact lq_i hx hb hr hlk hL dl_crash_19
theorem cl_crash_t0 {l : Launch} {D : va_G} {gm : Nat → Nat} {ca : Nat → ClassId} {o : Nat} {cO : ClassId} {f : Nat → Int64} {st st' : BSt} {x1 : Int32} (hM : MM l yb_crash rmb_crash D gm ca [.int x1] st (.inr 0) st') : LM l yl_crash rml_crash D (tysO ca cO) [.ref (gm 0), .int x1, .ref o] (wO gm ca st o cO f) (XI 1) (wO gm ca st' o cO f) := by
  refine LM.ofWW (by decide +kernel) rfl mcl_crash ?_
  intro p e s m below meth c A hX hL
  obtain ⟨hx, hb, hml, hr, hlk, hown, hts, hk, hZ, htab, hA⟩ := id hX
  have hl := lv_entry ([.ref (gm 0), .int x1, .ref o] : List Value) (n := 4) (Nat.le_of_ble_eq_true rfl)
  refine lv_aload_n hx hb dl_crash_0 rfl (lv_at hl 2 rfl) ?_
  refine lv_iconst (v := 0) hx hb dl_crash_1 rfl ?_
  refine lv_aload_n hx hb dl_crash_2 rfl (lv_at hl 0 rfl) ?_
  refine lv_iload_n hx hb dl_crash_3 rfl (lv_at hl 1 rfl) ?_
  refine lm_t (wr := [eO o cO f]) (lm_runV (q0 := 0) (ci := 0) (wr := [eO o cO f]) hM.lm (cw_l_crash hts ⟨by decide, by decide⟩) hx hb hml hown hts hk.tail hZ hL wO_perm rfl rfl hl.1 rfl rfl (lv_room (Nat.le_of_ble_eq_true rfl)) dl_crash_4 ⟨by decide, by decide⟩) hA hL wO_perm wO_perm' ?_
  intro H locs x t ht h5 hw hL
  refine lc_catch (h := 12) hX (by decide) sfl_0 ?_ rfl ht h5 hw ?_
  · intro z hz
    simp only [List.mem_cons, List.not_mem_nil, or_false] at hz
    rcases hz with rfl | rfl
    · exact ⟨⟨by decide, by decide⟩, by decide, by decide, cll_0⟩
    · exact ⟨⟨by decide, by decide⟩, by decide, by decide, cll_1⟩
  refine lv_astore_n (i := 3) (nL := 4) hx hb dl_crash_12 rfl hl (by decide) rfl ?_
  intro ls hl
  refine lv_iconst (v := 1) hx hb dl_crash_13 rfl ?_
  exact lq_i hx hb hr hlk hL dl_crash_14
theorem cl_crash_t1 {l : Launch} {D : va_G} {gm : Nat → Nat} {ca : Nat → ClassId} {o : Nat} {cO : ClassId} {f : Nat → Int64} {st st' : BSt} {x1 : Int32} (hM : MM l yb_crash rmb_crash D gm ca [.int x1] st (.inr 1) st') : LM l yl_crash rml_crash D (tysO ca cO) [.ref (gm 0), .int x1, .ref o] (wO gm ca st o cO f) (XI 2) (wO gm ca st' o cO f) := by
  refine LM.ofWW (by decide +kernel) rfl mcl_crash ?_
  intro p e s m below meth c A hX hL
  obtain ⟨hx, hb, hml, hr, hlk, hown, hts, hk, hZ, htab, hA⟩ := id hX
  have hl := lv_entry ([.ref (gm 0), .int x1, .ref o] : List Value) (n := 4) (Nat.le_of_ble_eq_true rfl)
  refine lv_aload_n hx hb dl_crash_0 rfl (lv_at hl 2 rfl) ?_
  refine lv_iconst (v := 0) hx hb dl_crash_1 rfl ?_
  refine lv_aload_n hx hb dl_crash_2 rfl (lv_at hl 0 rfl) ?_
  refine lv_iload_n hx hb dl_crash_3 rfl (lv_at hl 1 rfl) ?_
  refine lm_t (wr := [eO o cO f]) (lm_runV (q0 := 0) (ci := 0) (wr := [eO o cO f]) hM.lm (cw_l_crash hts ⟨by decide, by decide⟩) hx hb hml hown hts hk.tail hZ hL wO_perm rfl rfl hl.1 rfl rfl (lv_room (Nat.le_of_ble_eq_true rfl)) dl_crash_4 ⟨by decide, by decide⟩) hA hL wO_perm wO_perm' ?_
  intro H locs x t ht h5 hw hL
  refine lc_catch (h := 15) hX (by decide) sfl_1 ?_ rfl ht h5 hw ?_
  · intro z hz
    simp only [List.mem_cons, List.not_mem_nil, or_false] at hz
    rcases hz with rfl | rfl
    · exact ⟨⟨by decide, by decide⟩, by decide, by decide, cll_0⟩
    · exact ⟨⟨by decide, by decide⟩, by decide, by decide, cll_1⟩
  refine lv_astore_n (i := 3) (nL := 4) hx hb dl_crash_15 rfl hl (by decide) rfl ?_
  intro ls hl
  refine lv_iconst (v := 2) hx hb dl_crash_16 rfl ?_
  exact lq_i hx hb hr hlk hL dl_crash_17
abbrev rml_wordAt : Room := { frames := 8, cells := 1, slots := 6, locals := 126 }
theorem cl_wordAt_v {l : Launch} {D : va_G} {gm : Nat → Nat} {ca : Nat → ClassId} {o : Nat} {cO : ClassId} {f : Nat → Int64} {st : BSt} {x1 : Int32} {x2 : Int32} {v : Int64} (hM : RM l yb_wordAt rmb_wordAt D gm ca [.int x1, .int x2] st (XL v)) : LM l yl_wordAt rml_wordAt D (tysO ca cO) [.ref (gm 0), .int x1, .int x2, .ref o] (wO gm ca st o cO f) (XI 0) (wO gm ca st o cO (vp_updL f 0 v)) := by
  refine LM.ofWW (by decide +kernel) rfl mcl_wordAt ?_
  intro p e s m below meth c A hX hL
  obtain ⟨hx, hb, hml, hr, hlk, hown, hts, hk, hZ, htab, hA⟩ := id hX
  have hl := lv_entry ([.ref (gm 0), .int x1, .int x2, .ref o] : List Value) (n := 5) (Nat.le_of_ble_eq_true rfl)
  refine lv_aload_n hx hb dl_wordAt_0 rfl (lv_at hl 3 rfl) ?_
  refine lv_iconst (v := 0) hx hb dl_wordAt_1 rfl ?_
  refine lv_aload_n hx hb dl_wordAt_2 rfl (lv_at hl 0 rfl) ?_
  refine lv_iload_n hx hb dl_wordAt_3 rfl (lv_at hl 1 rfl) ?_
  refine lv_iload_n hx hb dl_wordAt_4 rfl (lv_at hl 2 rfl) ?_
  refine lm_v (wr := [eO o cO f]) (lm_runV (q0 := 0) (ci := 0) (wr := [eO o cO f]) hM.lm (cw_l_wordAt hts ⟨by decide, by decide⟩) hx hb hml hown hts hk.tail hZ hL wO_perm rfl rfl hl.1 rfl rfl (lv_room (Nat.le_of_ble_eq_true rfl)) dl_wordAt_5 ⟨by decide, by decide⟩) hA hL wO_perm wO_perm' ?_
  intro H locs hL
  refine lo_st hx hb hk hL dl_wordAt_8 ?_
  intro H locs hL
  refine lv_goto (tgt := 16) hx hb dl_wordAt_9 (by decide) ?_
  refine lv_iconst (v := 0) hx hb dl_wordAt_16 rfl ?_
  exact lq_i hx hb hr hlk hL dl_wordAt_17
theorem cl_wordAt_t2 {l : Launch} {D : va_G} {gm : Nat → Nat} {ca : Nat → ClassId} {o : Nat} {cO : ClassId} {f : Nat → Int64} {st : BSt} {x1 : Int32} {x2 : Int32} (hM : RM l yb_wordAt rmb_wordAt D gm ca [.int x1, .int x2] st (.inr 2)) : LM l yl_wordAt rml_wordAt D (tysO ca cO) [.ref (gm 0), .int x1, .int x2, .ref o] (wO gm ca st o cO f) (XI 1) (wO gm ca st o cO f) := by
  refine LM.ofWW (by decide +kernel) rfl mcl_wordAt ?_
  intro p e s m below meth c A hX hL
  obtain ⟨hx, hb, hml, hr, hlk, hown, hts, hk, hZ, htab, hA⟩ := id hX
  have hl := lv_entry ([.ref (gm 0), .int x1, .int x2, .ref o] : List Value) (n := 5) (Nat.le_of_ble_eq_true rfl)
  refine lv_aload_n hx hb dl_wordAt_0 rfl (lv_at hl 3 rfl) ?_
  refine lv_iconst (v := 0) hx hb dl_wordAt_1 rfl ?_
  refine lv_aload_n hx hb dl_wordAt_2 rfl (lv_at hl 0 rfl) ?_
  refine lv_iload_n hx hb dl_wordAt_3 rfl (lv_at hl 1 rfl) ?_
  refine lv_iload_n hx hb dl_wordAt_4 rfl (lv_at hl 2 rfl) ?_
  refine lm_t (wr := [eO o cO f]) (lm_runV (q0 := 0) (ci := 0) (wr := [eO o cO f]) hM.lm (cw_l_wordAt hts ⟨by decide, by decide⟩) hx hb hml hown hts hk.tail hZ hL wO_perm rfl rfl hl.1 rfl rfl (lv_room (Nat.le_of_ble_eq_true rfl)) dl_wordAt_5 ⟨by decide, by decide⟩) hA hL wO_perm wO_perm' ?_
  intro H locs x t ht h5 hw hL
  refine lc_catch (h := 12) hX (by decide) sfl_2 ?_ rfl ht h5 hw ?_
  · intro z hz
    simp only [List.mem_cons, List.not_mem_nil, or_false] at hz
    rcases hz with rfl
    · exact ⟨⟨by decide, by decide⟩, by decide, by decide, cll_2⟩
  refine lv_astore (i := 4) (nL := 5) hx hb dl_wordAt_12 hl (by decide) rfl ?_
  intro ls hl
  refine lv_iconst (v := 1) hx hb dl_wordAt_14 rfl ?_
  exact lq_i hx hb hr hlk hL dl_wordAt_15
abbrev rml_rootAt : Room := { frames := 8, cells := 1, slots := 6, locals := 126 }
theorem cl_rootAt_v {l : Launch} {D : va_G} {gm : Nat → Nat} {ca : Nat → ClassId} {o : Nat} {cO : ClassId} {f : Nat → Int64} {st : BSt} {x1 : Int32} {x2 : Int32} {v : Int64} (hM : RM l yb_rootAt rmb_rootAt D gm ca [.int x1, .int x2] st (XL v)) : LM l yl_rootAt rml_rootAt D (tysO ca cO) [.ref (gm 0), .int x1, .int x2, .ref o] (wO gm ca st o cO f) (XI 0) (wO gm ca st o cO (vp_updL f 0 v)) := by
  refine LM.ofWW (by decide +kernel) rfl mcl_rootAt ?_
  intro p e s m below meth c A hX hL
  obtain ⟨hx, hb, hml, hr, hlk, hown, hts, hk, hZ, htab, hA⟩ := id hX
  have hl := lv_entry ([.ref (gm 0), .int x1, .int x2, .ref o] : List Value) (n := 5) (Nat.le_of_ble_eq_true rfl)
  refine lv_aload_n hx hb dl_rootAt_0 rfl (lv_at hl 3 rfl) ?_
  refine lv_iconst (v := 0) hx hb dl_rootAt_1 rfl ?_
  refine lv_aload_n hx hb dl_rootAt_2 rfl (lv_at hl 0 rfl) ?_
  refine lv_iload_n hx hb dl_rootAt_3 rfl (lv_at hl 1 rfl) ?_
  refine lv_iload_n hx hb dl_rootAt_4 rfl (lv_at hl 2 rfl) ?_
  refine lm_v (wr := [eO o cO f]) (lm_runV (q0 := 0) (ci := 0) (wr := [eO o cO f]) hM.lm (cw_l_rootAt hts ⟨by decide, by decide⟩) hx hb hml hown hts hk.tail hZ hL wO_perm rfl rfl hl.1 rfl rfl (lv_room (Nat.le_of_ble_eq_true rfl)) dl_rootAt_5 ⟨by decide, by decide⟩) hA hL wO_perm wO_perm' ?_
  intro H locs hL
  refine lo_st hx hb hk hL dl_rootAt_8 ?_
  intro H locs hL
  refine lv_goto (tgt := 16) hx hb dl_rootAt_9 (by decide) ?_
  refine lv_iconst (v := 0) hx hb dl_rootAt_16 rfl ?_
  exact lq_i hx hb hr hlk hL dl_rootAt_17
theorem cl_rootAt_t2 {l : Launch} {D : va_G} {gm : Nat → Nat} {ca : Nat → ClassId} {o : Nat} {cO : ClassId} {f : Nat → Int64} {st : BSt} {x1 : Int32} {x2 : Int32} (hM : RM l yb_rootAt rmb_rootAt D gm ca [.int x1, .int x2] st (.inr 2)) : LM l yl_rootAt rml_rootAt D (tysO ca cO) [.ref (gm 0), .int x1, .int x2, .ref o] (wO gm ca st o cO f) (XI 1) (wO gm ca st o cO f) := by
  refine LM.ofWW (by decide +kernel) rfl mcl_rootAt ?_
  intro p e s m below meth c A hX hL
  obtain ⟨hx, hb, hml, hr, hlk, hown, hts, hk, hZ, htab, hA⟩ := id hX
  have hl := lv_entry ([.ref (gm 0), .int x1, .int x2, .ref o] : List Value) (n := 5) (Nat.le_of_ble_eq_true rfl)
  refine lv_aload_n hx hb dl_rootAt_0 rfl (lv_at hl 3 rfl) ?_
  refine lv_iconst (v := 0) hx hb dl_rootAt_1 rfl ?_
  refine lv_aload_n hx hb dl_rootAt_2 rfl (lv_at hl 0 rfl) ?_
  refine lv_iload_n hx hb dl_rootAt_3 rfl (lv_at hl 1 rfl) ?_
  refine lv_iload_n hx hb dl_rootAt_4 rfl (lv_at hl 2 rfl) ?_
  refine lm_t (wr := [eO o cO f]) (lm_runV (q0 := 0) (ci := 0) (wr := [eO o cO f]) hM.lm (cw_l_rootAt hts ⟨by decide, by decide⟩) hx hb hml hown hts hk.tail hZ hL wO_perm rfl rfl hl.1 rfl rfl (lv_room (Nat.le_of_ble_eq_true rfl)) dl_rootAt_5 ⟨by decide, by decide⟩) hA hL wO_perm wO_perm' ?_
  intro H locs x t ht h5 hw hL
  refine lc_catch (h := 12) hX (by decide) sfl_2 ?_ rfl ht h5 hw ?_
  · intro z hz
    simp only [List.mem_cons, List.not_mem_nil, or_false] at hz
    rcases hz with rfl
    · exact ⟨⟨by decide, by decide⟩, by decide, by decide, cll_2⟩
  refine lv_astore (i := 4) (nL := 5) hx hb dl_rootAt_12 hl (by decide) rfl ?_
  intro ls hl
  refine lv_iconst (v := 1) hx hb dl_rootAt_14 rfl ?_
  exact lq_i hx hb hr hlk hL dl_rootAt_15
abbrev rml_poke : Room := { frames := 8, cells := 2, slots := 12, locals := 128 }
theorem cl_poke_v {l : Launch} {D : va_G} {gm : Nat → Nat} {ca : Nat → ClassId} {st st' : BSt} {x1 : Int32} {x2 : Int32} {x3 : Int64} (hM : MM l yb_poke rmb_poke D gm ca [.int x1, .int x2, .long x3] st (XV) st') : LM l yl_poke rml_poke D (tysB ca) [.ref (gm 0), .int x1, .int x2, .long x3] (wB gm ca st) (XI 0) (wB gm ca st') := by
  refine LM.ofWW (by decide +kernel) rfl mcl_poke ?_
  intro p e s m below meth c A hX hL
  obtain ⟨hx, hb, hml, hr, hlk, hown, hts, hk, hZ, htab, hA⟩ := id hX
  have hl := lv_entry ([.ref (gm 0), .int x1, .int x2, .long x3] : List Value) (n := 6) (Nat.le_of_ble_eq_true rfl)
  refine lv_aload_n hx hb dl_poke_0 rfl (lv_at hl 0 rfl) ?_
  refine lv_iload_n hx hb dl_poke_1 rfl (lv_at hl 1 rfl) ?_
  refine lv_iload_n hx hb dl_poke_2 rfl (lv_at hl 2 rfl) ?_
  refine lv_lload_n hx hb dl_poke_3 rfl (lv_at hl 3 rfl) ?_
  refine lm_v (wr := []) (lm_runV (q0 := 0) (ci := 0) (wr := []) hM.lm (cw_l_poke hts ⟨by decide, by decide⟩) hx hb hml hown hts hk hZ hL (by rw [List.append_nil]) rfl rfl hl.1 rfl rfl (lv_room (Nat.le_of_ble_eq_true rfl)) dl_poke_4 ⟨by decide, by decide⟩) hA hL (by rw [List.append_nil]) (by rw [List.append_nil]) ?_
  intro H locs hL
  refine lv_goto (tgt := 18) hx hb dl_poke_7 (by decide) ?_
  refine lv_iconst (v := 0) hx hb dl_poke_18 rfl ?_
  exact lq_i hx hb hr hlk hL dl_poke_19
theorem cl_poke_t2 {l : Launch} {D : va_G} {gm : Nat → Nat} {ca : Nat → ClassId} {st st' : BSt} {x1 : Int32} {x2 : Int32} {x3 : Int64} (hM : MM l yb_poke rmb_poke D gm ca [.int x1, .int x2, .long x3] st (.inr 2) st') : LM l yl_poke rml_poke D (tysB ca) [.ref (gm 0), .int x1, .int x2, .long x3] (wB gm ca st) (XI 1) (wB gm ca st') := by
  refine LM.ofWW (by decide +kernel) rfl mcl_poke ?_
  intro p e s m below meth c A hX hL
  obtain ⟨hx, hb, hml, hr, hlk, hown, hts, hk, hZ, htab, hA⟩ := id hX
  have hl := lv_entry ([.ref (gm 0), .int x1, .int x2, .long x3] : List Value) (n := 6) (Nat.le_of_ble_eq_true rfl)
  refine lv_aload_n hx hb dl_poke_0 rfl (lv_at hl 0 rfl) ?_
  refine lv_iload_n hx hb dl_poke_1 rfl (lv_at hl 1 rfl) ?_
  refine lv_iload_n hx hb dl_poke_2 rfl (lv_at hl 2 rfl) ?_
  refine lv_lload_n hx hb dl_poke_3 rfl (lv_at hl 3 rfl) ?_
  refine lm_t (wr := []) (lm_runV (q0 := 0) (ci := 0) (wr := []) hM.lm (cw_l_poke hts ⟨by decide, by decide⟩) hx hb hml hown hts hk hZ hL (by rw [List.append_nil]) rfl rfl hl.1 rfl rfl (lv_room (Nat.le_of_ble_eq_true rfl)) dl_poke_4 ⟨by decide, by decide⟩) hA hL (by rw [List.append_nil]) (by rw [List.append_nil]) ?_
  intro H locs x t ht h5 hw hL
  refine lc_catch (h := 10) hX (by decide) sfl_2 ?_ rfl ht h5 hw ?_
  · intro z hz
    simp only [List.mem_cons, List.not_mem_nil, or_false] at hz
    rcases hz with rfl | rfl
    · exact ⟨⟨by decide, by decide⟩, by decide, by decide, cll_2⟩
    · exact ⟨⟨by decide, by decide⟩, by decide, by decide, cll_1⟩
  refine lv_astore (i := 5) (nL := 6) hx hb dl_poke_10 hl (by decide) rfl ?_
  intro ls hl
  refine lv_iconst (v := 1) hx hb dl_poke_12 rfl ?_
  exact lq_i hx hb hr hlk hL dl_poke_13
theorem cl_poke_t1 {l : Launch} {D : va_G} {gm : Nat → Nat} {ca : Nat → ClassId} {st st' : BSt} {x1 : Int32} {x2 : Int32} {x3 : Int64} (hM : MM l yb_poke rmb_poke D gm ca [.int x1, .int x2, .long x3] st (.inr 1) st') : LM l yl_poke rml_poke D (tysB ca) [.ref (gm 0), .int x1, .int x2, .long x3] (wB gm ca st) (XI 2) (wB gm ca st') := by
  refine LM.ofWW (by decide +kernel) rfl mcl_poke ?_
  intro p e s m below meth c A hX hL
  obtain ⟨hx, hb, hml, hr, hlk, hown, hts, hk, hZ, htab, hA⟩ := id hX
  have hl := lv_entry ([.ref (gm 0), .int x1, .int x2, .long x3] : List Value) (n := 6) (Nat.le_of_ble_eq_true rfl)
  refine lv_aload_n hx hb dl_poke_0 rfl (lv_at hl 0 rfl) ?_
  refine lv_iload_n hx hb dl_poke_1 rfl (lv_at hl 1 rfl) ?_
  refine lv_iload_n hx hb dl_poke_2 rfl (lv_at hl 2 rfl) ?_
  refine lv_lload_n hx hb dl_poke_3 rfl (lv_at hl 3 rfl) ?_
  refine lm_t (wr := []) (lm_runV (q0 := 0) (ci := 0) (wr := []) hM.lm (cw_l_poke hts ⟨by decide, by decide⟩) hx hb hml hown hts hk hZ hL (by rw [List.append_nil]) rfl rfl hl.1 rfl rfl (lv_room (Nat.le_of_ble_eq_true rfl)) dl_poke_4 ⟨by decide, by decide⟩) hA hL (by rw [List.append_nil]) (by rw [List.append_nil]) ?_
  intro H locs x t ht h5 hw hL
  refine lc_catch (h := 14) hX (by decide) sfl_1 ?_ rfl ht h5 hw ?_
  · intro z hz
    simp only [List.mem_cons, List.not_mem_nil, or_false] at hz
    rcases hz with rfl | rfl
    · exact ⟨⟨by decide, by decide⟩, by decide, by decide, cll_2⟩
    · exact ⟨⟨by decide, by decide⟩, by decide, by decide, cll_1⟩
  refine lv_astore (i := 5) (nL := 6) hx hb dl_poke_14 hl (by decide) rfl ?_
  intro ls hl
  refine lv_iconst (v := 2) hx hb dl_poke_16 rfl ?_
  exact lq_i hx hb hr hlk hL dl_poke_17
abbrev rml_pokeRoot : Room := { frames := 8, cells := 2, slots := 12, locals := 128 }
theorem cl_pokeRoot_v {l : Launch} {D : va_G} {gm : Nat → Nat} {ca : Nat → ClassId} {st st' : BSt} {x1 : Int32} {x2 : Int32} {x3 : Int64} (hM : MM l yb_pokeRoot rmb_pokeRoot D gm ca [.int x1, .int x2, .long x3] st (XV) st') : LM l yl_pokeRoot rml_pokeRoot D (tysB ca) [.ref (gm 0), .int x1, .int x2, .long x3] (wB gm ca st) (XI 0) (wB gm ca st') := by
  refine LM.ofWW (by decide +kernel) rfl mcl_pokeRoot ?_
  intro p e s m below meth c A hX hL
  obtain ⟨hx, hb, hml, hr, hlk, hown, hts, hk, hZ, htab, hA⟩ := id hX
  have hl := lv_entry ([.ref (gm 0), .int x1, .int x2, .long x3] : List Value) (n := 6) (Nat.le_of_ble_eq_true rfl)
  refine lv_aload_n hx hb dl_pokeRoot_0 rfl (lv_at hl 0 rfl) ?_
  refine lv_iload_n hx hb dl_pokeRoot_1 rfl (lv_at hl 1 rfl) ?_
  refine lv_iload_n hx hb dl_pokeRoot_2 rfl (lv_at hl 2 rfl) ?_
  refine lv_lload_n hx hb dl_pokeRoot_3 rfl (lv_at hl 3 rfl) ?_
  refine lm_v (wr := []) (lm_runV (q0 := 0) (ci := 0) (wr := []) hM.lm (cw_l_pokeRoot hts ⟨by decide, by decide⟩) hx hb hml hown hts hk hZ hL (by rw [List.append_nil]) rfl rfl hl.1 rfl rfl (lv_room (Nat.le_of_ble_eq_true rfl)) dl_pokeRoot_4 ⟨by decide, by decide⟩) hA hL (by rw [List.append_nil]) (by rw [List.append_nil]) ?_
  intro H locs hL
  refine lv_goto (tgt := 18) hx hb dl_pokeRoot_7 (by decide) ?_
  refine lv_iconst (v := 0) hx hb dl_pokeRoot_18 rfl ?_
  exact lq_i hx hb hr hlk hL dl_pokeRoot_19
theorem cl_pokeRoot_t2 {l : Launch} {D : va_G} {gm : Nat → Nat} {ca : Nat → ClassId} {st st' : BSt} {x1 : Int32} {x2 : Int32} {x3 : Int64} (hM : MM l yb_pokeRoot rmb_pokeRoot D gm ca [.int x1, .int x2, .long x3] st (.inr 2) st') : LM l yl_pokeRoot rml_pokeRoot D (tysB ca) [.ref (gm 0), .int x1, .int x2, .long x3] (wB gm ca st) (XI 1) (wB gm ca st') := by
  refine LM.ofWW (by decide +kernel) rfl mcl_pokeRoot ?_
  intro p e s m below meth c A hX hL
  obtain ⟨hx, hb, hml, hr, hlk, hown, hts, hk, hZ, htab, hA⟩ := id hX
  have hl := lv_entry ([.ref (gm 0), .int x1, .int x2, .long x3] : List Value) (n := 6) (Nat.le_of_ble_eq_true rfl)
  refine lv_aload_n hx hb dl_pokeRoot_0 rfl (lv_at hl 0 rfl) ?_
  refine lv_iload_n hx hb dl_pokeRoot_1 rfl (lv_at hl 1 rfl) ?_
  refine lv_iload_n hx hb dl_pokeRoot_2 rfl (lv_at hl 2 rfl) ?_
  refine lv_lload_n hx hb dl_pokeRoot_3 rfl (lv_at hl 3 rfl) ?_
  refine lm_t (wr := []) (lm_runV (q0 := 0) (ci := 0) (wr := []) hM.lm (cw_l_pokeRoot hts ⟨by decide, by decide⟩) hx hb hml hown hts hk hZ hL (by rw [List.append_nil]) rfl rfl hl.1 rfl rfl (lv_room (Nat.le_of_ble_eq_true rfl)) dl_pokeRoot_4 ⟨by decide, by decide⟩) hA hL (by rw [List.append_nil]) (by rw [List.append_nil]) ?_
  intro H locs x t ht h5 hw hL
  refine lc_catch (h := 10) hX (by decide) sfl_2 ?_ rfl ht h5 hw ?_
  · intro z hz
    simp only [List.mem_cons, List.not_mem_nil, or_false] at hz
    rcases hz with rfl | rfl
    · exact ⟨⟨by decide, by decide⟩, by decide, by decide, cll_2⟩
    · exact ⟨⟨by decide, by decide⟩, by decide, by decide, cll_1⟩
  refine lv_astore (i := 5) (nL := 6) hx hb dl_pokeRoot_10 hl (by decide) rfl ?_
  intro ls hl
  refine lv_iconst (v := 1) hx hb dl_pokeRoot_12 rfl ?_
  exact lq_i hx hb hr hlk hL dl_pokeRoot_13
theorem cl_pokeRoot_t1 {l : Launch} {D : va_G} {gm : Nat → Nat} {ca : Nat → ClassId} {st st' : BSt} {x1 : Int32} {x2 : Int32} {x3 : Int64} (hM : MM l yb_pokeRoot rmb_pokeRoot D gm ca [.int x1, .int x2, .long x3] st (.inr 1) st') : LM l yl_pokeRoot rml_pokeRoot D (tysB ca) [.ref (gm 0), .int x1, .int x2, .long x3] (wB gm ca st) (XI 2) (wB gm ca st') := by
  refine LM.ofWW (by decide +kernel) rfl mcl_pokeRoot ?_
  intro p e s m below meth c A hX hL
  obtain ⟨hx, hb, hml, hr, hlk, hown, hts, hk, hZ, htab, hA⟩ := id hX
  have hl := lv_entry ([.ref (gm 0), .int x1, .int x2, .long x3] : List Value) (n := 6) (Nat.le_of_ble_eq_true rfl)
  refine lv_aload_n hx hb dl_pokeRoot_0 rfl (lv_at hl 0 rfl) ?_
  refine lv_iload_n hx hb dl_pokeRoot_1 rfl (lv_at hl 1 rfl) ?_
  refine lv_iload_n hx hb dl_pokeRoot_2 rfl (lv_at hl 2 rfl) ?_
  refine lv_lload_n hx hb dl_pokeRoot_3 rfl (lv_at hl 3 rfl) ?_
  refine lm_t (wr := []) (lm_runV (q0 := 0) (ci := 0) (wr := []) hM.lm (cw_l_pokeRoot hts ⟨by decide, by decide⟩) hx hb hml hown hts hk hZ hL (by rw [List.append_nil]) rfl rfl hl.1 rfl rfl (lv_room (Nat.le_of_ble_eq_true rfl)) dl_pokeRoot_4 ⟨by decide, by decide⟩) hA hL (by rw [List.append_nil]) (by rw [List.append_nil]) ?_
  intro H locs x t ht h5 hw hL
  refine lc_catch (h := 14) hX (by decide) sfl_1 ?_ rfl ht h5 hw ?_
  · intro z hz
    simp only [List.mem_cons, List.not_mem_nil, or_false] at hz
    rcases hz with rfl | rfl
    · exact ⟨⟨by decide, by decide⟩, by decide, by decide, cll_2⟩
    · exact ⟨⟨by decide, by decide⟩, by decide, by decide, cll_1⟩
  refine lv_astore (i := 5) (nL := 6) hx hb dl_pokeRoot_14 hl (by decide) rfl ?_
  intro ls hl
  refine lv_iconst (v := 2) hx hb dl_pokeRoot_16 rfl ?_
  exact lq_i hx hb hr hlk hL dl_pokeRoot_17
