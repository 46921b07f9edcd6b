/-! THE LAW'S ENTRY -/
def lw_P (b : Addr) (xs : List Int32) (args : Array Value) (s : State) : Prop := args = #[.ref b] ∧ s.IntsAt b xs ∧ xs.length ≤ 2561 ∧ (Jvm.Cond.and given_1 narrow_1).before args s = true
def lw_Q (_ : Array Value) (s : State) (o : Outcome) (t : State) : Prop := o = .returned (some (.int 1)) ∧ Framed s o t [] 601024 7293000
def lw_Z (below : List Frame) (a : Array Value) (s : State) : State → Prop := fun t => ∃ o, t.status = .running ∧ Ended t below o ∧ lw_Q a s o t
/-- the law's own end, with 1 on the stack, nothing written that was there before, its room as the claim has it -/
theorem lw_ret {p : Program} {l : Launch} {e : Env} {s : State} {m : MethodId} {below : List Frame} {meth : Method} {c : Code} {b : Nat} (hx : p.tables.exec = Jvm.exec) (hb : c.code = code) (hr : meth.sig.returnType = ret) (hlocks : meth.locks = false) {pc : Nat} {H : Heap} {ls : Array Slot} (hdg : decode code pc = .ok (.ireturn, 1)) : W p l e room_1 s m #[Value.ref b] below meth c H [] 601024 7293000 (lw_Z below #[Value.ref b] s) (F0 m pc ls [.int 1]) := by
  intro T hT X
  obtain ⟨fs, hret, hrun, hended, hW, hframe⟩ := X.leave (v := some (.int 1)) (hlocks := hlocks) (fun h => by rw [hr] at h; cases h)
  have hmeth' : T.vm.method? m = some meth := X.method'
  refine ⟨T.setFrames fs, ?_, .returned (some (.int 1)), hrun, hended, rfl, ⟨_, rfl⟩, hW, hframe⟩
  jvm_step X.here [X.here.top, hx, hb, hdg, hmeth', hr, ret, narrow_b1]
  (try refine ⟨rfl, ?_⟩); (try refine ⟨rfl, ?_⟩)
  first | (intro acts; rw [hret _ acts rfl rfl rfl]) | rw [hret _ _ rfl rfl rfl]
  exact Steps.refl _
/-- what holds at the law's entry: the machine, the code, the tables' words (any of lw_tbl by 'hts w (by decide +kernel)'), the script of L ints xs at the cell b, what the Statement gives of the start (any of its parts by flat_of_before) -/
def lw_At (p : Program) (s : State) (m : MethodId) (meth : Method) (c : Code) (b L : Nat) (xs : Nat → Int32) : Prop :=
  p.tables.exec = Jvm.exec ∧ c.code = code ∧ meth.sig.returnType = ret ∧ c.maxLocals = 8 ∧ s.vm.findClass R_law = some m.cls ∧ (∀ w ∈ lw_tbl, w.before #[Value.ref b] s = true) ∧ va_X b L xs s s.heap ∧ b < s.heap.size ∧ meth.locks = false ∧ (Jvm.Cond.and given_1 narrow_1).before #[Value.ref b] s = true
theorem nw_b : Cond.classLink R_law 8 RB ∈ lw_g := List.mem_filter.mpr ⟨List.mem_append_right _ (List.mem_of_getElem? (i := 12) (by decide +kernel)), rfl⟩
theorem nw_m : Cond.classLink R_law 73 RMo ∈ lw_g := List.mem_filter.mpr ⟨List.mem_append_right _ (List.mem_of_getElem? (i := 489) (by decide +kernel)), rfl⟩
theorem nn_b : Cond.instantiable RB 13 ∈ lw_g := List.mem_filter.mpr ⟨List.mem_append_right _ (List.mem_of_getElem? (i := 13) (by decide +kernel)), rfl⟩
theorem nn_m : Cond.instantiable RMo 15 ∈ lw_g := List.mem_filter.mpr ⟨List.mem_append_right _ (List.mem_of_getElem? (i := 490) (by decide +kernel)), rfl⟩
theorem nz_b : Cond.initialized RB ∈ lw_g := List.mem_filter.mpr ⟨List.mem_append_right _ (List.mem_of_getElem? (i := 1) (by decide +kernel)), rfl⟩
theorem nz_m : Cond.initialized RMo ∈ lw_g := List.mem_filter.mpr ⟨List.mem_append_right _ (List.mem_of_getElem? (i := 3) (by decide +kernel)), rfl⟩
theorem nl_b : Cond.methodLink R_law 70 yb_init ∈ lw_g := List.mem_filter.mpr ⟨List.mem_append_right _ (List.mem_of_getElem? (i := 14) (by decide +kernel)), rfl⟩
theorem nl_m : Cond.methodLink R_law 75 ym_init ∈ lw_g := List.mem_filter.mpr ⟨List.mem_append_right _ (List.mem_of_getElem? (i := 491) (by decide +kernel)), rfl⟩
theorem ni_b : Cond.instanceMethod yb_init ∈ lw_g := List.mem_filter.mpr ⟨List.mem_append_right _ (List.mem_of_getElem? (i := 15) (by decide +kernel)), rfl⟩
theorem ni_m : Cond.instanceMethod ym_init ∈ lw_g := List.mem_filter.mpr ⟨List.mem_append_right _ (List.mem_of_getElem? (i := 492) (by decide +kernel)), rfl⟩
theorem zl_1 : Cond.laysStatic "java/lang/Throwable" "UNASSIGNED_STACK" "[Ljava/lang/StackTraceElement;" ∈ lw_tbl := List.mem_append_right _ (List.mem_of_getElem? (i := 208) (by decide +kernel))
theorem zl_2 : Cond.laysStatic "java/lang/Throwable" "SUPPRESSED_SENTINEL" "Ljava/util/List;" ∈ lw_tbl := List.mem_append_right _ (List.mem_of_getElem? (i := 210) (by decide +kernel))
theorem cw_l_cell {R : Room} {s : State} {args : Array Value} (hts : ∀ w ∈ lw_g, w.before args s = true) {rm : Room} (hR : rm.frames + 1 ≤ R.frames ∧ 8 + (2 + 11) + rm.locals ≤ R.locals) : CallB R s args R_law 64 yl_cell kl_cell 2 (some .int) lw_g rm rm.cells rm.slots 2 ∧ (Cond.static yl_cell).before args s = true := ⟨callB_x hts mcl_cell 2 (List.mem_filter.mpr ⟨List.mem_append_right _ (List.mem_of_getElem? (i := 0) (by decide +kernel)), rfl⟩) (List.mem_filter.mpr ⟨List.mem_append_right _ (List.mem_of_getElem? (i := 161) (by decide +kernel)), rfl⟩) (by decide +kernel) hR, hts _ (List.mem_filter.mpr ⟨List.mem_append_right _ (List.mem_of_getElem? (i := 162) (by decide +kernel)), rfl⟩)⟩
def celv (L : Nat) (xs : Nat → Int32) : Int32 := if L = 0 then 0 else xs 0
abbrev rml_cell : Room := { frames := 0, cells := 0, slots := 0, locals := 0 }
theorem cl_cell {l : Launch} {b L : Nat} {xs : Nat → Int32} (hLn : L ≤ 2561) : MetX l yl_cell lw_g rml_cell (va_Pc [.ref b, .int 0] (fun U => va_X b L xs U U.heap ∧ b < U.heap.size)) (xx_Q (XI (celv L xs))) rml_cell.cells rml_cell.slots (fun _ => False) := by
  refine MetX.ofW (by decide +kernel) mcl_cell ?_
  intro p e s m args below meth c s₁ B hml hv
  obtain ⟨rfl, hX, hbl⟩ := hv
  rw [lg_entry_eq]
  have hx := B.exec
  have hb := B.bytes
  have hr := B.returns
  have hlk := B.notSynchronized
  have hl : lv_has (ent [Value.ref b, .int 0] 2) 2 [(0, .ref b), (1, .int 0)] := lv_entry ([.ref b, .int 0] : List Value) (n := 2) (Nat.le_of_ble_eq_true rfl)
  refine lv_iload_n hx hb dl_cell_0 rfl (lv_at hl 1 rfl) ?_
  refine lv_aload_n hx hb dl_cell_1 rfl (lv_at hl 0 rfl) ?_
  refine va_slen (A := fun _ => False) hx hb hX hbl (fun h => h) va_S.rf dl_cell_2 ?_
  have eL : (Int32.ofNat L).toInt = (L : Int) := Int32.toInt_ofNat_of_lt (by omega)
  have e0 : (0 : Int32).toInt = 0 := rfl
  refine lv_icmp_ge (tgt := 12) hx hb dl_cell_3 (by decide) (fun c0 => ?_) (fun c0 => ?_)
  · have hz : L = 0 := by
      rw [Int32.le_iff_toInt_le, eL, e0] at c0
      omega
    have ev : celv L xs = 0 := by unfold celv; rw [if_pos hz]
    rw [ev]
    refine lv_iconst (v := 0) hx hb dl_cell_12 rfl ?_
    exact er_i hx hb hr hlk dl_cell_13
  · have hz : ¬ L = 0 := by
      intro h
      apply c0
      rw [Int32.le_iff_toInt_le, eL, e0]
      omega
    have ev : celv L xs = xs 0 := by unfold celv; rw [if_neg hz]
    rw [ev]
    refine lv_aload_n hx hb dl_cell_6 rfl (lv_at hl 0 rfl) ?_
    refine lv_iload_n hx hb dl_cell_7 rfl (lv_at hl 1 rfl) ?_
    refine va_sld (A := fun _ => False) hx hb hX hbl (fun h => h) va_S.rf (by unfold vp_in; intro h; rcases h with h | h; exact absurd h (by decide); exact hz (by have : (0 : Int32).toNatClampNeg = 0 := rfl; omega)) dl_cell_8 ?_
    refine lv_goto (tgt := 13) hx hb dl_cell_9 (by decide) ?_
    exact er_i hx hb hr hlk dl_cell_13
section LE
variable {p : Program} {l : Launch} {e : Env} {R : Room} {s : State} {m : MethodId} {args : Array Value} {below : List Frame} {meth : Method} {c : Code} {H : Heap} {locs : List Loc} {cells slots : Nat} {Q : State → Prop}
variable {cc : ByteArray} {pc nL : Nat} {ls : Array Slot} {rest : List Value} {D : va_G} {A : Nat → Prop} {b L : Nat} {xs : Nat → Int32}
theorem wl_cell (hLn : L ≤ 2561) (hx : p.tables.exec = Jvm.exec) (hb : c.code = cc) (hml : c.maxLocals = nL) (hown : s.vm.findClass R_law = some m.cls) (hts : ∀ w ∈ lw_g, w.before args s = true) (hX : va_X b L xs s s.heap) (hbl : b < s.heap.size) (hbA : ¬ A b) (hS : va_S A s.heap H locs)
    (hls : ls.size = nL) (hW : 2 * (F0 m pc ls (.int 0 :: .ref b :: rest)).monitorRoom + (rest.map fun v => v.category).sum ≤ 8) (hR : 1 ≤ R.frames ∧ 21 ≤ R.locals) (hdg : decode cc pc = .ok (.invokestatic 64, 3)) (hf : cells ≤ R.cells ∧ slots ≤ R.slots)
    (kk : W p l e R s m args below meth c H locs cells slots Q (F0 m (pc + 3) ls (.int (celv L xs) :: rest))) : W p l e R s m args below meth c H locs cells slots Q (F0 m pc ls (.int 0 :: .ref b :: rest)) := by
  have hXH : ∀ U : State, U.heap = H → s.WarmedH U.vm → va_X b L xs U U.heap ∧ b < U.heap.size := by
    intro U hU hW
    rw [hU]
    exact ⟨va_X.moved hW.alike (hX.kept (hS.2.1 b hbl hbA)), Nat.lt_of_lt_of_le hbl hS.1⟩
  refine xx_call (mc := 0) (ms := 0) (free := fun _ => False) (xx_runS (Ts := lw_g) (n := 2) (As := [.ref b, .int 0]) (rest := rest) ⟨hx, hb, hml, hown, hts⟩ (cl_cell (l := l) (b := b) (xs := xs) hLn) (cw_l_cell hts ⟨hR.1, hR.2⟩) ⟨fun a U g mk q => ⟨q.1, va_X.moved (u := U) (U := U.calling g mk a) (Vm.Alike.refl U.vm) q.2.1, q.2.2⟩, fun U hU hW => ⟨rfl, hXH U hU hW⟩⟩ rfl rfl hls rfl hW hdg hf) ?_ ?_
  · intro v' s0 t Ls h0 hw hL hq
    obtain ⟨hv, hh⟩ := hq
    cases hv
    rw [nilL hL, List.append_nil, hh, h0]
    exact kk
  · intro x s0 t Ls h0 hw hL hq
    cases hq.1
end LE
