section BK
variable {p : Program} {l : Launch} {e : Env} {R : Room} {s : State} {m : MethodId} {args : Array Value} {below : List Frame} {meth : Method} {c : Code} {H : Heap} {locs : List Loc} {cells slots : Nat} {Q : State → Prop}
variable {cc : ByteArray} {pc nL : Nat} {ls : Array Slot} {rest st0 : List Value} {D : va_G} {A : Nat → Prop} {gm : Nat → Nat} {ca : Nat → ClassId} {st st' : MSt}
variable {y : MethodName} {rm : Room} {bytes : ByteArray} {maxL idx n : Nat} {ret : Option FieldType} {As : List Value}
def mk_pre (D : va_G) (gm : Nat → Nat) (ca : Nat → ClassId) (st : MSt) (U : State) : Prop := va_P D vwCl (wM gm ca st) U.heap ∧ va_K D vwCl (tysM ca) U ∧ zz (fun _ => False) U U.heap
def RMm (l : Launch) (y : MethodName) (rm : Room) (D : va_G) (gm : Nat → Nat) (ca : Nat → ClassId) (As : List Value) (st : MSt) (r : XR) : Prop :=
  MetX l y lw_g rm (va_Pc (.ref (gm 0) :: As) (mk_pre D gm ca st)) (xx_Q r) rm.cells rm.slots (fun _ => False)
abbrev qmm_Q (D : va_G) (gm : Nat → Nat) (ca : Nat → ClassId) (A : Nat → Prop) (r : XR) (st' : MSt) : Array Value → State → Outcome → State → Prop :=
  fun _ s0 o t => xx_O r s0 o t ∧ va_P D vwCl (wM gm ca st') t.heap ∧ va_D A (wM gm ca st') ∧ va_F A s0 t
def MMm (l : Launch) (y : MethodName) (rm : Room) (D : va_G) (gm : Nat → Nat) (ca : Nat → ClassId) (As : List Value) (st : MSt) (r : XR) (st' : MSt) : Prop :=
  ∀ sz : Nat, MetX l y lw_g rm (va_Pc (.ref (gm 0) :: As) (fun U => U.heap.size = sz ∧ mk_pre D gm ca st U ∧ va_D (fun _ => True) (wM gm ca st))) (qmm_Q D gm ca (va_A (wM gm ca st) sz) r st') rm.cells rm.slots (va_A (wM gm ca st) sz)
theorem mk_pre.moved {u U : State} (hh : U.heap = u.heap) (hvm : u.vm.Alike U.vm) (h : mk_pre D gm ca st u) : mk_pre D gm ca st U := ⟨by rw [hh]; exact h.1, va_K.moved hvm h.2.1, by rw [hh]; exact h.2.2.moved hvm⟩
theorem qrm_run {r : XR} (hM : RMm l y rm D gm ca As st r) (cw : CallW R s args RMo RMo idx y bytes maxL ret lw_g rm rm.cells rm.slots n) (hx : p.tables.exec = Jvm.exec) (hb : c.code = cc) (hml : c.maxLocals = nL) (hown : s.vm.findClass RMo = some m.cls) (hts : ∀ w ∈ lw_g, w.before args s = true)
    (hK : va_K D vwCl (tysM ca) s) (hP : va_P D vwCl (wM gm ca st) H) (hS : va_S A s.heap H locs) (hZ : zz A s s.heap) (hls : ls.size = nL) (hn : As.length = n) (hst : st0 = As.reverse ++ .ref (gm 0) :: rest) (hW : 2 * (F0 m pc ls st0).monitorRoom + (rest.map fun v => v.category).sum ≤ 8)
    (hdg : decode cc pc = .ok (.invokevirtual idx, 3)) (hf : cells + rm.cells ≤ R.cells ∧ slots + rm.slots ≤ R.slots) :
    xx_Run p l e R s m args below meth c H locs cells slots rm.cells rm.slots (F0 m pc ls st0) rest (xx_Q r (Value.ref (gm 0) :: As).toArray) (fun _ => False) :=
  xx_runV (C := RMo) (Ts := lw_g) ⟨hx, hb, hml, hown, hts⟩ hM cw
    ⟨fun a U g mk q => ⟨q.1, q.2.moved rfl (Vm.Alike.refl U.vm)⟩, va_recv hK hP (ci := 1) (q0 := 0) rfl rfl, fun U hU hW => ⟨rfl, by rw [hU]; exact hP, va_K.moved hW.alike hK, hZ.at hS hU hW.alike⟩⟩ rfl hn hls hst hW hdg hf
theorem qrm_v {v : Option Value} (hM : RMm l y rm D gm ca As st (.inl v)) (cw : CallW R s args RMo RMo idx y bytes maxL ret lw_g rm rm.cells rm.slots n) (hx : p.tables.exec = Jvm.exec) (hb : c.code = cc) (hml : c.maxLocals = nL) (hown : s.vm.findClass RMo = some m.cls) (hts : ∀ w ∈ lw_g, w.before args s = true)
    (hK : va_K D vwCl (tysM ca) s) (hP : va_P D vwCl (wM gm ca st) H) (hS : va_S A s.heap H locs) (hZ : zz A s s.heap) (hls : ls.size = nL) (hn : As.length = n) (hst : st0 = As.reverse ++ .ref (gm 0) :: rest) (hW : 2 * (F0 m pc ls st0).monitorRoom + (rest.map fun v => v.category).sum ≤ 8)
    (hdg : decode cc pc = .ok (.invokevirtual idx, 3)) (hf : cells + rm.cells ≤ R.cells ∧ slots + rm.slots ≤ R.slots)
    (kk : W p l e R s m args below meth c H locs (cells + rm.cells) (slots + rm.slots) Q (F0 m (pc + 3) ls (v.toList ++ rest))) : W p l e R s m args below meth c H locs cells slots Q (F0 m pc ls st0) := by
  refine xx_call (qrm_run hM cw hx hb hml hown hts hK hP hS hZ hls hn hst hW hdg hf) ?_ ?_
  · intro v' s0 t L h0 hw hL hq
    obtain ⟨hv, hh⟩ := hq
    cases hv
    rw [nilL hL, List.append_nil, hh, h0]
    exact kk
  · intro x s0 t L h0 hw hL hq
    cases hq.1
theorem qrmI {r : Int32} (hM : RMm l y rm D gm ca As st (XI r)) (cw : CallW R s args RMo RMo idx y bytes maxL ret lw_g rm rm.cells rm.slots n) (hx : p.tables.exec = Jvm.exec) (hb : c.code = cc) (hml : c.maxLocals = nL) (hown : s.vm.findClass RMo = some m.cls) (hts : ∀ w ∈ lw_g, w.before args s = true)
    (hK : va_K D vwCl (tysM ca) s) (hP : va_P D vwCl (wM gm ca st) H) (hS : va_S A s.heap H locs) (hZ : zz A s s.heap) (hls : ls.size = nL) (hn : As.length = n) (hst : st0 = As.reverse ++ .ref (gm 0) :: rest) (hW : 2 * (F0 m pc ls st0).monitorRoom + (rest.map fun v => v.category).sum ≤ 8)
    (hdg : decode cc pc = .ok (.invokevirtual idx, 3)) (hf : cells + rm.cells ≤ R.cells ∧ slots + rm.slots ≤ R.slots)
    (kk : W p l e R s m args below meth c H locs (cells + rm.cells) (slots + rm.slots) Q (F0 m (pc + 3) ls (.int r :: rest))) : W p l e R s m args below meth c H locs cells slots Q (F0 m pc ls st0) := qrm_v hM cw hx hb hml hown hts hK hP hS hZ hls hn hst hW hdg hf kk
theorem qrmL {r : Int64} (hM : RMm l y rm D gm ca As st (XL r)) (cw : CallW R s args RMo RMo idx y bytes maxL ret lw_g rm rm.cells rm.slots n) (hx : p.tables.exec = Jvm.exec) (hb : c.code = cc) (hml : c.maxLocals = nL) (hown : s.vm.findClass RMo = some m.cls) (hts : ∀ w ∈ lw_g, w.before args s = true)
    (hK : va_K D vwCl (tysM ca) s) (hP : va_P D vwCl (wM gm ca st) H) (hS : va_S A s.heap H locs) (hZ : zz A s s.heap) (hls : ls.size = nL) (hn : As.length = n) (hst : st0 = As.reverse ++ .ref (gm 0) :: rest) (hW : 2 * (F0 m pc ls st0).monitorRoom + (rest.map fun v => v.category).sum ≤ 8)
    (hdg : decode cc pc = .ok (.invokevirtual idx, 3)) (hf : cells + rm.cells ≤ R.cells ∧ slots + rm.slots ≤ R.slots)
    (kk : W p l e R s m args below meth c H locs (cells + rm.cells) (slots + rm.slots) Q (F0 m (pc + 3) ls (.long r :: rest))) : W p l e R s m args below meth c H locs cells slots Q (F0 m pc ls st0) := qrm_v hM cw hx hb hml hown hts hK hP hS hZ hls hn hst hW hdg hf kk
theorem qrmV (hM : RMm l y rm D gm ca As st XV) (cw : CallW R s args RMo RMo idx y bytes maxL ret lw_g rm rm.cells rm.slots n) (hx : p.tables.exec = Jvm.exec) (hb : c.code = cc) (hml : c.maxLocals = nL) (hown : s.vm.findClass RMo = some m.cls) (hts : ∀ w ∈ lw_g, w.before args s = true)
    (hK : va_K D vwCl (tysM ca) s) (hP : va_P D vwCl (wM gm ca st) H) (hS : va_S A s.heap H locs) (hZ : zz A s s.heap) (hls : ls.size = nL) (hn : As.length = n) (hst : st0 = As.reverse ++ .ref (gm 0) :: rest) (hW : 2 * (F0 m pc ls st0).monitorRoom + (rest.map fun v => v.category).sum ≤ 8)
    (hdg : decode cc pc = .ok (.invokevirtual idx, 3)) (hf : cells + rm.cells ≤ R.cells ∧ slots + rm.slots ≤ R.slots)
    (kk : W p l e R s m args below meth c H locs (cells + rm.cells) (slots + rm.slots) Q (F0 m (pc + 3) ls rest)) : W p l e R s m args below meth c H locs cells slots Q (F0 m pc ls st0) := qrm_v hM cw hx hb hml hown hts hK hP hS hZ hls hn hst hW hdg hf kk
theorem qmm_run {r : XR} (hM : MMm l y rm D gm ca As st r st') (cw : CallW R s args RMo RMo idx y bytes maxL ret lw_g rm rm.cells rm.slots n) (hx : p.tables.exec = Jvm.exec) (hb : c.code = cc) (hml : c.maxLocals = nL) (hown : s.vm.findClass RMo = some m.cls) (hts : ∀ w ∈ lw_g, w.before args s = true)
    (hK : va_K D vwCl (tysM ca) s) (hB : MWd D gm ca A s.heap st H locs) (hZ : zz A s s.heap) (hls : ls.size = nL) (hn : As.length = n) (hst : st0 = As.reverse ++ .ref (gm 0) :: rest) (hW : 2 * (F0 m pc ls st0).monitorRoom + (rest.map fun v => v.category).sum ≤ 8)
    (hdg : decode cc pc = .ok (.invokevirtual idx, 3)) (hf : cells + rm.cells ≤ R.cells ∧ slots + rm.slots ≤ R.slots) :
    xx_Run p l e R s m args below meth c H locs cells slots rm.cells rm.slots (F0 m pc ls st0) rest (qmm_Q D gm ca (va_A (wM gm ca st) H.size) r st' (Value.ref (gm 0) :: As).toArray) (va_A (wM gm ca st) H.size) :=
  xx_runV (C := RMo) (Ts := lw_g) ⟨hx, hb, hml, hown, hts⟩ (hM H.size) cw
    ⟨fun a U g mk q => ⟨q.1, q.2.1, q.2.2.1.moved rfl (Vm.Alike.refl U.vm), q.2.2.2⟩, va_recv hK hB.1 (ci := 1) (q0 := 0) rfl rfl, fun U hU hW => ⟨rfl, by rw [hU], ⟨by rw [hU]; exact hB.1, va_K.moved hW.alike hK, hZ.at hB.2.2 hU hW.alike⟩, hB.2.1.weaken (fun _ _ _ _ => trivial)⟩⟩ rfl hn hls hst hW hdg hf
theorem qmm_back {s0 t : State} {L : List Loc} (hA : ∀ q, s.heap.size ≤ q → A q) (hB : MWd D gm ca A s.heap st H locs) (h0 : s0.heap = H) (hL : ∀ q ∈ L, va_A (wM gm ca st) H.size q.base) (hP : va_P D vwCl (wM gm ca st') t.heap) (hD : va_D (va_A (wM gm ca st) H.size) (wM gm ca st')) (hF : va_F (va_A (wM gm ca st) H.size) s0 t) : MWd D gm ca A s.heap st' t.heap (locs ++ L) := by
  have hsub : ∀ q, va_A (wM gm ca st) H.size q → A q := by
    intro q hq
    rcases hq with ⟨k, e, h⟩ | h
    · exact hB.2.1.2 k (q, e) h
    · exact hA q (Nat.le_trans hB.2.2.1 h)
  refine ⟨hP, hD.weaken (fun _ _ _ h => hsub _ h), ?_, ?_, ?_⟩
  · exact Nat.le_trans hB.2.2.1 (by rw [← h0]; exact hF.1)
  · intro q h1 h2
    rw [hF.2 q (by rw [h0]; exact Nat.lt_of_lt_of_le h1 hB.2.2.1) (fun z => h2 (hsub q z)), h0]
    exact hB.2.2.2.1 q h1 h2
  · intro q hq
    rcases List.mem_append.mp hq with h | h
    · exact hB.2.2.2.2 q h
    · exact hsub _ (hL q h)
theorem qmm_v {v : Option Value} (hM : MMm l y rm D gm ca As st (.inl v) st') (cw : CallW R s args RMo RMo idx y bytes maxL ret lw_g rm rm.cells rm.slots n) (hx : p.tables.exec = Jvm.exec) (hb : c.code = cc) (hml : c.maxLocals = nL) (hown : s.vm.findClass RMo = some m.cls) (hts : ∀ w ∈ lw_g, w.before args s = true)
    (hK : va_K D vwCl (tysM ca) s) (hB : MWd D gm ca A s.heap st H locs) (hZ : zz A s s.heap) (hA : ∀ q, s.heap.size ≤ q → A q) (hls : ls.size = nL) (hn : As.length = n) (hst : st0 = As.reverse ++ .ref (gm 0) :: rest) (hW : 2 * (F0 m pc ls st0).monitorRoom + (rest.map fun v => v.category).sum ≤ 8)
    (hdg : decode cc pc = .ok (.invokevirtual idx, 3)) (hf : cells + rm.cells ≤ R.cells ∧ slots + rm.slots ≤ R.slots)
    (kk : ∀ (H : Heap) (locs : List Loc), MWd D gm ca A s.heap st' H locs → W p l e R s m args below meth c H locs (cells + rm.cells) (slots + rm.slots) Q (F0 m (pc + 3) ls (v.toList ++ rest))) : W p l e R s m args below meth c H locs cells slots Q (F0 m pc ls st0) := by
  refine xx_call (qmm_run hM cw hx hb hml hown hts hK hB hZ hls hn hst hW hdg hf) ?_ ?_
  · intro v' s0 t L h0 hw hL hq
    obtain ⟨hv, hP, hD, hF⟩ := hq
    cases hv
    exact kk _ _ (qmm_back hA hB h0 hL hP hD hF)
  · intro x s0 t L h0 hw hL hq
    cases hq.1
theorem qmmI {r : Int32} (hM : MMm l y rm D gm ca As st (XI r) st') (cw : CallW R s args RMo RMo idx y bytes maxL ret lw_g rm rm.cells rm.slots n) (hx : p.tables.exec = Jvm.exec) (hb : c.code = cc) (hml : c.maxLocals = nL) (hown : s.vm.findClass RMo = some m.cls) (hts : ∀ w ∈ lw_g, w.before args s = true)
    (hK : va_K D vwCl (tysM ca) s) (hB : MWd D gm ca A s.heap st H locs) (hZ : zz A s s.heap) (hA : ∀ q, s.heap.size ≤ q → A q) (hls : ls.size = nL) (hn : As.length = n) (hst : st0 = As.reverse ++ .ref (gm 0) :: rest) (hW : 2 * (F0 m pc ls st0).monitorRoom + (rest.map fun v => v.category).sum ≤ 8)
    (hdg : decode cc pc = .ok (.invokevirtual idx, 3)) (hf : cells + rm.cells ≤ R.cells ∧ slots + rm.slots ≤ R.slots)
    (kk : ∀ (H : Heap) (locs : List Loc), MWd D gm ca A s.heap st' H locs → W p l e R s m args below meth c H locs (cells + rm.cells) (slots + rm.slots) Q (F0 m (pc + 3) ls (.int r :: rest))) : W p l e R s m args below meth c H locs cells slots Q (F0 m pc ls st0) := qmm_v hM cw hx hb hml hown hts hK hB hZ hA hls hn hst hW hdg hf kk
theorem qmmL {r : Int64} (hM : MMm l y rm D gm ca As st (XL r) st') (cw : CallW R s args RMo RMo idx y bytes maxL ret lw_g rm rm.cells rm.slots n) (hx : p.tables.exec = Jvm.exec) (hb : c.code = cc) (hml : c.maxLocals = nL) (hown : s.vm.findClass RMo = some m.cls) (hts : ∀ w ∈ lw_g, w.before args s = true)
    (hK : va_K D vwCl (tysM ca) s) (hB : MWd D gm ca A s.heap st H locs) (hZ : zz A s s.heap) (hA : ∀ q, s.heap.size ≤ q → A q) (hls : ls.size = nL) (hn : As.length = n) (hst : st0 = As.reverse ++ .ref (gm 0) :: rest) (hW : 2 * (F0 m pc ls st0).monitorRoom + (rest.map fun v => v.category).sum ≤ 8)
    (hdg : decode cc pc = .ok (.invokevirtual idx, 3)) (hf : cells + rm.cells ≤ R.cells ∧ slots + rm.slots ≤ R.slots)
    (kk : ∀ (H : Heap) (locs : List Loc), MWd D gm ca A s.heap st' H locs → W p l e R s m args below meth c H locs (cells + rm.cells) (slots + rm.slots) Q (F0 m (pc + 3) ls (.long r :: rest))) : W p l e R s m args below meth c H locs cells slots Q (F0 m pc ls st0) := qmm_v hM cw hx hb hml hown hts hK hB hZ hA hls hn hst hW hdg hf kk
theorem qmmV (hM : MMm l y rm D gm ca As st XV st') (cw : CallW R s args RMo RMo idx y bytes maxL ret lw_g rm rm.cells rm.slots n) (hx : p.tables.exec = Jvm.exec) (hb : c.code = cc) (hml : c.maxLocals = nL) (hown : s.vm.findClass RMo = some m.cls) (hts : ∀ w ∈ lw_g, w.before args s = true)
    (hK : va_K D vwCl (tysM ca) s) (hB : MWd D gm ca A s.heap st H locs) (hZ : zz A s s.heap) (hA : ∀ q, s.heap.size ≤ q → A q) (hls : ls.size = nL) (hn : As.length = n) (hst : st0 = As.reverse ++ .ref (gm 0) :: rest) (hW : 2 * (F0 m pc ls st0).monitorRoom + (rest.map fun v => v.category).sum ≤ 8)
    (hdg : decode cc pc = .ok (.invokevirtual idx, 3)) (hf : cells + rm.cells ≤ R.cells ∧ slots + rm.slots ≤ R.slots)
    (kk : ∀ (H : Heap) (locs : List Loc), MWd D gm ca A s.heap st' H locs → W p l e R s m args below meth c H locs (cells + rm.cells) (slots + rm.slots) Q (F0 m (pc + 3) ls rest)) : W p l e R s m args below meth c H locs cells slots Q (F0 m pc ls st0) := qmm_v hM cw hx hb hml hown hts hK hB hZ hA hls hn hst hW hdg hf kk
end BK
section BE
variable {p : Program} {l : Launch} {e : Env} {R : Room} {s : State} {m : MethodId} {args : Array Value} {below : List Frame} {meth : Method} {c : Code} {H : Heap} {locs : List Loc} {cells slots : Nat}
variable {cc : ByteArray} {pc nL : Nat} {ls : Array Slot} {rest : List Value} {D : va_G} {A : Nat → Prop} {gm : Nat → Nat} {ca : Nat → ClassId} {st st' : MSt} {ret : Option FieldType}
def MX (p : Program) (l : Launch) (e : Env) (R : Room) (s : State) (m : MethodId) (args : Array Value) (meth : Method) (c : Code) (D : va_G) (ca : Nat → ClassId) (A : Nat → Prop) (cc : ByteArray) (nL : Nat) (ret : Option FieldType) : Prop :=
  p.tables.exec = Jvm.exec ∧ c.code = cc ∧ c.maxLocals = nL ∧ meth.sig.returnType = ret ∧ meth.locks = false ∧ s.vm.findClass RMo = some m.cls ∧ (∀ w ∈ lw_g, w.before args s = true) ∧ va_K D vwCl (tysM ca) s ∧ e.platform.stackTraces = false ∧ zz A s s.heap ∧ c.exceptionTable.isEmpty = true ∧ (∀ q, s.heap.size ≤ q → A q) ∧ l.flags = flags0
theorem qem_i {v : Int32} (hx : p.tables.exec = Jvm.exec) (hb : c.code = cc) (hr : meth.sig.returnType = some .int) (hlk : meth.locks = false) (hB : MWd D gm ca A s.heap st H locs) (hdg : decode cc pc = .ok (.ireturn, 1)) :
    W p l e R s m args below meth c H locs cells slots (MQX below (qmm_Q D gm ca A (XI v) st) args s cells slots A) (F0 m pc ls [.int v]) :=
  W.toX (W.iret (free := A) hx hb hr (fun t ht _ => ⟨rfl, by rw [ht]; exact hB.1, hB.2.1, hB.2.2.F ht⟩) hB.2.2.2.2 hdg (hlocks := hlk))
theorem qem_z {v : Int32} (hx : p.tables.exec = Jvm.exec) (hb : c.code = cc) (hr : meth.sig.returnType = some .boolean) (hlk : meth.locks = false) (hB : MWd D gm ca A s.heap st H locs) (hn : narrow .boolean (.int v) = .int v) (hdg : decode cc pc = .ok (.ireturn, 1)) :
    W p l e R s m args below meth c H locs cells slots (MQX below (qmm_Q D gm ca A (XI v) st) args s cells slots A) (F0 m pc ls [.int v]) :=
  W.toX (W.zret (free := A) hx hb hr hn (fun t ht _ => ⟨rfl, by rw [ht]; exact hB.1, hB.2.1, hB.2.2.F ht⟩) hB.2.2.2.2 hdg (hlocks := hlk))
theorem qem_l {v : Int64} (hx : p.tables.exec = Jvm.exec) (hb : c.code = cc) (hr : meth.sig.returnType = some .long) (hlk : meth.locks = false) (hB : MWd D gm ca A s.heap st H locs) (hdg : decode cc pc = .ok (.lreturn, 1)) :
    W p l e R s m args below meth c H locs cells slots (MQX below (qmm_Q D gm ca A (XL v) st) args s cells slots A) (F0 m pc ls [.long v]) :=
  W.toX (W.lret (free := A) hx hb hr (fun t ht _ => ⟨rfl, by rw [ht]; exact hB.1, hB.2.1, hB.2.2.F ht⟩) hB.2.2.2.2 hdg (hlocks := hlk))
theorem qem_v (hx : p.tables.exec = Jvm.exec) (hb : c.code = cc) (hr : meth.sig.returnType = none) (hlk : meth.locks = false) (hB : MWd D gm ca A s.heap st H locs) (hdg : decode cc pc = .ok (.return_, 1)) :
    W p l e R s m args below meth c H locs cells slots (MQX below (qmm_Q D gm ca A XV st) args s cells slots A) (F0 m pc ls []) :=
  W.toX (W.vret (free := A) hx hb hr (fun t ht _ => ⟨rfl, by rw [ht]; exact hB.1, hB.2.1, hB.2.2.F ht⟩) hB.2.2.2.2 hdg (hlocks := hlk))
end BE
section BO
variable {l : Launch} {y : MethodName} {rm : Room} {D : va_G} {gm : Nat → Nat} {ca : Nat → ClassId} {st st' : MSt} {cc : ByteArray} {nL : Nat} {ret : Option FieldType} {As : List Value} {r : XR}
theorem RMm.of (hfl : l.flags = flags0) (hy : plainFor y = true) (hc : y.cls = RMo) (hw : Cond.code y cc nL ret ∈ lw_g)
    (body : ∀ (p : Program) (e : Env) (s : State) (m : MethodId) (below : List Frame) (meth : Method) (c : Code), MX p l e rm s m (Value.ref (gm 0) :: As).toArray meth c D ca (va_A [] s.heap.size) cc nL ret → va_P D vwCl (wM gm ca st) s.heap →
      W p l e rm s m (Value.ref (gm 0) :: As).toArray below meth c s.heap [] 0 0 (MQX below (xx_Q r) (Value.ref (gm 0) :: As).toArray s rm.cells rm.slots (fun _ => False)) (F0 m 0 (ent (.ref (gm 0) :: As) nL) [])) : RMm l y rm D gm ca As st r := by
  refine MetX.ofW hy hw ?_
  intro p e s m args below meth c s₁ B hml hv
  obtain ⟨rfl, hP, hK, hZ⟩ := hv
  rw [lg_entry_eq]
  exact body p e s m below meth c ⟨B.exec, B.bytes, hml, B.returns, B.notSynchronized, by rw [← hc]; exact findClass_of_methodNamed B.named, atoms_spec (ws := lw_g) B.pre, hK, Launch.traces_off hfl B.admits, hZ.self, B.noHandlers (atoms_spec (ws := lw_g) B.pre _ hw), fun q h => Or.inr h, hfl⟩ hP
theorem MMm.of (hfl : l.flags = flags0) (hy : plainFor y = true) (hc : y.cls = RMo) (hw : Cond.code y cc nL ret ∈ lw_g)
    (body : ∀ (p : Program) (e : Env) (s : State) (m : MethodId) (below : List Frame) (meth : Method) (c : Code) (A : Nat → Prop), A = va_A (wM gm ca st) s.heap.size → MX p l e rm s m (Value.ref (gm 0) :: As).toArray meth c D ca A cc nL ret → MWd D gm ca A s.heap st s.heap [] →
      W p l e rm s m (Value.ref (gm 0) :: As).toArray below meth c s.heap [] 0 0 (MQX below (qmm_Q D gm ca A r st') (Value.ref (gm 0) :: As).toArray s rm.cells rm.slots A) (F0 m 0 (ent (.ref (gm 0) :: As) nL) [])) : MMm l y rm D gm ca As st r st' := by
  intro sz
  refine MetX.ofW hy hw ?_
  intro p e s m args below meth c s₁ B hml hv
  obtain ⟨rfl, rfl, ⟨hP, hK, hZ⟩, hD⟩ := hv
  rw [lg_entry_eq]
  exact body p e s m below meth c _ rfl ⟨B.exec, B.bytes, hml, B.returns, B.notSynchronized, by rw [← hc]; exact findClass_of_methodNamed B.named, atoms_spec (ws := lw_g) B.pre, hK, Launch.traces_off hfl B.admits, hZ.world hP, B.noHandlers (atoms_spec (ws := lw_g) B.pre _ hw), fun q h => Or.inr h, hfl⟩ ⟨hP, hD.self, va_S.rf⟩
end BO
