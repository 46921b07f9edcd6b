/-! the book's world behind calls: contracts of readers (RM), of writers (MM), of methods without a world (SM), of the sum (SA); and the rows that use them -/
section BK
variable {p : Program} {l : Launch} {e : Env} {R : Room} {s : State} {m : MethodId} {args : Array Value} {below : List Frame} {meth : Method} {c : Code} {H : Heap} {locs : List Loc} {cells slots : Nat} {Q : State → Prop}
variable {cc : ByteArray} {pc nL : Nat} {ls : Array Slot} {rest st0 : List Value} {D : va_G} {A : Nat → Prop} {gm : Nat → Nat} {ca : Nat → ClassId} {st st' : BSt}
variable {y : MethodName} {rm : Room} {bytes : ByteArray} {maxL idx n : Nat} {ret : Option FieldType} {As : List Value}
def bk_pre (D : va_G) (gm : Nat → Nat) (ca : Nat → ClassId) (st : BSt) (U : State) : Prop := va_P D vwCl (wB gm ca st) U.heap ∧ va_K D vwCl (tysB ca) U ∧ zz (fun _ => False) U U.heap
/-- a reader of the book: it ends with r, and the heap is as it was -/
def RM (l : Launch) (y : MethodName) (rm : Room) (D : va_G) (gm : Nat → Nat) (ca : Nat → ClassId) (As : List Value) (st : BSt) (r : XR) : Prop :=
  MetX l y lw_g rm (va_Pc (.ref (gm 0) :: As) (bk_pre D gm ca st)) (xx_Q r) rm.cells rm.slots (fun _ => False)
abbrev mm_Q (D : va_G) (gm : Nat → Nat) (ca : Nat → ClassId) (A : Nat → Prop) (r : XR) (st' : BSt) : Array Value → State → Outcome → State → Prop :=
  fun _ s0 o t => xx_O r s0 o t ∧ va_P D vwCl (wB gm ca st') t.heap ∧ va_D A (wB gm ca st') ∧ va_F A s0 t
/-- a writer of the book: it ends with r, and the book is st' -/
def MM (l : Launch) (y : MethodName) (rm : Room) (D : va_G) (gm : Nat → Nat) (ca : Nat → ClassId) (As : List Value) (st : BSt) (r : XR) (st' : BSt) : Prop :=
  ∀ sz : Nat, MetX l y lw_g rm (va_Pc (.ref (gm 0) :: As) (fun U => U.heap.size = sz ∧ bk_pre D gm ca st U ∧ va_D (fun _ => True) (wB gm ca st))) (mm_Q D gm ca (va_A (wB gm ca st) sz) r st') rm.cells rm.slots (va_A (wB gm ca st) sz)
/-- a static method of numbers -/
def SM (l : Launch) (y : MethodName) (rm : Room) (As : List Value) (r : XR) : Prop :=
  MetX l y lw_g rm (va_Pc As (fun _ => True)) (xx_Q r) rm.cells rm.slots (fun _ => False)
/-- a static method that reads one array of longs -/
def SA (l : Launch) (y : MethodName) (rm : Room) (D : va_G) (a : Nat) (cA : ClassId) (f0 : Nat → Int64) (k0 : Nat) (As : List Value) (r : XR) : Prop :=
  MetX l y lw_g rm (va_Pc (.ref a :: As) (fun U => va_P D vwCl [(a, .inl (cA, k0, .inr (.inl f0)))] U.heap ∧ va_K D vwCl [(cA, .long)] U)) (xx_Q r) rm.cells rm.slots (fun _ => False)
theorem bk_pre.moved {u U : State} (hh : U.heap = u.heap) (hvm : u.vm.Alike U.vm) (h : bk_pre D gm ca st u) : bk_pre D gm ca st U := ⟨by rw [hh]; exact h.1, va_K.moved hvm h.2.1, by rw [hh]; exact h.2.2.moved hvm⟩
theorem nilL {L : List Loc} (h : ∀ q ∈ L, (fun _ : Nat => False) q.base) : L = [] := by
  cases L with
  | nil => rfl
  | cons q t => exact (h q List.mem_cons_self).elim
theorem rm_run {r : XR} (hM : RM l y rm D gm ca As st r) (cw : CallW R s args RB RB idx y bytes maxL ret lw_g rm rm.cells rm.slots n) (hx : p.tables.exec = Jvm.exec) (hb : c.code = cc) (hml : c.maxLocals = nL) (hown : s.vm.findClass RB = some m.cls) (hts : ∀ w ∈ lw_g, w.before args s = true)
    (hK : va_K D vwCl (tysB ca) s) (hP : va_P D vwCl (wB gm ca st) H) (hS : va_S A s.heap H locs) (hZ : zz A s s.heap) (hls : ls.size = nL) (hn : As.length = n) (hst : st0 = As.reverse ++ .ref (gm 0) :: rest) (hW : 2 * (F0 m pc ls st0).monitorRoom + (rest.map fun v => v.category).sum ≤ 8)
    (hdg : decode cc pc = .ok (.invokevirtual idx, 3)) (hf : cells + rm.cells ≤ R.cells ∧ slots + rm.slots ≤ R.slots) :
    xx_Run p l e R s m args below meth c H locs cells slots rm.cells rm.slots (F0 m pc ls st0) rest (xx_Q r (Value.ref (gm 0) :: As).toArray) (fun _ => False) :=
  xx_runV (C := RB) (Ts := lw_g) ⟨hx, hb, hml, hown, hts⟩ hM cw
    ⟨fun a U g mk q => ⟨q.1, q.2.moved rfl (Vm.Alike.refl U.vm)⟩, va_recv hK hP (ci := 0) (q0 := 0) rfl rfl, fun U hU hW => ⟨rfl, by rw [hU]; exact hP, va_K.moved hW.alike hK, hZ.at hS hU hW.alike⟩⟩ rfl hn hls hst hW hdg hf
theorem rm_v {v : Option Value} (hM : RM l y rm D gm ca As st (.inl v)) (cw : CallW R s args RB RB idx y bytes maxL ret lw_g rm rm.cells rm.slots n) (hx : p.tables.exec = Jvm.exec) (hb : c.code = cc) (hml : c.maxLocals = nL) (hown : s.vm.findClass RB = some m.cls) (hts : ∀ w ∈ lw_g, w.before args s = true)
    (hK : va_K D vwCl (tysB ca) s) (hP : va_P D vwCl (wB gm ca st) H) (hS : va_S A s.heap H locs) (hZ : zz A s s.heap) (hls : ls.size = nL) (hn : As.length = n) (hst : st0 = As.reverse ++ .ref (gm 0) :: rest) (hW : 2 * (F0 m pc ls st0).monitorRoom + (rest.map fun v => v.category).sum ≤ 8)
    (hdg : decode cc pc = .ok (.invokevirtual idx, 3)) (hf : cells + rm.cells ≤ R.cells ∧ slots + rm.slots ≤ R.slots)
    (kk : W p l e R s m args below meth c H locs (cells + rm.cells) (slots + rm.slots) Q (F0 m (pc + 3) ls (v.toList ++ rest))) : W p l e R s m args below meth c H locs cells slots Q (F0 m pc ls st0) := by
  refine xx_call (rm_run hM cw hx hb hml hown hts hK hP hS hZ hls hn hst hW hdg hf) ?_ ?_
  · intro v' s0 t L h0 hw hL hq
    obtain ⟨hv, hh⟩ := hq
    cases hv
    rw [nilL hL, List.append_nil, hh, h0]
    exact kk
  · intro x s0 t L h0 hw hL hq
    cases hq.1
theorem rmI {r : Int32} (hM : RM l y rm D gm ca As st (XI r)) (cw : CallW R s args RB RB idx y bytes maxL ret lw_g rm rm.cells rm.slots n) (hx : p.tables.exec = Jvm.exec) (hb : c.code = cc) (hml : c.maxLocals = nL) (hown : s.vm.findClass RB = some m.cls) (hts : ∀ w ∈ lw_g, w.before args s = true)
    (hK : va_K D vwCl (tysB ca) s) (hP : va_P D vwCl (wB gm ca st) H) (hS : va_S A s.heap H locs) (hZ : zz A s s.heap) (hls : ls.size = nL) (hn : As.length = n) (hst : st0 = As.reverse ++ .ref (gm 0) :: rest) (hW : 2 * (F0 m pc ls st0).monitorRoom + (rest.map fun v => v.category).sum ≤ 8)
    (hdg : decode cc pc = .ok (.invokevirtual idx, 3)) (hf : cells + rm.cells ≤ R.cells ∧ slots + rm.slots ≤ R.slots)
    (kk : W p l e R s m args below meth c H locs (cells + rm.cells) (slots + rm.slots) Q (F0 m (pc + 3) ls (.int r :: rest))) : W p l e R s m args below meth c H locs cells slots Q (F0 m pc ls st0) := rm_v hM cw hx hb hml hown hts hK hP hS hZ hls hn hst hW hdg hf kk
theorem rmL {r : Int64} (hM : RM l y rm D gm ca As st (XL r)) (cw : CallW R s args RB RB idx y bytes maxL ret lw_g rm rm.cells rm.slots n) (hx : p.tables.exec = Jvm.exec) (hb : c.code = cc) (hml : c.maxLocals = nL) (hown : s.vm.findClass RB = some m.cls) (hts : ∀ w ∈ lw_g, w.before args s = true)
    (hK : va_K D vwCl (tysB ca) s) (hP : va_P D vwCl (wB gm ca st) H) (hS : va_S A s.heap H locs) (hZ : zz A s s.heap) (hls : ls.size = nL) (hn : As.length = n) (hst : st0 = As.reverse ++ .ref (gm 0) :: rest) (hW : 2 * (F0 m pc ls st0).monitorRoom + (rest.map fun v => v.category).sum ≤ 8)
    (hdg : decode cc pc = .ok (.invokevirtual idx, 3)) (hf : cells + rm.cells ≤ R.cells ∧ slots + rm.slots ≤ R.slots)
    (kk : W p l e R s m args below meth c H locs (cells + rm.cells) (slots + rm.slots) Q (F0 m (pc + 3) ls (.long r :: rest))) : W p l e R s m args below meth c H locs cells slots Q (F0 m pc ls st0) := rm_v hM cw hx hb hml hown hts hK hP hS hZ hls hn hst hW hdg hf kk
theorem rmV (hM : RM l y rm D gm ca As st XV) (cw : CallW R s args RB RB idx y bytes maxL ret lw_g rm rm.cells rm.slots n) (hx : p.tables.exec = Jvm.exec) (hb : c.code = cc) (hml : c.maxLocals = nL) (hown : s.vm.findClass RB = some m.cls) (hts : ∀ w ∈ lw_g, w.before args s = true)
    (hK : va_K D vwCl (tysB ca) s) (hP : va_P D vwCl (wB gm ca st) H) (hS : va_S A s.heap H locs) (hZ : zz A s s.heap) (hls : ls.size = nL) (hn : As.length = n) (hst : st0 = As.reverse ++ .ref (gm 0) :: rest) (hW : 2 * (F0 m pc ls st0).monitorRoom + (rest.map fun v => v.category).sum ≤ 8)
    (hdg : decode cc pc = .ok (.invokevirtual idx, 3)) (hf : cells + rm.cells ≤ R.cells ∧ slots + rm.slots ≤ R.slots)
    (kk : W p l e R s m args below meth c H locs (cells + rm.cells) (slots + rm.slots) Q (F0 m (pc + 3) ls rest)) : W p l e R s m args below meth c H locs cells slots Q (F0 m pc ls st0) := rm_v hM cw hx hb hml hown hts hK hP hS hZ hls hn hst hW hdg hf kk
/-- a reader that throws -/
theorem rmT {k : Nat} (hM : RM l y rm D gm ca As st (.inr k)) (cw : CallW R s args RB RB idx y bytes maxL ret lw_g rm rm.cells rm.slots n) (hx : p.tables.exec = Jvm.exec) (hb : c.code = cc) (hml : c.maxLocals = nL) (hown : s.vm.findClass RB = some m.cls) (hts : ∀ w ∈ lw_g, w.before args s = true)
    (hK : va_K D vwCl (tysB ca) s) (hP : va_P D vwCl (wB gm ca st) H) (hS : va_S A s.heap H locs) (hZ : zz A s s.heap) (hls : ls.size = nL) (hn : As.length = n) (hst : st0 = As.reverse ++ .ref (gm 0) :: rest) (hW : 2 * (F0 m pc ls st0).monitorRoom + (rest.map fun v => v.category).sum ≤ 8)
    (hdg : decode cc pc = .ok (.invokevirtual idx, 3)) (hf : cells + rm.cells ≤ R.cells ∧ slots + rm.slots ≤ R.slots)
    (kk : ∀ (x : Addr) (t : State), H.size ≤ x → H.size ≤ t.heap.size → (∀ q, q < H.size → t.heap[q]? = H[q]?) → s.WarmedH t.vm → xx_X k t x → WT p l e R s m args below meth c t.heap locs (cells + rm.cells) (slots + rm.slots) Q (F0 m pc ls rest) x) : W p l e R s m args below meth c H locs cells slots Q (F0 m pc ls st0) := by
  refine xx_call (rm_run hM cw hx hb hml hown hts hK hP hS hZ hls hn hst hW hdg hf) ?_ ?_
  · intro v' s0 t L h0 hw hL hq
    obtain ⟨x, hv, -⟩ := hq
    cases hv
  · intro x s0 t L h0 hw hL hq
    obtain ⟨x', hv, g1, g2, g3, g4⟩ := hq
    cases hv
    rw [h0] at g1 g2 g3
    rw [nilL hL, List.append_nil]
    exact kk x t g1 g2 g3 hw g4
/-- a static method of numbers -/
theorem sm_v {own : String} {v : Option Value} (hM : SM l y rm As (.inl v)) (cw : CallB R s args own idx y bytes maxL ret lw_g rm rm.cells rm.slots n ∧ (Cond.static y).before args s = true) (hx : p.tables.exec = Jvm.exec) (hb : c.code = cc) (hml : c.maxLocals = nL) (hown : s.vm.findClass own = some m.cls) (hts : ∀ w ∈ lw_g, w.before args s = true)
    (hls : ls.size = nL) (hn : As.length = n) (hst : st0 = As.reverse ++ rest) (hW : 2 * (F0 m pc ls st0).monitorRoom + (rest.map fun v => v.category).sum ≤ 8)
    (hdg : decode cc pc = .ok (.invokestatic idx, 3)) (hf : cells + rm.cells ≤ R.cells ∧ slots + rm.slots ≤ R.slots)
    (kk : W p l e R s m args below meth c H locs (cells + rm.cells) (slots + rm.slots) Q (F0 m (pc + 3) ls (v.toList ++ rest))) : W p l e R s m args below meth c H locs cells slots Q (F0 m pc ls st0) := by
  refine xx_call (xx_runS (Ts := lw_g) ⟨hx, hb, hml, hown, hts⟩ hM cw ⟨fun a U g mk q => q, fun U hU hW => ⟨rfl, trivial⟩⟩ rfl hn hls hst hW hdg hf) ?_ ?_
  · intro v' s0 t L h0 hw hL hq
    obtain ⟨hv, hh⟩ := hq
    cases hv
    rw [nilL hL, List.append_nil, hh, h0]
    exact kk
  · intro x s0 t L h0 hw hL hq
    cases hq.1
theorem smI {own : String} {r : Int32} (hM : SM l y rm As (XI r)) (cw : CallB R s args own idx y bytes maxL ret lw_g rm rm.cells rm.slots n ∧ (Cond.static y).before args s = true) (hx : p.tables.exec = Jvm.exec) (hb : c.code = cc) (hml : c.maxLocals = nL) (hown : s.vm.findClass own = some m.cls) (hts : ∀ w ∈ lw_g, w.before args s = true)
    (hls : ls.size = nL) (hn : As.length = n) (hst : st0 = As.reverse ++ rest) (hW : 2 * (F0 m pc ls st0).monitorRoom + (rest.map fun v => v.category).sum ≤ 8)
    (hdg : decode cc pc = .ok (.invokestatic idx, 3)) (hf : cells + rm.cells ≤ R.cells ∧ slots + rm.slots ≤ R.slots)
    (kk : W p l e R s m args below meth c H locs (cells + rm.cells) (slots + rm.slots) Q (F0 m (pc + 3) ls (.int r :: rest))) : W p l e R s m args below meth c H locs cells slots Q (F0 m pc ls st0) := sm_v hM cw hx hb hml hown hts hls hn hst hW hdg hf kk
theorem smL {own : String} {r : Int64} (hM : SM l y rm As (XL r)) (cw : CallB R s args own idx y bytes maxL ret lw_g rm rm.cells rm.slots n ∧ (Cond.static y).before args s = true) (hx : p.tables.exec = Jvm.exec) (hb : c.code = cc) (hml : c.maxLocals = nL) (hown : s.vm.findClass own = some m.cls) (hts : ∀ w ∈ lw_g, w.before args s = true)
    (hls : ls.size = nL) (hn : As.length = n) (hst : st0 = As.reverse ++ rest) (hW : 2 * (F0 m pc ls st0).monitorRoom + (rest.map fun v => v.category).sum ≤ 8)
    (hdg : decode cc pc = .ok (.invokestatic idx, 3)) (hf : cells + rm.cells ≤ R.cells ∧ slots + rm.slots ≤ R.slots)
    (kk : W p l e R s m args below meth c H locs (cells + rm.cells) (slots + rm.slots) Q (F0 m (pc + 3) ls (.long r :: rest))) : W p l e R s m args below meth c H locs cells slots Q (F0 m pc ls st0) := sm_v hM cw hx hb hml hown hts hls hn hst hW hdg hf kk
/-- the sum of an array that lies at the place q0 of the world -/
theorem saL {r : Int64} {f0 : Nat → Int64} {k0 a : Nat} {cA : ClassId} (hM : SA l y rm D a cA f0 k0 As (XL r)) (cw : CallB R s args RB idx y bytes maxL ret lw_g rm rm.cells rm.slots n ∧ (Cond.static y).before args s = true) (hx : p.tables.exec = Jvm.exec) (hb : c.code = cc) (hml : c.maxLocals = nL) (hown : s.vm.findClass RB = some m.cls) (hts : ∀ w ∈ lw_g, w.before args s = true)
    (hK : va_K D vwCl (tysB ca) s) (hP : va_P D vwCl (wB gm ca st) H) (q0 t0 : Nat) (hq : (wB gm ca st)[q0]? = some (a, .inl (cA, k0, .inr (.inl f0)))) (ht : (tysB ca)[t0]? = some (cA, .long))
    (hls : ls.size = nL) (hn : As.length + 1 = n) (hst : st0 = As.reverse ++ .ref a :: rest) (hW : 2 * (F0 m pc ls st0).monitorRoom + (rest.map fun v => v.category).sum ≤ 8)
    (hdg : decode cc pc = .ok (.invokestatic idx, 3)) (hf : cells + rm.cells ≤ R.cells ∧ slots + rm.slots ≤ R.slots)
    (kk : W p l e R s m args below meth c H locs (cells + rm.cells) (slots + rm.slots) Q (F0 m (pc + 3) ls (.long r :: rest))) : W p l e R s m args below meth c H locs cells slots Q (F0 m pc ls st0) := by
  have hPc : va_P D vwCl [(a, .inl (cA, k0, .inr (.inl f0)))] H := hP.sub [q0] (by simp [hq])
  have hKc : va_K D vwCl [(cA, .long)] s := hK.sub [t0] (by simp [ht])
  refine xx_call (xx_runS (Ts := lw_g) (As := .ref a :: As) (rest := rest) ⟨hx, hb, hml, hown, hts⟩ hM cw ⟨fun a U g mk q => ⟨q.1, q.2.1, va_K.moved (u := U) (U := U.calling g mk a) (Vm.Alike.refl U.vm) q.2.2⟩, fun U hU hW => ⟨rfl, by rw [hU]; exact hPc, va_K.moved hW.alike hKc⟩⟩ rfl (by simpa using hn) hls (by rw [hst]; simp) hW hdg hf) ?_ ?_
  · intro v' s0 t L h0 hw hL hq
    obtain ⟨hv, hh⟩ := hq
    cases hv
    rw [nilL hL, List.append_nil, hh, h0]
    exact kk
  · intro x s0 t L h0 hw hL hq
    cases hq.1
theorem mm_run {r : XR} (hM : MM l y rm D gm ca As st r st') (cw : CallW R s args RB RB idx y bytes maxL ret lw_g rm rm.cells rm.slots n) (hx : p.tables.exec = Jvm.exec) (hb : c.code = cc) (hml : c.maxLocals = nL) (hown : s.vm.findClass RB = some m.cls) (hts : ∀ w ∈ lw_g, w.before args s = true)
    (hK : va_K D vwCl (tysB ca) s) (hB : BWd D gm ca A s.heap st H locs) (hZ : zz A s s.heap) (hls : ls.size = nL) (hn : As.length = n) (hst : st0 = As.reverse ++ .ref (gm 0) :: rest) (hW : 2 * (F0 m pc ls st0).monitorRoom + (rest.map fun v => v.category).sum ≤ 8)
    (hdg : decode cc pc = .ok (.invokevirtual idx, 3)) (hf : cells + rm.cells ≤ R.cells ∧ slots + rm.slots ≤ R.slots) :
    xx_Run p l e R s m args below meth c H locs cells slots rm.cells rm.slots (F0 m pc ls st0) rest (mm_Q D gm ca (va_A (wB gm ca st) H.size) r st' (Value.ref (gm 0) :: As).toArray) (va_A (wB gm ca st) H.size) :=
  xx_runV (C := RB) (Ts := lw_g) ⟨hx, hb, hml, hown, hts⟩ (hM H.size) cw
    ⟨fun a U g mk q => ⟨q.1, q.2.1, q.2.2.1.moved rfl (Vm.Alike.refl U.vm), q.2.2.2⟩, va_recv hK hB.1 (ci := 0) (q0 := 0) rfl rfl, fun U hU hW => ⟨rfl, by rw [hU], ⟨by rw [hU]; exact hB.1, va_K.moved hW.alike hK, hZ.at hB.2.2 hU hW.alike⟩, hB.2.1.weaken (fun _ _ _ _ => trivial)⟩⟩ rfl hn hls hst hW hdg hf
/-- the world behind a writer's call -/
theorem mm_back {s0 t : State} {L : List Loc} (hA : ∀ q, s.heap.size ≤ q → A q) (hB : BWd D gm ca A s.heap st H locs) (h0 : s0.heap = H) (hL : ∀ q ∈ L, va_A (wB gm ca st) H.size q.base) (hP : va_P D vwCl (wB gm ca st') t.heap) (hD : va_D (va_A (wB gm ca st) H.size) (wB gm ca st')) (hF : va_F (va_A (wB gm ca st) H.size) s0 t) : BWd D gm ca A s.heap st' t.heap (locs ++ L) := by
  have hsub : ∀ q, va_A (wB gm ca st) H.size q → A q := by
    intro q hq
    rcases hq with ⟨k, e, h⟩ | h
    · exact hB.2.1.2 k (q, e) h
    · exact hA q (Nat.le_trans hB.2.2.1 h)
  refine ⟨hP, hD.weaken (fun _ _ _ h => hsub _ h), ?_, ?_, ?_⟩
  · exact Nat.le_trans hB.2.2.1 (by rw [← h0]; exact hF.1)
  · intro q h1 h2
    rw [hF.2 q (by rw [h0]; exact Nat.lt_of_lt_of_le h1 hB.2.2.1) (fun z => h2 (hsub q z)), h0]
    exact hB.2.2.2.1 q h1 h2
  · intro q hq
    rcases List.mem_append.mp hq with h | h
    · exact hB.2.2.2.2 q h
    · exact hsub _ (hL q h)
theorem mm_v {v : Option Value} (hM : MM l y rm D gm ca As st (.inl v) st') (cw : CallW R s args RB RB idx y bytes maxL ret lw_g rm rm.cells rm.slots n) (hx : p.tables.exec = Jvm.exec) (hb : c.code = cc) (hml : c.maxLocals = nL) (hown : s.vm.findClass RB = some m.cls) (hts : ∀ w ∈ lw_g, w.before args s = true)
    (hK : va_K D vwCl (tysB ca) s) (hB : BWd D gm ca A s.heap st H locs) (hZ : zz A s s.heap) (hA : ∀ q, s.heap.size ≤ q → A q) (hls : ls.size = nL) (hn : As.length = n) (hst : st0 = As.reverse ++ .ref (gm 0) :: rest) (hW : 2 * (F0 m pc ls st0).monitorRoom + (rest.map fun v => v.category).sum ≤ 8)
    (hdg : decode cc pc = .ok (.invokevirtual idx, 3)) (hf : cells + rm.cells ≤ R.cells ∧ slots + rm.slots ≤ R.slots)
    (kk : ∀ (H : Heap) (locs : List Loc), BWd D gm ca A s.heap st' H locs → W p l e R s m args below meth c H locs (cells + rm.cells) (slots + rm.slots) Q (F0 m (pc + 3) ls (v.toList ++ rest))) : W p l e R s m args below meth c H locs cells slots Q (F0 m pc ls st0) := by
  refine xx_call (mm_run hM cw hx hb hml hown hts hK hB hZ hls hn hst hW hdg hf) ?_ ?_
  · intro v' s0 t L h0 hw hL hq
    obtain ⟨hv, hP, hD, hF⟩ := hq
    cases hv
    exact kk _ _ (mm_back hA hB h0 hL hP hD hF)
  · intro x s0 t L h0 hw hL hq
    cases hq.1
theorem mmI {r : Int32} (hM : MM l y rm D gm ca As st (XI r) st') (cw : CallW R s args RB RB idx y bytes maxL ret lw_g rm rm.cells rm.slots n) (hx : p.tables.exec = Jvm.exec) (hb : c.code = cc) (hml : c.maxLocals = nL) (hown : s.vm.findClass RB = some m.cls) (hts : ∀ w ∈ lw_g, w.before args s = true)
    (hK : va_K D vwCl (tysB ca) s) (hB : BWd D gm ca A s.heap st H locs) (hZ : zz A s s.heap) (hA : ∀ q, s.heap.size ≤ q → A q) (hls : ls.size = nL) (hn : As.length = n) (hst : st0 = As.reverse ++ .ref (gm 0) :: rest) (hW : 2 * (F0 m pc ls st0).monitorRoom + (rest.map fun v => v.category).sum ≤ 8)
    (hdg : decode cc pc = .ok (.invokevirtual idx, 3)) (hf : cells + rm.cells ≤ R.cells ∧ slots + rm.slots ≤ R.slots)
    (kk : ∀ (H : Heap) (locs : List Loc), BWd D gm ca A s.heap st' H locs → W p l e R s m args below meth c H locs (cells + rm.cells) (slots + rm.slots) Q (F0 m (pc + 3) ls (.int r :: rest))) : W p l e R s m args below meth c H locs cells slots Q (F0 m pc ls st0) := mm_v hM cw hx hb hml hown hts hK hB hZ hA hls hn hst hW hdg hf kk
theorem mmL {r : Int64} (hM : MM l y rm D gm ca As st (XL r) st') (cw : CallW R s args RB RB idx y bytes maxL ret lw_g rm rm.cells rm.slots n) (hx : p.tables.exec = Jvm.exec) (hb : c.code = cc) (hml : c.maxLocals = nL) (hown : s.vm.findClass RB = some m.cls) (hts : ∀ w ∈ lw_g, w.before args s = true)
    (hK : va_K D vwCl (tysB ca) s) (hB : BWd D gm ca A s.heap st H locs) (hZ : zz A s s.heap) (hA : ∀ q, s.heap.size ≤ q → A q) (hls : ls.size = nL) (hn : As.length = n) (hst : st0 = As.reverse ++ .ref (gm 0) :: rest) (hW : 2 * (F0 m pc ls st0).monitorRoom + (rest.map fun v => v.category).sum ≤ 8)
    (hdg : decode cc pc = .ok (.invokevirtual idx, 3)) (hf : cells + rm.cells ≤ R.cells ∧ slots + rm.slots ≤ R.slots)
    (kk : ∀ (H : Heap) (locs : List Loc), BWd D gm ca A s.heap st' H locs → W p l e R s m args below meth c H locs (cells + rm.cells) (slots + rm.slots) Q (F0 m (pc + 3) ls (.long r :: rest))) : W p l e R s m args below meth c H locs cells slots Q (F0 m pc ls st0) := mm_v hM cw hx hb hml hown hts hK hB hZ hA hls hn hst hW hdg hf kk
theorem mmV (hM : MM l y rm D gm ca As st XV st') (cw : CallW R s args RB RB idx y bytes maxL ret lw_g rm rm.cells rm.slots n) (hx : p.tables.exec = Jvm.exec) (hb : c.code = cc) (hml : c.maxLocals = nL) (hown : s.vm.findClass RB = some m.cls) (hts : ∀ w ∈ lw_g, w.before args s = true)
    (hK : va_K D vwCl (tysB ca) s) (hB : BWd D gm ca A s.heap st H locs) (hZ : zz A s s.heap) (hA : ∀ q, s.heap.size ≤ q → A q) (hls : ls.size = nL) (hn : As.length = n) (hst : st0 = As.reverse ++ .ref (gm 0) :: rest) (hW : 2 * (F0 m pc ls st0).monitorRoom + (rest.map fun v => v.category).sum ≤ 8)
    (hdg : decode cc pc = .ok (.invokevirtual idx, 3)) (hf : cells + rm.cells ≤ R.cells ∧ slots + rm.slots ≤ R.slots)
    (kk : ∀ (H : Heap) (locs : List Loc), BWd D gm ca A s.heap st' H locs → W p l e R s m args below meth c H locs (cells + rm.cells) (slots + rm.slots) Q (F0 m (pc + 3) ls rest)) : W p l e R s m args below meth c H locs cells slots Q (F0 m pc ls st0) := mm_v hM cw hx hb hml hown hts hK hB hZ hA hls hn hst hW hdg hf kk
theorem mmT {k : Nat} (hM : MM l y rm D gm ca As st (.inr k) st') (cw : CallW R s args RB RB idx y bytes maxL ret lw_g rm rm.cells rm.slots n) (hx : p.tables.exec = Jvm.exec) (hb : c.code = cc) (hml : c.maxLocals = nL) (hown : s.vm.findClass RB = some m.cls) (hts : ∀ w ∈ lw_g, w.before args s = true)
    (hK : va_K D vwCl (tysB ca) s) (hB : BWd D gm ca A s.heap st H locs) (hZ : zz A s s.heap) (hA : ∀ q, s.heap.size ≤ q → A q) (hls : ls.size = nL) (hn : As.length = n) (hst : st0 = As.reverse ++ .ref (gm 0) :: rest) (hW : 2 * (F0 m pc ls st0).monitorRoom + (rest.map fun v => v.category).sum ≤ 8)
    (hdg : decode cc pc = .ok (.invokevirtual idx, 3)) (hf : cells + rm.cells ≤ R.cells ∧ slots + rm.slots ≤ R.slots)
    (kk : ∀ (H : Heap) (locs : List Loc) (x : Addr) (t : State), t.heap = H → s.heap.size ≤ x → xx_X k t x → s.WarmedH t.vm → BWd D gm ca A s.heap st' H locs → WT p l e R s m args below meth c H locs (cells + rm.cells) (slots + rm.slots) Q (F0 m pc ls rest) x) : W p l e R s m args below meth c H locs cells slots Q (F0 m pc ls st0) := by
  refine xx_call (mm_run hM cw hx hb hml hown hts hK hB hZ hls hn hst hW hdg hf) ?_ ?_
  · intro v' s0 t L h0 hw hL hq
    obtain ⟨⟨x, hv, -⟩, -⟩ := hq
    cases hv
  · intro x s0 t L h0 hw hL hq
    obtain ⟨⟨x', hv, g1, g2⟩, hP, hD, hF⟩ := hq
    cases hv
    rw [h0] at g1
    exact kk _ _ x t rfl (Nat.le_trans hB.2.2.1 g1) g2 hw (mm_back hA hB h0 hL hP hD hF)
end BK
