/-! ends of the book's methods, and how a walk becomes a contract -/
/-- a boolean that is handed on: 0 or 1 -/
def zb (v : Int32) : Option Int32 := if v = 0 ∨ v = 1 then some v else none
theorem zb_ok {v z : Int32} (h : zb v = some z) : narrow .boolean (.int v) = .int v := by
  unfold zb at h
  split at h
  · rename_i c
    rcases c with rfl | rfl <;> rfl
  · cases h
section BE
variable {p : Program} {l : Launch} {e : Env} {R : Room} {s : State} {m : MethodId} {args : Array Value} {below : List Frame} {meth : Method} {c : Code} {H : Heap} {locs : List Loc} {cells slots : Nat}
variable {cc : ByteArray} {pc nL : Nat} {ls : Array Slot} {rest : List Value} {D : va_G} {A : Nat → Prop} {gm : Nat → Nat} {ca : Nat → ClassId} {st st' : BSt} {ret : Option FieldType}
def BX (p : Program) (l : Launch) (e : Env) (R : Room) (s : State) (m : MethodId) (args : Array Value) (meth : Method) (c : Code) (D : va_G) (ca : Nat → ClassId) (A : Nat → Prop) (cc : ByteArray) (nL : Nat) (ret : Option FieldType) : Prop :=
  p.tables.exec = Jvm.exec ∧ c.code = cc ∧ c.maxLocals = nL ∧ meth.sig.returnType = ret ∧ meth.locks = false ∧ s.vm.findClass RB = some m.cls ∧ (∀ w ∈ lw_g, w.before args s = true) ∧ va_K D vwCl (tysB ca) s ∧ e.platform.stackTraces = false ∧ zz A s s.heap ∧ c.exceptionTable.isEmpty = true ∧ (∀ q, s.heap.size ≤ q → A q) ∧ l.flags = flags0
def SX (p : Program) (l : Launch) (e : Env) (R : Room) (s : State) (m : MethodId) (args : Array Value) (meth : Method) (c : Code) (D : va_G) (cA : ClassId) (cc : ByteArray) (nL : Nat) (ret : Option FieldType) : Prop :=
  p.tables.exec = Jvm.exec ∧ c.code = cc ∧ c.maxLocals = nL ∧ meth.sig.returnType = ret ∧ meth.locks = false ∧ s.vm.findClass RB = some m.cls ∧ (∀ w ∈ lw_g, w.before args s = true) ∧ va_K D vwCl [(cA, .long)] s ∧ l.flags = flags0
theorem er_i {v : Int32} (hx : p.tables.exec = Jvm.exec) (hb : c.code = cc) (hr : meth.sig.returnType = some .int) (hlk : meth.locks = false) (hdg : decode cc pc = .ok (.ireturn, 1)) :
    W p l e R s m args below meth c s.heap [] cells slots (MQX below (xx_Q (XI v)) args s cells slots (fun _ => False)) (F0 m pc ls [.int v]) :=
  W.toX (W.iret (free := fun _ => False) hx hb hr (fun t ht _ => ⟨rfl, ht⟩) (fun q h => by cases h) hdg (hlocks := hlk))
theorem er_z {v : Int32} (hx : p.tables.exec = Jvm.exec) (hb : c.code = cc) (hr : meth.sig.returnType = some .boolean) (hlk : meth.locks = false) (hn : narrow .boolean (.int v) = .int v) (hdg : decode cc pc = .ok (.ireturn, 1)) :
    W p l e R s m args below meth c s.heap [] cells slots (MQX below (xx_Q (XI v)) args s cells slots (fun _ => False)) (F0 m pc ls [.int v]) :=
  W.toX (W.zret (free := fun _ => False) hx hb hr hn (fun t ht _ => ⟨rfl, ht⟩) (fun q h => by cases h) hdg (hlocks := hlk))
theorem er_l {v : Int64} (hx : p.tables.exec = Jvm.exec) (hb : c.code = cc) (hr : meth.sig.returnType = some .long) (hlk : meth.locks = false) (hdg : decode cc pc = .ok (.lreturn, 1)) :
    W p l e R s m args below meth c s.heap [] cells slots (MQX below (xx_Q (XL v)) args s cells slots (fun _ => False)) (F0 m pc ls [.long v]) :=
  W.toX (W.lret (free := fun _ => False) hx hb hr (fun t ht _ => ⟨rfl, ht⟩) (fun q h => by cases h) hdg (hlocks := hlk))
theorem er_v (hx : p.tables.exec = Jvm.exec) (hb : c.code = cc) (hr : meth.sig.returnType = none) (hlk : meth.locks = false) (hdg : decode cc pc = .ok (.return_, 1)) :
    W p l e R s m args below meth c s.heap [] cells slots (MQX below (xx_Q XV) args s cells slots (fun _ => False)) (F0 m pc ls []) :=
  W.toX (W.vret (free := fun _ => False) hx hb hr (fun t ht _ => ⟨rfl, ht⟩) (fun q h => by cases h) hdg (hlocks := hlk))
theorem em_i {v : Int32} (hx : p.tables.exec = Jvm.exec) (hb : c.code = cc) (hr : meth.sig.returnType = some .int) (hlk : meth.locks = false) (hB : BWd D gm ca A s.heap st H locs) (hdg : decode cc pc = .ok (.ireturn, 1)) :
    W p l e R s m args below meth c H locs cells slots (MQX below (mm_Q D gm ca A (XI v) st) args s cells slots A) (F0 m pc ls [.int v]) :=
  W.toX (W.iret (free := A) hx hb hr (fun t ht _ => ⟨rfl, by rw [ht]; exact hB.1, hB.2.1, hB.2.2.F ht⟩) hB.2.2.2.2 hdg (hlocks := hlk))
theorem em_z {v : Int32} (hx : p.tables.exec = Jvm.exec) (hb : c.code = cc) (hr : meth.sig.returnType = some .boolean) (hlk : meth.locks = false) (hB : BWd D gm ca A s.heap st H locs) (hn : narrow .boolean (.int v) = .int v) (hdg : decode cc pc = .ok (.ireturn, 1)) :
    W p l e R s m args below meth c H locs cells slots (MQX below (mm_Q D gm ca A (XI v) st) args s cells slots A) (F0 m pc ls [.int v]) :=
  W.toX (W.zret (free := A) hx hb hr hn (fun t ht _ => ⟨rfl, by rw [ht]; exact hB.1, hB.2.1, hB.2.2.F ht⟩) hB.2.2.2.2 hdg (hlocks := hlk))
theorem em_l {v : Int64} (hx : p.tables.exec = Jvm.exec) (hb : c.code = cc) (hr : meth.sig.returnType = some .long) (hlk : meth.locks = false) (hB : BWd D gm ca A s.heap st H locs) (hdg : decode cc pc = .ok (.lreturn, 1)) :
    W p l e R s m args below meth c H locs cells slots (MQX below (mm_Q D gm ca A (XL v) st) args s cells slots A) (F0 m pc ls [.long v]) :=
  W.toX (W.lret (free := A) hx hb hr (fun t ht _ => ⟨rfl, by rw [ht]; exact hB.1, hB.2.1, hB.2.2.F ht⟩) hB.2.2.2.2 hdg (hlocks := hlk))
theorem em_v (hx : p.tables.exec = Jvm.exec) (hb : c.code = cc) (hr : meth.sig.returnType = none) (hlk : meth.locks = false) (hB : BWd D gm ca A s.heap st H locs) (hdg : decode cc pc = .ok (.return_, 1)) :
    W p l e R s m args below meth c H locs cells slots (MQX below (mm_Q D gm ca A XV st) args s cells slots A) (F0 m pc ls []) :=
  W.toX (W.vret (free := A) hx hb hr (fun t ht _ => ⟨rfl, by rw [ht]; exact hB.1, hB.2.1, hB.2.2.F ht⟩) hB.2.2.2.2 hdg (hlocks := hlk))
theorem noH (h : c.exceptionTable.isEmpty = true) (pc : Nat) : ∀ x ∈ c.exceptionTable.toList, covers x pc = false := by
  have h0 : c.exceptionTable.toList = [] := by simpa using h
  intro x hx
  rw [h0] at hx
  cases hx
/-- the words of a throw: every one of them is a word of the tables, or speaks of the two statics -/
def zz_words : List Cond := [.laysStatic "java/lang/Throwable" "UNASSIGNED_STACK" "[Ljava/lang/StackTraceElement;", .laysStatic "java/lang/Throwable" "SUPPRESSED_SENTINEL" "Ljava/util/List;", .isRef (.static "java/lang/Throwable" "UNASSIGNED_STACK" "[Ljava/lang/StackTraceElement;"), .isRef (.static "java/lang/Throwable" "SUPPRESSED_SENTINEL" "Ljava/util/List;")]
def bt_words (k i1 i2 i3 : Nat) (tx : String) : Prop := (∀ w ∈ Bundle.ownAtoms RB i3 (xx_nm k) ["java/lang/RuntimeException", "java/lang/Exception"], w ∈ lw_g ∨ w ∈ zz_words)
  ∧ Cond.classLink RB i1 (xx_nm k) ∈ lw_g ∧ Cond.initialized (xx_nm k) ∈ lw_g ∧ Cond.stringRef RB i2 tx ∈ lw_g
theorem bt_atoms {k i1 i2 i3 : Nat} {tx : String} (hw : bt_words k i1 i2 i3 tx) (hts : ∀ w ∈ lw_g, w.before args s = true) (hZ : zz A s s.heap) : ∀ w ∈ Bundle.ownAtoms RB i3 (xx_nm k) ["java/lang/RuntimeException", "java/lang/Exception"], w.before args s = true := by
  intro w h
  rcases hw.1 w h with h | h
  · exact hts w h
  · simp only [zz_words, List.mem_cons, List.not_mem_nil, or_false] at h
    rcases h with rfl | rfl | rfl | rfl
    · exact hZ.1.lays
    · exact hZ.2.lays
    · exact hZ.1.isRef
    · exact hZ.2.isRef
theorem fit_nm (k : Nat) : Bundle.fit (xx_nm k) = true := by
  match k with
  | 0 => decide +kernel
  | 1 => decide +kernel
  | _ + 2 => exact (by decide +kernel : Bundle.fit "java/lang/IndexOutOfBoundsException" = true)
theorem fit_up : ∀ n ∈ ["java/lang/RuntimeException", "java/lang/Exception"], Bundle.fit n = true := by decide +kernel
theorem rt_throw {k i1 i2 i3 : Nat} {tx : String} (hw : bt_words k i1 i2 i3 tx) (hX : BX p l e R s m args meth c D ca A cc nL ret) (hls : ls.size = nL)
    (d0 : decode cc pc = .ok (.new i1, 3)) (d1 : decode cc (pc + 3) = .ok (.dup, 1)) (d2 : decode cc (pc + 3 + 1) = .ok (.ldc i2, 2)) (d3 : decode cc (pc + 3 + 1 + 2) = .ok (.invokespecial i3, 3)) (d4 : decode cc (pc + 3 + 1 + 2 + 3) = .ok (.athrow, 1))
    (hc : cells + 1 ≤ R.cells ∧ slots + 6 ≤ R.slots) (hR : 5 < R.frames ∧ 82 ≤ R.locals) :
    W p l e R s m args below meth c s.heap [] cells slots (MQX below (xx_Q (.inr k)) args s (cells + 1) (slots + 6) (fun _ => False)) (F0 m pc ls []) := by
  obtain ⟨hx, hb, hml, hr, hlk, hown, hts, hK, htr, hZ, hnh, hA, hfl⟩ := hX
  refine xx_thrownew hx hb hml htr hown hlk (fit_nm k) fit_up (bt_atoms hw hts hZ) (hts _ hw.2.1) (hts _ hw.2.2.1) (hts _ hw.2.2.2) (noH hnh _) hls hc.1 hc.2 (by show 2 + 3 < _; omega) (by show 1 + 0 + (13 * (2 + 1) + 42) ≤ _; omega) d0 d1 d2 d3 d4 ?_
  intro x t h1 h2 h3 h4 h5
  obtain ⟨ce, g1, g2, g3⟩ := h5
  exact ⟨x, rfl, h1, h2, h3, ce, g1, g2, by rw [h4.alike.findClass]; exact g3⟩
/-- the same of a method that may write, before it has written -/
theorem mt_throw {k i1 i2 i3 : Nat} {tx : String} (hw : bt_words k i1 i2 i3 tx) (hX : BX p l e R s m args meth c D ca A cc nL ret) (hls : ls.size = nL)
    (d0 : decode cc pc = .ok (.new i1, 3)) (d1 : decode cc (pc + 3) = .ok (.dup, 1)) (d2 : decode cc (pc + 3 + 1) = .ok (.ldc i2, 2)) (d3 : decode cc (pc + 3 + 1 + 2) = .ok (.invokespecial i3, 3)) (d4 : decode cc (pc + 3 + 1 + 2 + 3) = .ok (.athrow, 1))
    (hc : cells + 1 ≤ R.cells ∧ slots + 6 ≤ R.slots) (hR : 5 < R.frames ∧ 82 ≤ R.locals) (hB : BWd D gm ca A s.heap st s.heap []) :
    W p l e R s m args below meth c s.heap [] cells slots (MQX below (mm_Q D gm ca A (.inr k) st) args s (cells + 1) (slots + 6) A) (F0 m pc ls []) := by
  obtain ⟨hx, hb, hml, hr, hlk, hown, hts, hK, htr, hZ, hnh, hA, hfl⟩ := hX
  refine xx_thrownew hx hb hml htr hown hlk (fit_nm k) fit_up (bt_atoms hw hts hZ) (hts _ hw.2.1) (hts _ hw.2.2.1) (hts _ hw.2.2.2) (noH hnh _) hls hc.1 hc.2 (by show 2 + 3 < _; omega) (by show 1 + 0 + (13 * (2 + 1) + 42) ≤ _; omega) d0 d1 d2 d3 d4 ?_
  intro x t h1 h2 h3 h4 h5
  obtain ⟨ce, g1, g2, g3⟩ := h5
  refine ⟨⟨x, rfl, h1, ce, g1, g2, by rw [h4.alike.findClass]; exact g3⟩, hB.1.kept (fun k q hk => h3 _ ((hB.1 k q hk).lt)), hB.2.1, h2, fun q hq _ => h3 q hq⟩
/-- an exception of a callee goes through a reader -/
theorem rt_out {k : Nat} {x : Addr} {t : State} (hX : BX p l e R s m args meth c D ca A cc nL ret) (h1 : s.heap.size ≤ x) (h2 : s.heap.size ≤ t.heap.size) (h3 : ∀ q, q < s.heap.size → t.heap[q]? = s.heap[q]?) (h4 : s.WarmedH t.vm) (h5 : xx_X k t x) :
    WT p l e R s m args below meth c t.heap [] cells slots (MQX below (xx_Q (.inr k)) args s cells slots (fun _ => False)) (F0 m pc ls rest) x := by
  obtain ⟨hx, hb, hml, hr, hlk, hown, hts, hK, htr, hZ, hnh, hA, hfl⟩ := hX
  refine WT.out (noH hnh pc) hlk (fun u hu hw => ?_) (fun q h => by cases h)
  obtain ⟨ce, g1, g2, g3⟩ := h5
  exact ⟨x, rfl, h1, by rw [hu]; exact h2, by rw [hu]; exact h3, ce, by rw [hu]; exact g1, g2, by rw [hw.alike.findClass, ← h4.alike.findClass]; exact g3⟩
/-- .. through a method that may write, out of a reader -/
theorem mt_outR {k : Nat} {x : Addr} {t : State} (hX : BX p l e R s m args meth c D ca A cc nL ret) (hB : BWd D gm ca A s.heap st H locs) (h1 : H.size ≤ x) (h2 : H.size ≤ t.heap.size) (h3 : ∀ q, q < H.size → t.heap[q]? = H[q]?) (h4 : s.WarmedH t.vm) (h5 : xx_X k t x) :
    WT p l e R s m args below meth c t.heap locs cells slots (MQX below (mm_Q D gm ca A (.inr k) st) args s cells slots A) (F0 m pc ls rest) x := by
  obtain ⟨hx, hb, hml, hr, hlk, hown, hts, hK, htr, hZ, hnh, hA, hfl⟩ := hX
  refine WT.out (noH hnh pc) hlk (fun u hu hw => ?_) hB.2.2.2.2
  obtain ⟨ce, g1, g2, g3⟩ := h5
  refine ⟨⟨x, rfl, Nat.le_trans hB.2.2.1 h1, ce, by rw [hu]; exact g1, g2, by rw [hw.alike.findClass, ← h4.alike.findClass]; exact g3⟩, ?_, hB.2.1, ?_, ?_⟩
  · rw [hu]; exact hB.1.kept (fun k q hk => h3 _ ((hB.1 k q hk).lt))
  · rw [hu]; exact Nat.le_trans hB.2.2.1 h2
  · intro q hq hn; rw [hu, h3 q (Nat.lt_of_lt_of_le hq hB.2.2.1)]; exact hB.2.2.2.1 q hq hn
/-- .. out of a writer -/
theorem mt_outM {k : Nat} {x : Addr} {t : State} (hX : BX p l e R s m args meth c D ca A cc nL ret) (ht : t.heap = H) (h1 : s.heap.size ≤ x) (h5 : xx_X k t x) (h4 : s.WarmedH t.vm) (hB : BWd D gm ca A s.heap st H locs) :
    WT p l e R s m args below meth c H locs cells slots (MQX below (mm_Q D gm ca A (.inr k) st) args s cells slots A) (F0 m pc ls rest) x := by
  obtain ⟨hx, hb, hml, hr, hlk, hown, hts, hK, htr, hZ, hnh, hA, hfl⟩ := hX
  refine WT.out (noH hnh pc) hlk (fun u hu hw => ?_) hB.2.2.2.2
  obtain ⟨ce, g1, g2, g3⟩ := h5
  exact ⟨⟨x, rfl, h1, ce, by rw [hu, ← ht]; exact g1, g2, by rw [hw.alike.findClass, ← h4.alike.findClass]; exact g3⟩, by rw [hu]; exact hB.1, hB.2.1, hB.2.2.F hu⟩
end BE
section BO
variable {l : Launch} {y : MethodName} {rm : Room} {D : va_G} {gm : Nat → Nat} {ca : Nat → ClassId} {st st' : BSt} {cc : ByteArray} {nL : Nat} {ret : Option FieldType} {As : List Value} {r : XR}
/-- the locals at the entry -/
abbrev ent (vs : List Value) (n : Nat) : Array Slot := (lg_sl vs ++ List.replicate (n - (lg_sl vs).length) Slot.unset).toArray
theorem zz.self {s : State} (h : zz (fun _ => False) s s.heap) : zz (va_A [] s.heap.size) s s.heap := zz.world (D := (fun _ => 0, fun _ _ => 0)) (cl := []) (fun k q h => by simp at h) h
theorem RM.of (hfl : l.flags = flags0) (hy : plainFor y = true) (hc : y.cls = RB) (hw : Cond.code y cc nL ret ∈ lw_g)
    (body : ∀ (p : Program) (e : Env) (s : State) (m : MethodId) (below : List Frame) (meth : Method) (c : Code), BX p l e rm s m (Value.ref (gm 0) :: As).toArray meth c D ca (va_A [] s.heap.size) cc nL ret → va_P D vwCl (wB gm ca st) s.heap →
      W p l e rm s m (Value.ref (gm 0) :: As).toArray below meth c s.heap [] 0 0 (MQX below (xx_Q r) (Value.ref (gm 0) :: As).toArray s rm.cells rm.slots (fun _ => False)) (F0 m 0 (ent (.ref (gm 0) :: As) nL) [])) : RM l y rm D gm ca As st r := by
  refine MetX.ofW hy hw ?_
  intro p e s m args below meth c s₁ B hml hv
  obtain ⟨rfl, hP, hK, hZ⟩ := hv
  rw [lg_entry_eq]
  exact body p e s m below meth c ⟨B.exec, B.bytes, hml, B.returns, B.notSynchronized, by rw [← hc]; exact findClass_of_methodNamed B.named, atoms_spec (ws := lw_g) B.pre, hK, Launch.traces_off hfl B.admits, hZ.self, B.noHandlers (atoms_spec (ws := lw_g) B.pre _ hw), fun q h => Or.inr h, hfl⟩ hP
theorem MM.of (hfl : l.flags = flags0) (hy : plainFor y = true) (hc : y.cls = RB) (hw : Cond.code y cc nL ret ∈ lw_g)
    (body : ∀ (p : Program) (e : Env) (s : State) (m : MethodId) (below : List Frame) (meth : Method) (c : Code) (A : Nat → Prop), A = va_A (wB gm ca st) s.heap.size → BX p l e rm s m (Value.ref (gm 0) :: As).toArray meth c D ca A cc nL ret → BWd D gm ca A s.heap st s.heap [] →
      W p l e rm s m (Value.ref (gm 0) :: As).toArray below meth c s.heap [] 0 0 (MQX below (mm_Q D gm ca A r st') (Value.ref (gm 0) :: As).toArray s rm.cells rm.slots A) (F0 m 0 (ent (.ref (gm 0) :: As) nL) [])) : MM l y rm D gm ca As st r st' := by
  intro sz
  refine MetX.ofW hy hw ?_
  intro p e s m args below meth c s₁ B hml hv
  obtain ⟨rfl, rfl, ⟨hP, hK, hZ⟩, hD⟩ := hv
  rw [lg_entry_eq]
  exact body p e s m below meth c _ rfl ⟨B.exec, B.bytes, hml, B.returns, B.notSynchronized, by rw [← hc]; exact findClass_of_methodNamed B.named, atoms_spec (ws := lw_g) B.pre, hK, Launch.traces_off hfl B.admits, hZ.world hP, B.noHandlers (atoms_spec (ws := lw_g) B.pre _ hw), fun q h => Or.inr h, hfl⟩ ⟨hP, hD.self, va_S.rf⟩
theorem SM.of {own : String} (hfl : l.flags = flags0) (hy : plainFor y = true) (hc : y.cls = own) (hw : Cond.code y cc nL ret ∈ lw_g)
    (body : ∀ (p : Program) (e : Env) (s : State) (m : MethodId) (below : List Frame) (meth : Method) (c : Code), p.tables.exec = Jvm.exec → c.code = cc → c.maxLocals = nL → meth.sig.returnType = ret → meth.locks = false → s.vm.findClass own = some m.cls → (∀ w ∈ lw_g, w.before As.toArray s = true) →
      W p l e rm s m As.toArray below meth c s.heap [] 0 0 (MQX below (xx_Q r) As.toArray s rm.cells rm.slots (fun _ => False)) (F0 m 0 (ent As nL) [])) : SM l y rm As r := by
  refine MetX.ofW hy hw ?_
  intro p e s m args below meth c s₁ B hml hv
  obtain ⟨rfl, -⟩ := hv
  rw [lg_entry_eq]
  exact body p e s m below meth c B.exec B.bytes hml B.returns B.notSynchronized (by rw [← hc]; exact findClass_of_methodNamed B.named) (atoms_spec (ws := lw_g) B.pre)
theorem SA.of {a : Nat} {cA : ClassId} {f0 : Nat → Int64} {k0 : Nat} (hfl : l.flags = flags0) (hy : plainFor y = true) (hc : y.cls = RB) (hw : Cond.code y cc nL ret ∈ lw_g)
    (body : ∀ (p : Program) (e : Env) (s : State) (m : MethodId) (below : List Frame) (meth : Method) (c : Code), SX p l e rm s m (Value.ref a :: As).toArray meth c D cA cc nL ret → va_P D vwCl [(a, .inl (cA, k0, .inr (.inl f0)))] s.heap →
      W p l e rm s m (Value.ref a :: As).toArray below meth c s.heap [] 0 0 (MQX below (xx_Q r) (Value.ref a :: As).toArray s rm.cells rm.slots (fun _ => False)) (F0 m 0 (ent (.ref a :: As) nL) [])) : SA l y rm D a cA f0 k0 As r := by
  refine MetX.ofW hy hw ?_
  intro p e s m args below meth c s₁ B hml hv
  obtain ⟨rfl, hP, hK⟩ := hv
  rw [lg_entry_eq]
  exact body p e s m below meth c ⟨B.exec, B.bytes, hml, B.returns, B.notSynchronized, by rw [← hc]; exact findClass_of_methodNamed B.named, atoms_spec (ws := lw_g) B.pre, hK, hfl⟩ hP
end BO
