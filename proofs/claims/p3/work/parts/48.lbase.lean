/-! THE LAW'S WRAPPERS: their context, their ends, their handlers -/
def R_law : String := "LeafBookLaw"
/-- the class of exceptions that an entry of the law's pool names -/
def catl (i : Nat) : Nat := if i = 13 then 0 else if i = 15 then 1 else 2
section LB
variable {p : Program} {l : Launch} {e : Env} {R : Room} {s : State} {m : MethodId} {args : Array Value} {below : List Frame} {meth : Method} {c : Code} {H : Heap} {locs : List Loc} {cells slots : Nat} {Q : State → Prop}
variable {cc : ByteArray} {pc nL : Nat} {ls : Array Slot} {rest st0 : List Value} {D : va_G} {A : Nat → Prop} {tys : List (ClassId × FieldType)} {ws ws' : va_W} {hs : List (Nat × Nat × Nat × Nat)}
variable {y : MethodName} {rm : Room} {As : List Value} {r : XR}
def LX (p : Program) (l : Launch) (e : Env) (R : Room) (s : State) (m : MethodId) (args : Array Value) (meth : Method) (c : Code) (D : va_G) (tys : List (ClassId × FieldType)) (A : Nat → Prop) (cc : ByteArray) (nL : Nat) (hs : List (Nat × Nat × Nat × Nat)) : Prop :=
  p.tables.exec = Jvm.exec ∧ c.code = cc ∧ c.maxLocals = nL ∧ meth.sig.returnType = some .int ∧ meth.locks = false ∧ s.vm.findClass R_law = some m.cls ∧ (∀ w ∈ lw_g, w.before args s = true) ∧ lk D tys s ∧ zz A s s.heap ∧ c.exceptionTable.toList.map (fun h => (h.startPc, h.endPc, h.handlerPc, h.catchType)) = hs ∧ (∀ q, s.heap.size ≤ q → A q)
theorem LM.ofWW (hy : plainFor y = true) (hc : y.cls = R_law) (hw : Cond.codeWith y cc nL (some .int) hs ∈ lw_g)
    (body : ∀ (p : Program) (e : Env) (s : State) (m : MethodId) (below : List Frame) (meth : Method) (c : Code) (A : Nat → Prop), LX p l e rm s m As.toArray meth c D tys A cc nL hs → LWd D A ws s.heap s.heap [] →
      W p l e rm s m As.toArray below meth c s.heap [] 0 0 (MQX below (lm_Q D A r ws') As.toArray s rm.cells rm.slots A) (F0 m 0 (ent As nL) [])) : LM l y rm D tys As ws r ws' := by
  intro sz
  refine MetX.ofWW hy hw ?_
  intro p e s m args below meth c s₁ B hml htab hv
  obtain ⟨rfl, rfl, ⟨hP, hk⟩, hD⟩ := hv
  rw [lg_entry_eq]
  exact body p e s m below meth c _ ⟨B.exec, B.bytes, hml, B.returns, B.notSynchronized, by rw [← hc]; exact findClass_of_methodNamed B.named, atoms_spec (ws := lw_g) B.pre, hk, hk.2.1.world hP, htab, fun q h => Or.inr h⟩ ⟨hP, hD.self, va_S.rf⟩
theorem lq_i {v : Int32} (hx : p.tables.exec = Jvm.exec) (hb : c.code = cc) (hr : meth.sig.returnType = some .int) (hlk : meth.locks = false) (hL : LWd D A ws s.heap H locs) (hdg : decode cc pc = .ok (.ireturn, 1)) :
    W p l e R s m args below meth c H locs cells slots (MQX below (lm_Q D A (XI v) ws) args s cells slots A) (F0 m pc ls [.int v]) :=
  W.toX (W.iret (free := A) hx hb hr (fun t ht _ => ⟨rfl, by rw [ht]; exact hL.1, hL.2.1, hL.2.2.F ht⟩) hL.2.2.2.2 hdg (hlocks := hlk))
theorem lc_find {k : Nat} (es : List ExceptionTableEntry) : (es.find? (fun x => catl x.catchType == k)).map (fun x => x.handlerPc) = ((es.map (fun h => (h.startPc, h.endPc, h.handlerPc, h.catchType))).find? (fun z => catl z.2.2.2 == k)).map (fun z => z.2.2.1) := by
  induction es with
  | nil => rfl
  | cons x t ih =>
    by_cases h : catl x.catchType = k
    · simp [List.find?, h]
    · have h' : (catl x.catchType == k) = false := by simpa using h
      simp only [List.map, List.find?, h']
      exact ih
theorem lc_catch {k h : Nat} {x : Addr} {t : State} (hX : LX p l e R s m args meth c D tys A cc nL hs) (hk3 : k < 3) (hself : Cond.castable (xx_nm k) (xx_nm k) ∈ lw_g)
    (hcat : ∀ z ∈ hs, (z.1 ≤ pc ∧ pc < z.2.1) ∧ z.2.2.2 ≠ 0 ∧ catl z.2.2.2 < 3 ∧ Cond.classLink R_law z.2.2.2 (xx_nm (catl z.2.2.2)) ∈ lw_g) (hf : (hs.find? (fun z => catl z.2.2.2 == k)).map (fun z => z.2.2.1) = some h)
    (ht : t.heap = H) (h5 : xx_X k t x) (hw : s.WarmedH t.vm) (kk : W p l e R s m args below meth c H locs cells slots Q (F0 m h ls [.ref x])) : WT p l e R s m args below meth c H locs cells slots Q (F0 m pc ls rest) x := by
  obtain ⟨hx, hb, hml, hr, hlk, hown, hts, hk, hZ, htab, hA⟩ := hX
  obtain ⟨ce, g1, g2, g3⟩ := h5
  refine WT.catch (cat := catl) (ce := ce) hown hk.2.2 (hts _ hself) (by rw [← hw.alike.findClass]; exact g3) hk3 g2 (by rw [← ht]; exact g1) ?_ (by rw [lc_find, htab]; exact hf) kk
  intro z hz
  have := hcat (z.startPc, z.endPc, z.handlerPc, z.catchType) (by rw [← htab]; exact List.mem_map.mpr ⟨z, hz, rfl⟩)
  exact ⟨by simp only [covers]; simpa using this.1, this.2.1, this.2.2.1, hts _ this.2.2.2⟩
end LB
/-- the array that a wrapper leaves its answer in -/
abbrev eO (o : Nat) (cO : ClassId) (f : Nat → Int64) : Nat × va_E := (o, .inl (cO, 1, .inr (.inl f)))
abbrev wO (gm : Nat → Nat) (ca : Nat → ClassId) (st : BSt) (o : Nat) (cO : ClassId) (f : Nat → Int64) : va_W := eO o cO f :: wB gm ca st
abbrev tysO (ca : Nat → ClassId) (cO : ClassId) : List (ClassId × FieldType) := (cO, .long) :: tysB ca
theorem lk.tail {D : va_G} {ca : Nat → ClassId} {cO : ClassId} {s : State} (h : lk D (tysO ca cO) s) : lk D (tysB ca) s := ⟨h.1.sub [1, 2, 3, 4, 5, 6] rfl, h.2⟩
theorem wO_perm {gm : Nat → Nat} {ca : Nat → ClassId} {st : BSt} {o : Nat} {cO : ClassId} {f : Nat → Int64} : (wO gm ca st o cO f).Perm (wB gm ca st ++ [eO o cO f]) := (List.perm_append_singleton _ _).symm
theorem wO_perm' {gm : Nat → Nat} {ca : Nat → ClassId} {st : BSt} {o : Nat} {cO : ClassId} {f : Nat → Int64} : (wB gm ca st ++ [eO o cO f]).Perm (wO gm ca st o cO f) := List.perm_append_singleton _ _
section LS
variable {p : Program} {l : Launch} {e : Env} {R : Room} {s : State} {m : MethodId} {args : Array Value} {below : List Frame} {meth : Method} {c : Code} {H : Heap} {locs : List Loc} {cells slots : Nat} {Q : State → Prop}
variable {cc : ByteArray} {pc nL : Nat} {ls : Array Slot} {rest : List Value} {D : va_G} {A : Nat → Prop} {gm : Nat → Nat} {ca : Nat → ClassId} {st : BSt} {o : Nat} {cO : ClassId} {f : Nat → Int64}
theorem lo_st {x : Int64} (hx : p.tables.exec = Jvm.exec) (hb : c.code = cc) (hk : lk D (tysO ca cO) s) (hL : LWd D A (wO gm ca st o cO f) s.heap H locs) (hdg : decode cc pc = .ok (.lastore, 1))
    (kk : ∀ (H : Heap) (locs : List Loc), LWd D A (wO gm ca st o cO (vp_updL f 0 x)) s.heap H locs → W p l e R s m args below meth c H locs cells slots Q (F0 m (pc + 1) ls rest)) : W p l e R s m args below meth c H locs cells slots Q (F0 m pc ls (.long x :: .int 0 :: .ref o :: rest)) :=
  va_last hx hb hk.1 hL.1 hL.2.1 hL.2.2 0 0 rfl rfl (by unfold vp_in; decide) hdg (fun H locs hP hD hS => kk H locs ⟨hP, hD, hS⟩)
end LS
