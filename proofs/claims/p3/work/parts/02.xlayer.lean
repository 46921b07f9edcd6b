/-! CONTRACTS OF METHODS THAT RETURN OR THROW: my own layer over the kit's 'MetFree' and 'W' (the kit's 'Met' is of returning methods alone). -/
/-- the frame of an end, either way -/
def xx_E (st t : State) (L : List Loc) (k n : Nat) : Prop := st.WarmedH t.vm ∧ st.sameButNew ({ t with vm := st.vm } : State) L k n
/-- a contract: the method ends (it returns, or it throws) and 'Qc args start outcome end' -/
def MetX (l : Launch) (y : MethodName) (ws : List Cond) (rm : Room) (Pc : Array Value → State → Prop) (Qc : Array Value → State → Outcome → State → Prop) (mc ms : Nat) (free : Addr → Prop) : Prop :=
  MetFree l y (headSpec ws rm) Pc (fun _ _ _ _ _ => True) (fun a st o t => Qc a st o t ∧ ∃ L, xx_E st t L mc ms ∧ ∀ q ∈ L, free q.base)
/-- where the caller stands behind the call -/
def xx_to (U : State) (g : JFrame) (len : Nat) : Outcome → State
  | .returned v => U.setTop { g with pc := g.pc + len, stack := v.toList ++ g.stack }
  | .threw x => (U.setTop g).pushFrame (.throwing x)
/-- the end that a walk under a MetX comes to -/
def MQX (below : List Frame) (Qc : Array Value → State → Outcome → State → Prop) (a : Array Value) (s : State) (mc ms : Nat) (free : Addr → Prop) : State → Prop := fun t =>
  ∃ o, t.status = .running ∧ Ended t below o ∧ Qc a s o t ∧ ∃ L, xx_E s t L mc ms ∧ ∀ q ∈ L, free q.base
theorem MetX.ofMet {l : Launch} {y : MethodName} {ws : List Cond} {rm : Room} {Pc : Array Value → State → Prop} {Qc : Array Value → State → Outcome → State → Prop} {mc ms : Nat} {free : Addr → Prop} (h : Met l y ws rm Pc Qc mc ms free) : MetX l y ws rm Pc Qc mc ms free := by
  intro p e h1 h2 h3 s m args below h4 h5 h6 h7
  obtain ⟨n, o, a1, a2, a3, a4, L, a5, a6⟩ := h p e h1 h2 h3 s m args below h4 h5 h6 h7
  exact ⟨n, o, a1, a2, a3, a4, L, ⟨a5.2.1, a5.2.2⟩, a6⟩
section XB
variable {l : Launch} {R : Room} {p : Program} {e : Env} {below : List Frame} {s : State} {sargs : Array Value} {y : MethodName}
theorem xx_back {ws : List Cond} {rm : Room} {Pc : Array Value → State → Prop} {Qc : Array Value → State → Outcome → State → Prop} {mc ms : Nat} {free : Addr → Prop} {maxL : Nat}
    (hM : MetX l y ws rm Pc Qc mc ms free) (hblind : FrameBlind Pc) (hrc : rm.cells = mc) (hrs : rm.slots = ms)
    (hframes : rm.frames + 1 ≤ R.frames) (hlocals : 8 + (maxL + 11) + rm.locals ≤ R.locals)
    (hws : ∀ w ∈ ws, ∀ (a' : Array Value) (U : State), s.WarmedH U.vm → w.before a' U = true)
    (hcd : ∀ U : State, s.WarmedH U.vm → ∀ mk, U.methodNamed? y = some mk → ∃ meth c, U.vm.method? mk = some meth ∧ meth.code = some c ∧ c.maxLocals = maxL)
    (hinit : ∀ (a' : Array Value) (U : State), s.WarmedH U.vm → (Cond.initialized y.cls).before a' U = true)
    {m : MethodId} {meth : Method} {c : Code} {U : State} {locs : List Loc} {cells slots : Nat} (X : Stand p l e R s m sargs below meth c U locs cells slots)
    {g : JFrame} {ig : Instr} {len : Nat} {mk : MethodId} {a : Array Value} (hg : g.method = m) (hsize : g.locals.size = c.maxLocals) (hdg : decode c.code g.pc = .ok (ig, len))
    (hW : 2 * g.monitorRoom + (g.stack.map fun v => v.category).sum ≤ 8) (hn : U.methodNamed? y = some mk) (hc : cells + mc ≤ R.cells) (hs : slots + ms ≤ R.slots) (hp : Pc a U) :
    ∃ (o : Outcome) (t U' : State) (L : List Loc), U'.heap = t.heap ∧ U'.vm = t.vm ∧ Stand p l e R s m sargs below meth c U' (locs ++ L) (cells + mc) (slots + ms) ∧ (∀ q ∈ L, free q.base) ∧
      Qc a (U.calling g mk a) o t ∧ Steps p.tables e below (doInvoke e (U.setTop g) [] mk a).1 (xx_to U' g len o) := by
  obtain ⟨methY, cY, hmY, hcY, hlY⟩ := hcd U X.warmed mk hn
  obtain ⟨kY, hkY, -⟩ := className_of_methodNamed hn
  have hinitY : kY.init = .initialized := Cond.initialized_spec (findClass_of_methodNamed hn) hkY (hinit a U X.warmed)
  have h : At U g.method c below := by rw [hg]; exact X.here
  have h1 : (headSpec ws rm).pre.before a U = true := atoms_intro fun w hw => hws w hw _ _ X.warmed
  have happ : (headSpec ws rm).appliesLoose y e.platform (U.calling g mk a) = true :=
    Spec.appliesLoose_calling (g := g) h hdg hn hkY hinitY
      (X.room_calling (g := g) (R' := (headSpec ws rm).room) hsize hmY hcY hframes (by rw [hlY]; show _ + (maxL + 11) + rm.locals ≤ _; omega) (by show cells + rm.cells ≤ _; rw [hrc]; exact hc) (by show slots + rm.slots ≤ _; rw [hrs]; exact hs)) h1
  obtain ⟨mid, hmid⟩ := h.above
  have hfr : (U.setTop g).frames = (.java g :: mid) ++ below := by rw [State.frames_setTop' g h.top, hmid]; rfl
  obtain ⟨o, s₂, hsteps, -, hend, hq⟩ := Steps.callFree hM p X.admits X.cas X.clock (acts := []) hfr happ (hblind _ _ _ _ hp) trivial
  have hq' : Qc a (U.calling g mk a) o s₂ ∧ ∃ L, xx_E (U.calling g mk a) s₂ L mc ms ∧ ∀ q ∈ L, free q.base := hq
  obtain ⟨hq1, L, ⟨hW₂, e2, q2, q3, q4, q5, q6⟩, hL⟩ := hq'
  rw [State.frames_setTop' g h.top] at hend
  have e3 : s₂ = ({ (U.calling g mk a).setFrames s₂.frames with heap := s₂.heap, slotsUsed := s₂.slotsUsed } : State).setVm s₂.vm := by
    have : s₂ = ({ s₂ with vm := (U.calling g mk a).vm } : State).setVm s₂.vm := rfl
    rw [e2] at this
    exact this
  have hW' : U.WarmedH s₂.vm := hW₂
  obtain ⟨g₀, hg0⟩ := Option.isSome_iff_exists.mp h.top
  obtain ⟨r, hr⟩ := State.topJava?_eq_some.mp hg0
  have hr' : (({ U with heap := s₂.heap, slotsUsed := s₂.slotsUsed } : State).setVm s₂.vm).frames = .java g₀ :: r := hr
  have hs₂ : s₂ = xx_to (({ U with heap := s₂.heap, slotsUsed := s₂.slotsUsed } : State).setVm s₂.vm) g len o := by
    cases o with
    | returned v =>
      obtain ⟨c₂, i₂, len₂, hc₂, hd₂, hf₂⟩ := hend
      have hcc : c₂ = c := by
        have h1 : s₂.code? g.method = U.code? g.method := by
          rw [State.code?_eq, State.code?_eq, hW'.alike.method?]
        exact Option.some.inj (hc₂.symm.trans (h1.trans h.code))
      subst hcc
      have hlen : len₂ = len := by rw [hdg] at hd₂; cases hd₂; rfl
      subst hlen
      refine e3.trans ?_
      show _ = State.setTop _ _
      rw [hf₂, State.calling_eq h.top, State.setFrames_setFrames, State.setTop_of_frames _ hr', hr]
      rfl
    | threw v =>
      have hf₂ : s₂.frames = .throwing v :: .java g :: U.frames.tail := hend
      refine e3.trans ?_
      show _ = State.pushFrame (State.setTop _ _) _
      rw [hf₂, State.calling_eq h.top, State.setFrames_setFrames, State.pushFrame, State.frames_setTop _ hr', State.setTop_of_frames _ hr', State.setFrames_setFrames, hr]
      rfl
  have hsame : U.sameButNew ({ U with heap := s₂.heap, slotsUsed := s₂.slotsUsed } : State) L mc ms := by
    refine ⟨?_, q2, q3, q4, q5, q6⟩
    obtain ⟨t, ht, -⟩ := State.frames_cons hr
    show ({ U with heap := s₂.heap, slotsUsed := s₂.slotsUsed } : State) = { U.setFrames U.frames with heap := s₂.heap, slotsUsed := s₂.slotsUsed }
    rw [State.setFrames_self ht]
  subst hg
  refine ⟨o, s₂, (({ U with heap := s₂.heap, slotsUsed := s₂.slotsUsed } : State).setVm s₂.vm), L, rfl, rfl,
    ⟨X.admits, X.cas, X.clock, X.frames, X.room, X.hears, X.method, X.code, (X.here.setHeapUsed s₂.heap s₂.slotsUsed).setVm hW'.alike, X.tail, State.WarmedH.trans X.warmed hW', X.limits, X.bytes, X.same.trans (hsame.setVm s.vm)⟩, hL, hq1, ?_⟩
  rw [← hs₂]
  exact hsteps
end XB
section XR
variable {p : Program} {l : Launch} {e : Env} {R : Room} {s : State} {m : MethodId} {args : Array Value} {below : List Frame} {meth : Method} {c : Code} {H : Heap} {locs : List Loc} {cells slots : Nat} {Q : State → Prop}
/-- a call that ends, either way -/
def xx_Run (p : Program) (l : Launch) (e : Env) (R : Room) (s : State) (m : MethodId) (args : Array Value) (below : List Frame) (meth : Method) (c : Code) (H : Heap) (locs : List Loc) (cells slots mc ms : Nat) (g : JFrame) (rest : List Value) (Qa : State → Outcome → State → Prop) (free : Addr → Prop) : Prop :=
  ∀ T : State, T.heap = H → Stand p l e R s m args below meth c T locs cells slots → ∃ (o : Outcome) (st₀ t T' : State) (L : List Loc), st₀.heap = H ∧ Stand p l e R s m args below meth c T' (locs ++ L) (cells + mc) (slots + ms) ∧ (∀ q ∈ L, free q.base) ∧ T'.heap = t.heap ∧ T'.vm = t.vm ∧ Qa st₀ o t ∧
    ∀ tg, Steps p.tables e below (xx_to T' { g with stack := rest } 3 o) tg → Steps p.tables e below (T.setTop g) tg
variable {y : MethodName} {bytes cc : ByteArray} {maxL nL mc ms n index : Nat} {ret : Option FieldType} {ws : List Cond} {rm : Room} {Pc : Array Value → State → Prop} {Qc : Array Value → State → Outcome → State → Prop} {free : Addr → Prop} {Ts : List Cond} {own C : String} {b : Addr} {As rest : List Value} {g : JFrame}
theorem xx_code {bytes : ByteArray} {maxL : Nat} {ret : Option FieldType} (hws : ∀ w ∈ ws, ∀ (a' : Array Value) (U : State), s.WarmedH U.vm → w.before a' U = true) (hcw : Cond.code y bytes maxL ret ∈ ws) :
    ∀ U : State, s.WarmedH U.vm → ∀ mk, U.methodNamed? y = some mk → ∃ meth c, U.vm.method? mk = some meth ∧ meth.code = some c ∧ c.maxLocals = maxL := by
  intro U hU mk hn
  obtain ⟨meth, c, h1, h2, -, h4, -⟩ := Cond.code_spec hn (hws _ hcw #[] U hU)
  exact ⟨meth, c, h1, h2, h4⟩
theorem xx_codeW {bytes : ByteArray} {maxL : Nat} {ret : Option FieldType} {hs : List (Nat × Nat × Nat × Nat)} (hws : ∀ w ∈ ws, ∀ (a' : Array Value) (U : State), s.WarmedH U.vm → w.before a' U = true) (hcw : Cond.codeWith y bytes maxL ret hs ∈ ws) :
    ∀ U : State, s.WarmedH U.vm → ∀ mk, U.methodNamed? y = some mk → ∃ meth c, U.vm.method? mk = some meth ∧ meth.code = some c ∧ c.maxLocals = maxL := by
  intro U hU mk hn
  obtain ⟨mk', meth, c, h0, h1, h2, -, h4, -⟩ := Cond.codeWith_spec (hws _ hcw #[] U hU)
  cases hn.symm.trans h0
  exact ⟨meth, c, h1, h2, h4⟩
theorem xx_init (hini : (Cond.initialized y.cls).before args s = true) : ∀ (a' : Array Value) (U : State), s.WarmedH U.vm → (Cond.initialized y.cls).before a' U = true :=
  fun _ _ hW => word_at hW (Or.inl (by first | rfl | simp [Cond.onTables, Cond.keeps, Cond.steady])) hini
theorem xx_runV (S : CallFix p m c cc nL s args Ts own) (hM : MetX l y ws rm Pc Qc mc ms free) (cw : CallW R s args own C index y bytes maxL ret ws rm mc ms n) (hp : PreV s H C b Pc As)
    (hg : g.method = m) (hn : As.length = n) (hsize : g.locals.size = nL) (hstack : g.stack = As.reverse ++ .ref b :: rest) (hW : 2 * g.monitorRoom + (rest.map fun v => v.category).sum ≤ 8) (hdg : decode cc g.pc = .ok (.invokevirtual index, 3)) (hf : cells + mc ≤ R.cells ∧ slots + ms ≤ R.slots) :
    xx_Run p l e R s m args below meth c H locs cells slots mc ms g rest (Qc (Value.ref b :: As).toArray) free := by
  obtain ⟨⟨hrc, hrs, hfr, hlo, hws, hcw, hcode, hini, hy, hlen, hl⟩, hin, hse⟩ := cw
  obtain ⟨hx, hb, hml, ho, -⟩ := S
  obtain ⟨hbl, ⟨cellB, hcB, hoB, hclB⟩, hPc⟩ := hp
  intro T hT X
  obtain ⟨mk, methM, hnamed, hmethM, hstM, habM⟩ := Cond.instanceMethod_spec hin
  obtain ⟨methM', cM, hmethM', -, -, -, -, -, -, hsigM⟩ := Cond.code_spec hnamed hcode
  cases hmethM.symm.trans hmethM'
  obtain ⟨c2, r2, m2, q1, q2, q3, q4, kP, hkP, hkPi⟩ := Cond.selects_spec hse
  cases hclB.symm.trans q1
  cases (State.methodFound?_of_named hnamed hy).symm.trans q2
  cases hnamed.symm.trans q3
  have hselP : selectMethod e.platform s.vm cellB.cls mk = .method mk := by rw [Launch.admits_selectMethod X.admits]; exact q4
  obtain ⟨vm₁, X₁, hstep₁⟩ := X.invokevirtual hx ho hl hnamed hmethM hstM hkP hkPi hy (a := b) (cell := cellB) (by rw [hT]; exact hcB)
    (fun z h => by rw [h] at hoB; cases hoB) hselP hmethM habM hkP hkPi (g := g) hg (argsL := As) (rest := rest) (hn.trans (hlen _ hsigM)) hstack (by rw [hb]; exact hdg)
  obtain ⟨o, t, U', L, e1, e2, X', hL, hq, hst⟩ := xx_back (maxL := maxL) hM hbl hrc hrs hfr hlo hws (xx_code hws hcw) (xx_init hini) X₁ (g := { g with stack := rest }) (ig := .invokevirtual index) (len := 3) (mk := mk) (a := (Value.ref b :: As).toArray) hg (hsize.trans hml.symm) (by rw [hb]; exact hdg) hW (X₁.named hnamed) hf.1 hf.2 (hPc _ hT X₁.warmed)
  exact ⟨o, (T.setVm vm₁).calling { g with stack := rest } mk (Value.ref b :: As).toArray, t, U', L, hT, X', hL, e1, e2, hq, fun tg h => hstep₁ _ fun acts => by rw [doInvoke_state]; exact hst.trans h⟩
theorem xx_runS (S : CallFix p m c cc nL s args Ts own) (hM : MetX l y ws rm Pc Qc mc ms free) (cw : CallB R s args own index y bytes maxL ret ws rm mc ms n ∧ (Cond.static y).before args s = true) (hp : PreS s H Pc As)
    (hg : g.method = m) (hn : As.length = n) (hsize : g.locals.size = nL) (hstack : g.stack = As.reverse ++ rest) (hW : 2 * g.monitorRoom + (rest.map fun v => v.category).sum ≤ 8) (hdg : decode cc g.pc = .ok (.invokestatic index, 3)) (hf : cells + mc ≤ R.cells ∧ slots + ms ≤ R.slots) :
    xx_Run p l e R s m args below meth c H locs cells slots mc ms g rest (Qc As.toArray) free := by
  obtain ⟨⟨hrc, hrs, hfr, hlo, hws, hcw, hcode, hini, hy, hlen, hl⟩, hstt⟩ := cw
  obtain ⟨hx, hb, hml, ho, -⟩ := S
  intro T hT X
  obtain ⟨mk, hnamed⟩ := Cond.code_named hcode
  obtain ⟨methM, cM, hmethM, -, -, -, -, -, -, hsigM⟩ := Cond.code_spec hnamed hcode
  have hstatic : methM.isStatic = true := Cond.static_spec hnamed hmethM hstt
  obtain ⟨kP, hkP, -⟩ := className_of_methodNamed hnamed
  have hinitP : kP.init = .initialized := Cond.initialized_spec (findClass_of_methodNamed hnamed) hkP hini
  obtain ⟨vm₁, X₁, hstep₁⟩ := X.invokestatic hx ho hl hnamed hmethM hstatic hkP hinitP hy (g := g) hg (argsL := As) (rest := rest) (hn.trans (hlen _ hsigM)) hstack (by rw [hb]; exact hdg)
  obtain ⟨o, t, U', L, e1, e2, X', hL, hq, hst⟩ := xx_back (maxL := maxL) hM hp.1 hrc hrs hfr hlo hws (xx_code hws hcw) (xx_init hini) X₁ (g := { g with stack := rest }) (ig := .invokestatic index) (len := 3) (mk := mk) (a := As.toArray) hg (hsize.trans hml.symm) (by rw [hb]; exact hdg) hW (X₁.named hnamed) hf.1 hf.2 (hp.2 _ hT X₁.warmed)
  exact ⟨o, (T.setVm vm₁).calling { g with stack := rest } mk As.toArray, t, U', L, hT, X', hL, e1, e2, hq, fun tg h => hstep₁ _ fun acts => by rw [doInvoke_state]; exact hst.trans h⟩
/-- a static method with handlers (the law's wrappers) -/
theorem xx_runSW {hs : List (Nat × Nat × Nat × Nat)} (S : CallFix p m c cc nL s args Ts own) (hM : MetX l y ws rm Pc Qc mc ms free)
    (hrc : rm.cells = mc) (hrs : rm.slots = ms) (hR : rm.frames + 1 ≤ R.frames ∧ 8 + (maxL + 11) + rm.locals ≤ R.locals) (hws : ∀ w ∈ ws, ∀ (a' : Array Value) (U : State), s.WarmedH U.vm → w.before a' U = true) (hcw : Cond.codeWith y bytes maxL ret hs ∈ ws)
    (hini : (Cond.initialized y.cls).before args s = true) (hd : y.cls ≠ "java/lang/invoke/MethodHandle" ∧ y.cls ≠ "java/lang/invoke/VarHandle" ∧ (parseMethodDescriptor y.desc).map (fun d => d.parameters.length) = some n) (hl : (Cond.methodLink own index y).before args s = true) (hstt : (Cond.static y).before args s = true) (hp : PreS s H Pc As)
    (hg : g.method = m) (hn : As.length = n) (hsize : g.locals.size = nL) (hstack : g.stack = As.reverse ++ rest) (hW : 2 * g.monitorRoom + (rest.map fun v => v.category).sum ≤ 8) (hdg : decode cc g.pc = .ok (.invokestatic index, 3)) (hf : cells + mc ≤ R.cells ∧ slots + ms ≤ R.slots) :
    xx_Run p l e R s m args below meth c H locs cells slots mc ms g rest (Qc As.toArray) free := by
  obtain ⟨hx, hb, hml, ho, -⟩ := S
  intro T hT X
  obtain ⟨mk, methM, cM, hnamed, hmethM, -, -, -, -, -, -, hsigM⟩ := Cond.codeWith_spec (hws _ hcw args s (State.WarmedH.refl s))
  have hstatic : methM.isStatic = true := Cond.static_spec hnamed hmethM hstt
  obtain ⟨kP, hkP, -⟩ := className_of_methodNamed hnamed
  have hinitP : kP.init = .initialized := Cond.initialized_spec (findClass_of_methodNamed hnamed) hkP hini
  have hlen : n = methM.sig.parameters.length := by
    have h2 := hd.2.2
    rw [hsigM] at h2
    exact (Option.some.inj h2).symm
  obtain ⟨vm₁, X₁, hstep₁⟩ := X.invokestatic hx ho hl hnamed hmethM hstatic hkP hinitP ⟨hd.1, hd.2.1⟩ (g := g) hg (argsL := As) (rest := rest) (hn.trans hlen) hstack (by rw [hb]; exact hdg)
  obtain ⟨o, t, U', L, e1, e2, X', hL, hq, hst⟩ := xx_back (maxL := maxL) hM hp.1 hrc hrs hR.1 hR.2 hws (xx_codeW hws hcw) (xx_init hini) X₁ (g := { g with stack := rest }) (ig := .invokestatic index) (len := 3) (mk := mk) (a := As.toArray) hg (hsize.trans hml.symm) (by rw [hb]; exact hdg) hW (X₁.named hnamed) hf.1 hf.2 (hp.2 _ hT X₁.warmed)
  exact ⟨o, (T.setVm vm₁).calling { g with stack := rest } mk As.toArray, t, U', L, hT, X', hL, e1, e2, hq, fun tg h => hstep₁ _ fun acts => by rw [doInvoke_state]; exact hst.trans h⟩
theorem xx_runI (S : CallFix p m c cc nL s args Ts own) (hM : MetX l y ws rm Pc Qc mc ms free) (cw : CallB R s args own index y bytes maxL none ws rm mc ms n ∧ y.name = "<init>" ∧ (Cond.instanceMethod y).before args s = true) (hp : PreS s H Pc (.ref b :: As))
    (hg : g.method = m) (hn : As.length = n) (hsize : g.locals.size = nL) (hstack : g.stack = As.reverse ++ .ref b :: rest) (hW : 2 * g.monitorRoom + (rest.map fun v => v.category).sum ≤ 8) (hdg : decode cc g.pc = .ok (.invokespecial index, 3)) (hf : cells + mc ≤ R.cells ∧ slots + ms ≤ R.slots) :
    xx_Run p l e R s m args below meth c H locs cells slots mc ms g rest (Qc (Value.ref b :: As).toArray) free := by
  obtain ⟨⟨hrc, hrs, hfr, hlo, hws, hcw, hcode, hini, hy, hlen, hl⟩, hy1, hin⟩ := cw
  obtain ⟨hx, hb, hml, ho, -⟩ := S
  intro T hT X
  subst hg
  have hpl : e.platform.magicAccessors = ({} : Platform).magicAccessors := by rw [X.admits.platform]
  obtain ⟨mk, methM, cM, kP, vm₁, hnamed, hmethM, hcodeM, -, hlocalsM, -, hkP, -, hW₁, hstep₁⟩ := Steps.initColdArgs (e := e) X.here hx X.warmed hpl ho hy1 hy hl hin hcode (f := g) rfl (fun sig h => hn.trans (hlen sig h)) hstack (by rw [hb]; exact hdg)
  have X₁ := X.noted hW₁
  obtain ⟨o, t, U', L, e1, e2, X', hL, hq, hst⟩ := xx_back (maxL := maxL) hM hp.1 hrc hrs hfr hlo hws (xx_code hws hcw) (xx_init hini) X₁ (g := { g with stack := rest }) (ig := .invokespecial index) (len := 3) (mk := mk) (a := (Value.ref b :: As).toArray) rfl (hsize.trans hml.symm) (by rw [hb]; exact hdg) hW (X₁.named hnamed) hf.1 hf.2 (hp.2 _ hT X₁.warmed)
  exact ⟨o, (T.setVm vm₁).calling { g with stack := rest } mk (Value.ref b :: As).toArray, t, U', L, hT, X', hL, e1, e2, hq, fun tg h => hstep₁ _ fun acts => by rw [doInvoke_state]; exact hst.trans h⟩
/-- the machine with the exception x in flight at the frame g -/
def WT (p : Program) (l : Launch) (e : Env) (R : Room) (s : State) (m : MethodId) (args : Array Value) (below : List Frame) (meth : Method) (c : Code) (H : Heap) (locs : List Loc) (cells slots : Nat) (Q : State → Prop) (g : JFrame) (x : Addr) : Prop :=
  ∀ T : State, T.heap = H → Stand p l e R s m args below meth c T locs cells slots → ∃ t, Steps p.tables e below ((T.setTop g).pushFrame (.throwing x)) t ∧ Q t
/-- behind a call -/
theorem xx_call {Qa : State → Outcome → State → Prop} {pc : Nat} {ls : Array Slot} {st0 : List Value} (hr : xx_Run p l e R s m args below meth c H locs cells slots mc ms (F0 m pc ls st0) rest Qa free)
    (kr : ∀ (v : Option Value) (st₀ t : State) (L : List Loc), st₀.heap = H → s.WarmedH t.vm → (∀ q ∈ L, free q.base) → Qa st₀ (.returned v) t → W p l e R s m args below meth c t.heap (locs ++ L) (cells + mc) (slots + ms) Q (F0 m (pc + 3) ls (v.toList ++ rest)))
    (kt : ∀ (x : Addr) (st₀ t : State) (L : List Loc), st₀.heap = H → s.WarmedH t.vm → (∀ q ∈ L, free q.base) → Qa st₀ (.threw x) t → WT p l e R s m args below meth c t.heap (locs ++ L) (cells + mc) (slots + ms) Q (F0 m pc ls rest) x) :
    W p l e R s m args below meth c H locs cells slots Q (F0 m pc ls st0) := by
  intro T hT X
  obtain ⟨o, st₀, t, T', L, h0, X', hL, e1, e2, hq, st⟩ := hr T hT X
  cases o with
  | returned v =>
    obtain ⟨t2, a1, b1⟩ := kr v st₀ t L h0 (by rw [← e2]; exact X'.warmed) hL hq T' e1 X'
    exact ⟨t2, st t2 a1, b1⟩
  | threw x =>
    obtain ⟨t2, a1, b1⟩ := kt x st₀ t L h0 (by rw [← e2]; exact X'.warmed) hL hq T' e1 X'
    exact ⟨t2, st t2 a1, b1⟩
/-- the exception leaves the method: no handler covers it -/
theorem WT.out {pc : Nat} {ls : Array Slot} {st : List Value} {x : Addr} (hout : ∀ h ∈ c.exceptionTable.toList, covers h pc = false) (hlocks : meth.locks = false)
    (hq : ∀ t : State, t.heap = H → s.WarmedH t.vm → Qc args s (.threw x) t) (hf : ∀ q ∈ locs, free q.base) : WT p l e R s m args below meth c H locs cells slots (MQX below Qc args s cells slots free) (F0 m pc ls st) x := by
  intro T hT X
  obtain ⟨h1, h2, h3, h4, h5⟩ := X.leaveThrown x (g := F0 m pc ls st) rfl rfl rfl hout (hlocks := hlocks)
  exact ⟨_, h1, .threw x, h2, h3, hq _ hT h4, locs, ⟨h4, h5⟩, hf⟩
end XR
section XO
variable {p : Program} {l : Launch} {e : Env} {R : Room} {s : State} {m : MethodId} {args : Array Value} {below : List Frame} {meth : Method} {c : Code} {H : Heap} {locs : List Loc} {cells slots : Nat}
variable {y : MethodName} {cc : ByteArray} {maxL nL mc ms : Nat} {ret : Option FieldType} {ws : List Cond} {rm : Room} {Pc : Array Value → State → Prop} {Qc : Array Value → State → Outcome → State → Prop} {free : Addr → Prop}
theorem W.toX {g : JFrame} (h : W p l e R s m args below meth c H locs cells slots (MQ below Qc args s mc ms free) g) : W p l e R s m args below meth c H locs cells slots (MQX below Qc args s mc ms free) g := by
  intro T hT X
  obtain ⟨t, a1, o, b1, b2, b3, L, b4, b5⟩ := h T hT X
  exact ⟨t, a1, o, b1, b2, b3, L, ⟨b4.2.1, b4.2.2⟩, b5⟩
theorem MetX.ofW (hy : plainFor y = true) (hw : Cond.code y cc maxL ret ∈ ws)
    (body : ∀ p e s m args below meth c s₁, BodyLoose p l y (headSpec ws rm) cc maxL ret e s m args below meth c s₁ → c.maxLocals = maxL → Pc args s →
      W p l e rm s m args below meth c s.heap [] 0 0 (MQX below Qc args s mc ms free) (entryFrame m args maxL)) : MetX l y ws rm Pc Qc mc ms free := by
  refine MetFree.of_bodySF (code := cc) (maxLocals := maxL) (ret := ret) hy ?_ ?_
  · intro args s m h hn
    obtain ⟨meth, c, h1, h2, h3, h4, h5, h6, -, -⟩ := Cond.code_spec hn (atoms_spec (ws := ws) h _ hw)
    exact ⟨meth, c, h1, h2, h3, h4, h5, h6⟩
  · intro p e s m args below meth c s₁ B hml hP _
    have hh0 : s₁.heap = s.heap := by rw [B.state]; rfl
    obtain ⟨t, a1, o, b1, b2, b3⟩ := body p e s m args below meth c s₁ B hml hP s₁ hh0 (Stand.of_body B)
    exact ⟨t, o, a1, b1, b2, ⟨b3.1, b3.2⟩⟩
theorem MetX.ofWW {hs : List (Nat × Nat × Nat × Nat)} (hy : plainFor y = true) (hw : Cond.codeWith y cc maxL ret hs ∈ ws)
    (body : ∀ p e s m args below meth c s₁, BodyLoose p l y (headSpec ws rm) cc maxL ret e s m args below meth c s₁ → c.maxLocals = maxL → c.exceptionTable.toList.map (fun h => (h.startPc, h.endPc, h.handlerPc, h.catchType)) = hs → Pc args s →
      W p l e rm s m args below meth c s.heap [] 0 0 (MQX below Qc args s mc ms free) (entryFrame m args maxL)) : MetX l y ws rm Pc Qc mc ms free := by
  refine MetFree.of_bodySF (code := cc) (maxLocals := maxL) (ret := ret) hy ?_ ?_
  · intro args s m h hn
    obtain ⟨m', meth, c, h0, h1, h2, h3, h4, -, h5, h6, -⟩ := Cond.codeWith_spec (atoms_spec (ws := ws) h _ hw)
    cases hn.symm.trans h0
    exact ⟨meth, c, h1, h2, h3, h4, h5, h6⟩
  · intro p e s m args below meth c s₁ B hml hP _
    have hh0 : s₁.heap = s.heap := by rw [B.state]; rfl
    have htab : c.exceptionTable.toList.map (fun h => (h.startPc, h.endPc, h.handlerPc, h.catchType)) = hs := by
      obtain ⟨m', meth', c', h0, h1, h2, -, -, h5, -⟩ := Cond.codeWith_spec (atoms_spec (ws := ws) B.pre _ hw)
      cases B.named.symm.trans h0
      cases B.method.symm.trans h1
      cases (Stand.of_body B).code.symm.trans h2
      exact h5
    obtain ⟨t, a1, o, b1, b2, b3⟩ := body p e s m args below meth c s₁ B hml htab hP s₁ hh0 (Stand.of_body B)
    exact ⟨t, o, a1, b1, b2, ⟨b3.1, b3.2⟩⟩
/-- throw new X("..") out of a method that has written nothing: five instructions -/
theorem xx_thrownew {pc i1 i2 i3 : Nat} {ls : Array Slot} {rest : List Value} {own X tx : String} {names : List String}
    (hx : p.tables.exec = Jvm.exec) (hb : c.code = cc) (hml : c.maxLocals = nL) (htr : e.platform.stackTraces = false) (hown : s.vm.findClass own = some m.cls) (hlocks : meth.locks = false)
    (hX : Bundle.fit X = true) (hN : ∀ n ∈ names, Bundle.fit n = true) (h : ∀ w ∈ Bundle.ownAtoms own i3 X names, w.before args s = true)
    (hcl : (Cond.classLink own i1 X).before args s = true) (hini : (Cond.initialized X).before args s = true) (hst : (Cond.stringRef own i2 tx).before args s = true)
    (hout : ∀ h ∈ c.exceptionTable.toList, covers h (pc + 3 + 1 + 2 + 3) = false) (hls : ls.size = nL)
    (hcells : cells + 1 ≤ R.cells) (hslots : slots + 6 ≤ R.slots) (hfr : names.length + 3 < R.frames) (hlo : 1 + (rest.map fun v => v.category).sum + (13 * (names.length + 1) + 42) ≤ R.locals)
    (d0 : decode cc pc = .ok (.new i1, 3)) (d1 : decode cc (pc + 3) = .ok (.dup, 1)) (d2 : decode cc (pc + 3 + 1) = .ok (.ldc i2, 2)) (d3 : decode cc (pc + 3 + 1 + 2) = .ok (.invokespecial i3, 3)) (d4 : decode cc (pc + 3 + 1 + 2 + 3) = .ok (.athrow, 1))
    (hq : ∀ (x : Addr) (t : State), s.heap.size ≤ x → s.heap.size ≤ t.heap.size → (∀ q, q < s.heap.size → t.heap[q]? = s.heap[q]?) → s.WarmedH t.vm → (∃ ce : Cell, t.heap[x]? = some ce ∧ ce.vm = .none ∧ s.vm.findClass X = some ce.cls) → Qc args s (.threw x) t) :
    W p l e R s m args below meth c s.heap [] cells slots (MQX below Qc args s (cells + 1) (slots + 6) free) (F0 m pc ls rest) := by
  have hins : (Cond.instantiable X 6).before args s = true := h _ (by simp [Bundle.ownAtoms])
  obtain ⟨cX, kX, hfX, -⟩ := Cond.instantiable_spec hins
  refine W.newcK hx hb hown hcl hins hini (g := F0 m pc ls rest) rfl d0 hcells hslots hfX rfl fun H' kC hkC e1 z1 o1 => ?_
  refine W.eq (g2 := F0 m (pc + 3) ls (.ref s.heap.size :: rest)) rfl ?_
  refine lv_dup hx hb d1 rfl ?_
  obtain ⟨-, -, -, sa, -, -, -, -, -, hev⟩ := Cond.stringRef_spec hown hst
  refine va_ldcS hx hb hown (vk_R.of hst hev) d2 ?_
  intro T hT X'
  obtain ⟨U, g1, g2, g3, g4, g5, ce, g6, g7⟩ := X'.ctorThrowS hx htr hown hX hN h (fun x hx' => by cases hx') hfX hkC (a := s.heap.size) (by rw [hT]; exact e1) (Nat.le_refl _) (msg := .ref sa) rfl (g := F0 m (pc + 3 + 1 + 2) ls (.ref sa :: .ref s.heap.size :: .ref s.heap.size :: rest)) rfl (hls.trans hml.symm) rfl rfl (rest := rest) rfl (by rw [hb]; exact d3) (by rw [hb]; exact d4) hout hfr
    (by show 2 * 0 + (1 + (rest.map fun v => v.category).sum) + _ ≤ _; omega) (hlocks := hlocks)
  refine ⟨U, g1, .threw s.heap.size, g2, g3, hq s.heap.size U (Nat.le_refl _) g5.2.1 (fun q hq' => ?_) g4 ⟨ce, g6, g7.vm, g7.cls⟩, [], ⟨g4, g5⟩, fun q hq' => by cases hq'⟩
  obtain ⟨cq, hcq⟩ : ∃ cq, s.heap[q]? = some cq := ⟨_, Array.getElem?_eq_getElem hq'⟩
  rw [hcq]
  exact g5.old_cell hcq
end XO
/-! what a call ends with: .inl v: it returned v; .inr k: it threw an exception of the k-th class -/
abbrev XR : Type := Option Value ⊕ Nat
abbrev XI (v : Int32) : XR := .inl (some (.int v))
abbrev XL (v : Int64) : XR := .inl (some (.long v))
abbrev XV : XR := .inl none
def xi : Int32 ⊕ Nat → XR | .inl v => XI v | .inr k => .inr k
def xl : Int64 ⊕ Nat → XR | .inl v => XL v | .inr k => .inr k
def xu : Unit ⊕ Nat → XR | .inl _ => XV | .inr k => .inr k
def xx_nm : Nat → String
  | 0 => "java/lang/IllegalStateException"
  | 1 => "java/lang/IllegalArgumentException"
  | _ => "java/lang/IndexOutOfBoundsException"
/-- the cell x is an object of the k-th class of exceptions -/
def xx_X (k : Nat) (t : State) (x : Addr) : Prop := ∃ ce : Cell, t.heap[x]? = some ce ∧ ce.vm = .none ∧ t.vm.findClass (xx_nm k) = some ce.cls
/-- a reader's end: the heap is as it was, but for the exception -/
def xx_R (r : XR) (st : State) (o : Outcome) (t : State) : Prop := match r with
  | .inl v => o = .returned v ∧ t.heap = st.heap
  | .inr k => ∃ x, o = .threw x ∧ st.heap.size ≤ x ∧ st.heap.size ≤ t.heap.size ∧ (∀ q, q < st.heap.size → t.heap[q]? = st.heap[q]?) ∧ xx_X k t x
/-- a writer's end, but for its world -/
def xx_O (r : XR) (st : State) (o : Outcome) (t : State) : Prop := match r with
  | .inl v => o = .returned v
  | .inr k => ∃ x, o = .threw x ∧ st.heap.size ≤ x ∧ xx_X k t x
abbrev xx_Q (r : XR) : Array Value → State → Outcome → State → Prop := fun _ st o t => xx_R r st o t
theorem ifp {P : Prop} [Decidable P] {α : Type} {a b r : α} (c : P) (h : (if P then a else b) = r) : a = r := by rw [if_pos c] at h; exact h
theorem ifn {P : Prop} [Decidable P] {α : Type} {a b r : α} (c : ¬ P) (h : (if P then a else b) = r) : b = r := by rw [if_neg c] at h; exact h
theorem obs {α β : Type} {x : Option α} {K : α → Option β} {r : β} (h : x.bind K = some r) : ∃ a, x = some a ∧ K a = some r := by
  cases x with
  | none => cases h
  | some a => exact ⟨a, rfl, h⟩
/-- reads and writes of arrays: nothing where the index is out of range -/
def rdL (f : Nat → Int64) (n : Nat) (i : Int32) : Option Int64 := if i < 0 ∨ n ≤ i.toNatClampNeg then none else some (f i.toNatClampNeg)
def rdI (f : Nat → Int32) (n : Nat) (i : Int32) : Option Int32 := if i < 0 ∨ n ≤ i.toNatClampNeg then none else some (f i.toNatClampNeg)
def wrL (f : Nat → Int64) (n : Nat) (i : Int32) (x : Int64) : Option (Nat → Int64) := if i < 0 ∨ n ≤ i.toNatClampNeg then none else some (vp_updL f i.toNatClampNeg x)
def wrI (f : Nat → Int32) (n : Nat) (i : Int32) (x : Int32) : Option (Nat → Int32) := if i < 0 ∨ n ≤ i.toNatClampNeg then none else some (upd f i.toNatClampNeg x)
theorem rdL_some {β : Type} {f : Nat → Int64} {n : Nat} {i : Int32} {K : Int64 → Option β} {r : β} (h : (rdL f n i).bind K = some r) : ∃ v, f i.toNatClampNeg = v ∧ vp_in i n ∧ K v = some r := by
  unfold rdL at h
  split at h
  · cases h
  · rename_i c; exact ⟨_, rfl, c, h⟩
theorem rdI_some {β : Type} {f : Nat → Int32} {n : Nat} {i : Int32} {K : Int32 → Option β} {r : β} (h : (rdI f n i).bind K = some r) : ∃ v, f i.toNatClampNeg = v ∧ vp_in i n ∧ K v = some r := by
  unfold rdI at h
  split at h
  · cases h
  · rename_i c; exact ⟨_, rfl, c, h⟩
theorem wrL_some {β : Type} {f : Nat → Int64} {n : Nat} {i : Int32} {x : Int64} {K : (Nat → Int64) → Option β} {r : β} (h : (wrL f n i x).bind K = some r) : ∃ v, vp_updL f i.toNatClampNeg x = v ∧ vp_in i n ∧ K v = some r := by
  unfold wrL at h
  split at h
  · cases h
  · rename_i c; exact ⟨_, rfl, c, h⟩
theorem wrI_some {β : Type} {f : Nat → Int32} {n : Nat} {i : Int32} {x : Int32} {K : (Nat → Int32) → Option β} {r : β} (h : (wrI f n i x).bind K = some r) : ∃ v, upd f i.toNatClampNeg x = v ∧ vp_in i n ∧ K v = some r := by
  unfold wrI at h
  split at h
  · cases h
  · rename_i c; exact ⟨_, rfl, c, h⟩
/-- System.arraycopy of longs -/
def cpIn (sp dp n : Int32) (n0 n1 : Nat) : Prop := ¬ sp < 0 ∧ ¬ dp < 0 ∧ ¬ n < 0 ∧ sp.toNatClampNeg + n.toNatClampNeg ≤ n0 ∧ dp.toNatClampNeg + n.toNatClampNeg ≤ n1
def cpL (f : Nat → Int64) (n0 : Nat) (sp : Int32) (g : Nat → Int64) (n1 : Nat) (dp n : Int32) : Option (Nat → Int64) := if ¬ sp < 0 ∧ ¬ dp < 0 ∧ ¬ n < 0 ∧ sp.toNatClampNeg + n.toNatClampNeg ≤ n0 ∧ dp.toNatClampNeg + n.toNatClampNeg ≤ n1 then some (va_cpy f g sp.toNatClampNeg dp.toNatClampNeg n.toNatClampNeg) else none
theorem cpL_some {β : Type} {f g : Nat → Int64} {n0 n1 : Nat} {sp dp n : Int32} {K : (Nat → Int64) → Option β} {r : β} (h : (cpL f n0 sp g n1 dp n).bind K = some r) : ∃ v, va_cpy f g sp.toNatClampNeg dp.toNatClampNeg n.toNatClampNeg = v ∧ cpIn sp dp n n0 n1 ∧ K v = some r := by
  unfold cpL at h
  split at h
  · rename_i c; exact ⟨_, rfl, c, h⟩
  · cases h
/-- a call that may throw, then the rest -/
def thn {α β : Type} (x : Option (α ⊕ Nat)) (K : α → Option (β ⊕ Nat)) : Option (β ⊕ Nat) := x.bind fun r => match r with | .inl a => K a | .inr k => some (.inr k)
def thnS {α β S : Type} (st : S) (x : Option (α ⊕ Nat)) (K : α → Option ((β ⊕ Nat) × S)) : Option ((β ⊕ Nat) × S) := x.bind fun r => match r with | .inl a => K a | .inr k => some (.inr k, st)
def thnM {α β S : Type} (x : Option ((α ⊕ Nat) × S)) (K : α → S → Option ((β ⊕ Nat) × S)) : Option ((β ⊕ Nat) × S) := x.bind fun r => match r with | (.inl a, st) => K a st | (.inr k, st) => some (.inr k, st)
theorem thn_some {α β : Type} {x : Option (α ⊕ Nat)} {K : α → Option (β ⊕ Nat)} {r : β ⊕ Nat} (h : thn x K = some r) : (∃ a, x = some (.inl a) ∧ K a = some r) ∨ ∃ k, x = some (.inr k) ∧ some (.inr k) = some r := by
  obtain ⟨a, h1, h2⟩ := obs h
  rcases a with a | k
  · exact Or.inl ⟨a, h1, h2⟩
  · exact Or.inr ⟨k, h1, h2⟩
theorem thnS_some {α β S : Type} {st : S} {x : Option (α ⊕ Nat)} {K : α → Option ((β ⊕ Nat) × S)} {r : (β ⊕ Nat) × S} (h : thnS st x K = some r) : (∃ a, x = some (.inl a) ∧ K a = some r) ∨ ∃ k, x = some (.inr k) ∧ some (.inr k, st) = some r := by
  obtain ⟨a, h1, h2⟩ := obs h
  rcases a with a | k
  · exact Or.inl ⟨a, h1, h2⟩
  · exact Or.inr ⟨k, h1, h2⟩
theorem thnM_some {α β S : Type} {x : Option ((α ⊕ Nat) × S)} {K : α → S → Option ((β ⊕ Nat) × S)} {r : (β ⊕ Nat) × S} (h : thnM x K = some r) : (∃ a st, x = some (.inl a, st) ∧ K a st = some r) ∨ ∃ k st, x = some (.inr k, st) ∧ some (.inr k, st) = some r := by
  obtain ⟨⟨a, st⟩, h1, h2⟩ := obs h
  rcases a with a | k
  · exact Or.inl ⟨a, st, h1, h2⟩
  · exact Or.inr ⟨k, st, h1, h2⟩
/-- a static reference of a class: where it lies, and that it lies outside A -/
def zs (C n d : String) (A : Nat → Prop) (U : State) (H : Heap) : Prop := ∃ (c : ClassId) (k : Class) (i : Nat) (f : Field) (a : Nat) (cell : Cell) (v : Value), U.vm.findClass C = some c ∧ U.fieldFound? C n d = some (c, k, i, f) ∧ f.isStatic = true ∧ k.statics = some a ∧ k.staticTypes[f.slot]? = some f.type ∧ H[a]? = some cell ∧ cell.vm.isStatics = true ∧ cell.cls = c ∧ f.slot < cell.slots.size ∧ cell.slots[f.slot]? = some v ∧ (v = .null ∨ ∃ t, v = .ref t) ∧ ¬ A a
theorem zs.moved {C n d : String} {A : Nat → Prop} {u U : State} {H : Heap} (hvm : u.vm.Alike U.vm) (h : zs C n d A u H) : zs C n d A U H := by
  obtain ⟨c, k, i, f, a, cell, v, h0, h1, h2, h3, h4, h5⟩ := h
  obtain ⟨k', hi', he⟩ := State.fieldFound?_setVm hvm h1
  exact ⟨c, k', i, f, a, cell, v, by rw [hvm.findClass]; exact h0, hi', h2, by rw [he]; exact h3, by rw [he]; exact h4, h5⟩
theorem zs.kept {C n d : String} {A : Nat → Prop} {U : State} {H H1 : Heap} (h : zs C n d A U H) (hq : ∀ a : Nat, a < H.size → ¬ A a → H1[a]? = H[a]?) : zs C n d A U H1 := by
  obtain ⟨c, k, i, f, a, cell, v, h0, h1, h2, h3, h4, h5, h6, h7, h8, h9, h10, h11⟩ := h
  exact ⟨c, k, i, f, a, cell, v, h0, h1, h2, h3, h4, by rw [hq a (Array.getElem?_eq_some_iff.mp h5).1 h11]; exact h5, h6, h7, h8, h9, h10, h11⟩
theorem zs.narrow {C n d : String} {A B : Nat → Prop} {U : State} {H : Heap} (h : zs C n d A U H) (hAB : ∀ q, B q → A q) : zs C n d B U H := by
  obtain ⟨c, k, i, f, a, cell, v, h0, h1, h2, h3, h4, h5, h6, h7, h8, h9, h10, h11⟩ := h
  exact ⟨c, k, i, f, a, cell, v, h0, h1, h2, h3, h4, h5, h6, h7, h8, h9, h10, fun z => h11 (hAB a z)⟩
/-- no cell of a world is a cell of statics -/
theorem zs.world {C n d : String} {U : State} {H : Heap} {D : va_G} {cl : List vw_C} {ws : va_W} (hP : va_P D cl ws H) (h : zs C n d (fun _ => False) U H) : zs C n d (va_A ws H.size) U H := by
  obtain ⟨c, k, i, f, a, cell, v, h0, h1, h2, h3, h4, h5, h6, h7, h8, h9, h10, -⟩ := h
  refine ⟨c, k, i, f, a, cell, v, h0, h1, h2, h3, h4, h5, h6, h7, h8, h9, h10, fun hA => ?_⟩
  rcases hA with ⟨k, e, hk⟩ | hk
  · have hat := hP k _ hk
    cases e with
    | inl x =>
      have hat : H[a]? = some (vp_cell x.1 x.2) := hat
      rw [h5] at hat
      have he := Option.some.inj hat
      rw [he] at h6
      obtain ⟨x1, x2, x3⟩ := x
      rcases x3 with f | f | f | f | f <;> cases h6
    | inr o =>
      obtain ⟨r, -, cell', g1, g2, g3, -⟩ := hat
      rw [h5] at g1
      cases g1
      rw [g3] at h6
      cases h6
  · exact absurd (Array.getElem?_eq_some_iff.mp h5).1 (by omega)
theorem zs.of {args : Array Value} {s : State} {C n d : String} {A : Nat → Prop} (hl : (Cond.laysStatic C n d).before args s = true) (hr : (Cond.isRef (.static C n d)).before args s = true) (hA : ∀ a : Nat, a < s.heap.size → ¬ A a) : zs C n d A s s.heap := by
  obtain ⟨c, k, i, f, a, cell, hc, hi, hst, ha, hcell, hs, hcls, hlt, hty⟩ := Cond.laysStatic_spec hl
  obtain ⟨u, hu⟩ := Cond.staticRefV hi hst ha hcell hs hr
  refine ⟨c, k, i, f, a, cell, u.v, hc, hi, hst, ha, hty, hcell, hs, hcls, hlt, hu, ?_, hA a (Array.getElem?_eq_some_iff.mp hcell).1⟩
  obtain ⟨w, hw⟩ := u
  cases w <;> first | exact Or.inl rfl | exact Or.inr ⟨_, rfl⟩ | (simp [Value.isRef] at hw)
theorem zs.lays {C n d : String} {A : Nat → Prop} {s : State} {args : Array Value} (h : zs C n d A s s.heap) : (Cond.laysStatic C n d).before args s = true := by
  obtain ⟨c, k, i, f, a, cell, v, h0, h1, h2, h3, h4, h5, h6, h7, h8, h9, h10, h11⟩ := h
  simp [Cond.before, Cond.holds, Cond.value, h0, h1, h2, h3, h4, h5, h6, h7, h8]
theorem zs.isRef {C n d : String} {A : Nat → Prop} {s : State} {args : Array Value} (h : zs C n d A s s.heap) : (Cond.isRef (.static C n d)).before args s = true := by
  obtain ⟨c, k, i, f, a, cell, v, h0, h1, h2, h3, h4, h5, h6, h7, h8, h9, hv, h11⟩ := h
  rcases hv with rfl | ⟨t, rfl⟩ <;> simp [Cond.before, Cond.holds, Cond.value, Term.eval, State.fieldNamed?, h1, h2, h3, h5, h6, h9]
/-- the two statics of Throwable that a constructor reads -/
def zz (A : Nat → Prop) (U : State) (H : Heap) : Prop := zs "java/lang/Throwable" "UNASSIGNED_STACK" "[Ljava/lang/StackTraceElement;" A U H ∧ zs "java/lang/Throwable" "SUPPRESSED_SENTINEL" "Ljava/util/List;" A U H
theorem zz.moved {A : Nat → Prop} {u U : State} {H : Heap} (hvm : u.vm.Alike U.vm) (h : zz A u H) : zz A U H := ⟨zs.moved hvm h.1, zs.moved hvm h.2⟩
theorem zz.kept {A : Nat → Prop} {U : State} {H H1 : Heap} (h : zz A U H) (hq : ∀ a : Nat, a < H.size → ¬ A a → H1[a]? = H[a]?) : zz A U H1 := ⟨zs.kept h.1 hq, zs.kept h.2 hq⟩
theorem zz.narrow {A B : Nat → Prop} {U : State} {H : Heap} (h : zz A U H) (hAB : ∀ q, B q → A q) : zz B U H := ⟨zs.narrow h.1 hAB, zs.narrow h.2 hAB⟩
theorem zz.at {A : Nat → Prop} {s U : State} {H : Heap} {locs : List Loc} (h : zz A s s.heap) (hS : va_S A s.heap H locs) (hU : U.heap = H) (hvm : s.vm.Alike U.vm) : zz (fun _ => False) U U.heap := by
  rw [hU]
  exact ((h.kept hS.2.1).narrow (fun _ z => z.elim)).moved hvm
theorem zz.world {U : State} {H : Heap} {D : va_G} {cl : List vw_C} {ws : va_W} (hP : va_P D cl ws H) (h : zz (fun _ => False) U H) : zz (va_A ws H.size) U H := ⟨zs.world hP h.1, zs.world hP h.2⟩
/-- words that hold on under warmer tables, whatever the heap -/
def xgood : Cond → Bool
  | .arrayClass _ => true
  | .stringRef .. => true
  | w => w.onTables && w.keepsFace
theorem xword {args a' : Array Value} {s U : State} (hW : s.WarmedH U.vm) {c : Cond} (hc : xgood c = true) (h : c.before args s = true) : c.before a' U = true := by
  have key : ∀ c : Cond, (c.onTables && c.keepsFace) = true → c.before args s = true → c.before a' U = true := by
    intro c hc h
    simp only [Bool.and_eq_true] at hc
    have h1 := Cond.before_shiftedFace (State.Shifted.of_warmed hW) c hc.2 h
    rw [Cond.onTables_vm (A' := a') (U' := U) U.vm c hc.1, State.setVm_self] at h1
    exact h1
  cases c
  case arrayClass ty =>
    have h1 : (Cond.arrayClass ty).before args (s.setVm U.vm) = true := Cond.before_shiftedFace (State.Shifted.of_warmed hW) _ rfl h
    exact h1
  case stringRef own k tx =>
    have h1 := Cond.stringRef_warmed hW h
    exact h1
  all_goals exact key _ hc h
theorem WT.widen {p : Program} {l : Launch} {e : Env} {R : Room} {s : State} {m : MethodId} {args : Array Value} {below : List Frame} {meth : Method} {c : Code} {H : Heap} {locs : List Loc} {cells slots : Nat} {Q : State → Prop} {g : JFrame} {x : Addr} {k n : Nat} (h1 : cells ≤ k) (h2 : slots ≤ n) (kk : WT p l e R s m args below meth c H locs k n Q g x) : WT p l e R s m args below meth c H locs cells slots Q g x := fun T hT X => kk T hT (stand_widen X h1 h2)
/-! AN EXCEPTION IS CAUGHT: the method's own table is searched, its entries one by one; the classes that they name are resolved on the way -/
section XC
/-- the search among the entries es ends with h, and leaves the tables vm' -/
def xGo (e : Env) (S : State) (f : JFrame) (a : Addr) (es : List ExceptionTableEntry) (h : Handler) (vm' : Vm) : Prop :=
  ∀ (Q : Handler → Pre) (E : CtlPost) (d : Bool) (acts : List Action), wp (findHandler.go f a es) Q E e d acts S ↔ Q h d acts (S.setVm vm')
variable {e : Env} {S : State} {f : JFrame} {a : Addr}
theorem xGo.hit {x : ExceptionTableEntry} {t : List ExceptionTableEntry} {c : ClassId} {cell : Cell} (hx : covers x f.pc = true) (h0 : x.catchType ≠ 0)
    (hl : S.vm.ClassLinks e.platform f.method.cls x.catchType c) (hcell : S.heap[a]? = some cell) (hobj : ∀ k, cell.vm ≠ .statics k)
    (hk : ∃ k, S.vm.classes[cell.cls]? = some k) (hc : ∃ k, S.vm.classes[c]? = some k) (hfit : S.vm.assignable cell.cls c = true) :
    xGo e S f a (x :: t) (.found x.handlerPc) (S.vm.noted f.method.cls x.catchType (.cls c)) := by
  intro Q E d acts
  simp only [covers] at hx
  obtain ⟨ha, ht⟩ := (resolveClass_links e.toSetting hl).op (op := VmOp.resolveClass f.method.cls x.catchType) rfl
  have hal : S.vm.Alike (S.vm.noted f.method.cls x.catchType (.cls c)) := (Vm.Alike.refl S.vm).noted _ _ _
  obtain ⟨k1, hk1⟩ := hk
  obtain ⟨k2, hk2⟩ := hc
  obtain ⟨k1', hk1', -⟩ := hal.2.2 _ _ hk1
  obtain ⟨k2', hk2', -⟩ := hal.2.2 _ _ hk2
  have hfit' : (S.vm.noted f.method.cls x.catchType (.cls c)).assignable cell.cls c = true := by rw [hal.assignable]; exact hfit
  simp [findHandler.go, hx, h0, ha, ht, hcell, hobj, hk1', hk2', hfit', VmOp.dirties, VmOp.acts]
theorem xGo.pass {x : ExceptionTableEntry} {t : List ExceptionTableEntry} {c : ClassId} {cell : Cell} {h : Handler} {vm' : Vm} (hx : covers x f.pc = true) (h0 : x.catchType ≠ 0)
    (hl : S.vm.ClassLinks e.platform f.method.cls x.catchType c) (hcell : S.heap[a]? = some cell) (hobj : ∀ k, cell.vm ≠ .statics k)
    (hk : ∃ k, S.vm.classes[cell.cls]? = some k) (hc : ∃ k, S.vm.classes[c]? = some k) (hfit : S.vm.assignable cell.cls c = false)
    (hrest : xGo e (S.setVm (S.vm.noted f.method.cls x.catchType (.cls c))) f a t h vm') : xGo e S f a (x :: t) h vm' := by
  intro Q E d acts
  simp only [covers] at hx
  obtain ⟨ha, ht⟩ := (resolveClass_links e.toSetting hl).op (op := VmOp.resolveClass f.method.cls x.catchType) rfl
  have hal : S.vm.Alike (S.vm.noted f.method.cls x.catchType (.cls c)) := (Vm.Alike.refl S.vm).noted _ _ _
  obtain ⟨k1, hk1⟩ := hk
  obtain ⟨k2, hk2⟩ := hc
  obtain ⟨k1', hk1', -⟩ := hal.2.2 _ _ hk1
  obtain ⟨k2', hk2', -⟩ := hal.2.2 _ _ hk2
  have hfit' : (S.vm.noted f.method.cls x.catchType (.cls c)).assignable cell.cls c = false := by rw [hal.assignable]; exact hfit
  have hr := hrest Q E
  simp only [State.setVm_twice] at hr
  simp [findHandler.go, hx, h0, ha, ht, hcell, hobj, hk1', hk2', hfit', VmOp.dirties, VmOp.acts]
  exact hr _ _
theorem xGo.step {tb : Tables} {s target : State} {g : JFrame} {c : Code} {meth : Method} {below : List Frame} {x : Addr} (h : At s g.method c below) (hm : s.vm.method? g.method = some meth) (hc : meth.code = some c) {pc : Nat} {vm' : Vm}
    (hfind : xGo e ((s.setTop g).pushFrame (.throwing x)) g x c.exceptionTable.toList (.found pc) vm') (hrest : Steps tb e below ((s.setVm vm').setTop { g with pc := pc, stack := [.ref x] }) target) :
    Steps tb e below ((s.setTop g).pushFrame (.throwing x)) target := by
  have hf : ∀ (Q : Handler → Pre) (E : CtlPost) (d : Bool) (acts : List Action), wp (findHandler g x) Q E e d acts ((s.setTop g).pushFrame (.throwing x)) ↔ Q (.found pc) d acts (((s.setTop g).pushFrame (.throwing x)).setVm vm') := by
    intro Q E d acts
    rw [W.findHandler_eq (s := (s.setTop g).pushFrame (.throwing x)) (meth := meth) (code := c) (by rw [Stand.throwing_vm]; exact hm) hc]
    exact hfind Q E d acts
  obtain ⟨hgo, hw⟩ := h.throwing x
  refine Steps.head hgo hw ?_
  rw [stepThread_throwing (frames_entered h.top _)]
  have hstep : ∀ r, (stepThrowing e ((s.setTop g).pushFrame (.throwing x)) x (.java g :: r)).Is ((((s.setTop g).pushFrame (.throwing x)).setVm vm').setFrames (.java { g with pc := pc, stack := [.ref x] } :: r)) [] := by
    intro r
    simp only [stepThrowing, searchFrame, vmDo]
    generalize hr : Sem.go _ e false [] ((s.setTop g).pushFrame (.throwing x)) = res
    obtain ⟨as, rfl, ha⟩ := Sem.eq_ok_of hr (a := Handler.found pc) (s' := ((s.setTop g).pushFrame (.throwing x)).setVm vm') (acts' := []) (by simp [hf _ _ _ _])
    exact ⟨rfl, ha⟩
  rw [(hstep _).1]
  obtain ⟨g₀, hg⟩ := Option.isSome_iff_exists.mp h.top
  obtain ⟨r, hr⟩ := State.topJava?_eq_some.mp hg
  have hr' : (s.setVm vm').frames = .java g₀ :: r := hr
  have key : ∀ (u : State) (F G : List Frame), ((u.setFrames F).setVm vm').setFrames G = (u.setVm vm').setFrames G := by
    intro u F G
    have h1 : (u.setFrames F).setVm vm' = (u.setVm vm').setFrames F := rfl
    rw [h1, State.setFrames_setFrames]
  rw [State.setTop_of_frames _ hr'] at hrest
  rw [hr, List.tail_cons, State.pushFrame, key, State.setTop_of_frames _ hr, key]
  exact hrest
end XC
