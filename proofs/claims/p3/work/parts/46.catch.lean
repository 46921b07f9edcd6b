/-! AN EXCEPTION OF THE THREE CLASSES IS CAUGHT, in the form of a walk -/
section CT
/-- none of the three classes is under another -/
def nc (U : State) : Prop := ∀ (i j : Nat) (c d : ClassId), i < 3 → j < 3 → i ≠ j → U.vm.findClass (xx_nm i) = some c → U.vm.findClass (xx_nm j) = some d → U.vm.assignable c d = false
theorem nc.moved {u U : State} (hvm : u.vm.Alike U.vm) (h : nc u) : nc U := by
  intro i j c d hi hj hij hc hd
  rw [hvm.findClass] at hc hd
  rw [hvm.assignable]
  exact h i j c d hi hj hij hc hd
theorem nc.of {args : Array Value} {s : State} (h : ∀ i j : Nat, i < 3 → j < 3 → i ≠ j → (Cond.not (.castable (xx_nm i) (xx_nm j))).before args s = true) : nc s := by
  intro i j c d hi hj hij hc hd
  have := h i j hi hj hij
  simpa [Cond.before, Cond.holds, Cond.value, hc, hd] using this
/-- a class of the three is its own -/
theorem sf_of {args : Array Value} {s : State} {k : Nat} {c : ClassId} (h : (Cond.castable (xx_nm k) (xx_nm k)).before args s = true) (hc : s.vm.findClass (xx_nm k) = some c) : s.vm.assignable c c = true := by
  simpa [Cond.before, Cond.holds, Cond.value, hc] using h
theorem xGo.find {e : Env} {f : JFrame} {a : Addr} {s : State} {args : Array Value} {own : String} {ce : Cell} {k : Nat} {cat : Nat → Nat} (hown : s.vm.findClass own = some f.method.cls) (hpl : e.platform.magicAccessors = ({} : Platform).magicAccessors)
    (hnc : nc s) (hself : s.vm.assignable ce.cls ce.cls = true) (hk : s.vm.findClass (xx_nm k) = some ce.cls) (hk3 : k < 3) (hvm : ce.vm = .none) (es : List ExceptionTableEntry) :
    ∀ (S : State), s.WarmedH S.vm → S.heap[a]? = some ce → (∀ x ∈ es, covers x f.pc = true ∧ x.catchType ≠ 0 ∧ cat x.catchType < 3 ∧ (Cond.classLink own x.catchType (xx_nm (cat x.catchType))).before args s = true) →
    ∀ h : Nat, (es.find? (fun x => cat x.catchType == k)).map (fun x => x.handlerPc) = some h → ∃ vm', s.WarmedH vm' ∧ xGo e S f a es (.found h) vm' := by
  induction es with
  | nil => intro S _ _ _ h hh; simp at hh
  | cons x t ih =>
    intro S hW hce hes h hh
    obtain ⟨h1, h2, h3, h4⟩ := hes x List.mem_cons_self
    obtain ⟨c', hc', hcl⟩ := Cond.classLink_spec hown h4 e.platform hpl
    obtain ⟨dk, _, _, kt, hd, _, _, _, _, hkt, _, hopen⟩ := hcl.here
    have hcl₀ := hW.classLinks hcl
    have hW' : s.WarmedH (S.vm.noted f.method.cls x.catchType (.cls c')) := hW.noted hd hopen (State.rightAt_cls hcl)
    have hkc : ∃ z, S.vm.classes[c']? = some z := by
      obtain ⟨z, hz, -⟩ := hW.alike.2.2 _ _ hkt
      exact ⟨z, hz⟩
    have hkk : ∃ z, S.vm.classes[ce.cls]? = some z := by
      obtain ⟨z0, hz0⟩ : ∃ z, s.vm.classes[ce.cls]? = some z := by
        exact Vm.classAt_of_findClass hk
      obtain ⟨z, hz, -⟩ := hW.alike.2.2 _ _ hz0
      exact ⟨z, hz⟩
    have hobj : ∀ k, ce.vm ≠ .statics k := by intro k hk; rw [hvm] at hk; cases hk
    by_cases hq : cat x.catchType = k
    · rw [hq] at hc'
      cases hk.symm.trans hc'
      simp [List.find?, hq] at hh
      subst hh
      exact ⟨_, hW', xGo.hit h1 h2 hcl₀ hce hobj hkk hkc (by rw [hW.alike.assignable]; exact hself)⟩
    · have hq' : (cat x.catchType == k) = false := by simpa using hq
      simp only [List.find?, hq'] at hh
      obtain ⟨vm', g1, g2⟩ := ih (S.setVm (S.vm.noted f.method.cls x.catchType (.cls c'))) hW' hce (fun y hy => hes y (List.mem_cons_of_mem _ hy)) h hh
      exact ⟨vm', g1, xGo.pass h1 h2 hcl₀ hce hobj hkk hkc (by rw [hW.alike.assignable]; exact hnc k _ _ _ hk3 h3 (fun z => hq z.symm) hk hc') g2⟩
variable {p : Program} {l : Launch} {e : Env} {R : Room} {s : State} {m : MethodId} {args : Array Value} {below : List Frame} {meth : Method} {c : Code} {H : Heap} {locs : List Loc} {cells slots : Nat} {Q : State → Prop}
theorem WT.catch {pc h k : Nat} {ls : Array Slot} {st : List Value} {x : Addr} {ce : Cell} {own : String} {cat : Nat → Nat} (hown : s.vm.findClass own = some m.cls) (hnc : nc s) (hself : (Cond.castable (xx_nm k) (xx_nm k)).before args s = true) (hk : s.vm.findClass (xx_nm k) = some ce.cls) (hk3 : k < 3) (hvm : ce.vm = .none) (hce : H[x]? = some ce)
    (hes : ∀ x ∈ c.exceptionTable.toList, covers x pc = true ∧ x.catchType ≠ 0 ∧ cat x.catchType < 3 ∧ (Cond.classLink own x.catchType (xx_nm (cat x.catchType))).before args s = true)
    (hh : (c.exceptionTable.toList.find? (fun x => cat x.catchType == k)).map (fun x => x.handlerPc) = some h)
    (kk : W p l e R s m args below meth c H locs cells slots Q (F0 m h ls [.ref x])) : WT p l e R s m args below meth c H locs cells slots Q (F0 m pc ls st) x := by
  intro T hT X
  have hpl : e.platform.magicAccessors = ({} : Platform).magicAccessors := by rw [X.admits.platform]
  obtain ⟨vm', hW', hgo⟩ := xGo.find (f := F0 m pc ls st) (a := x) (cat := cat) (args := args) hown hpl hnc (sf_of hself hk) hk hk3 hvm c.exceptionTable.toList ((T.setTop (F0 m pc ls st)).pushFrame (.throwing x)) (by rw [Stand.throwing_vm]; exact X.warmed) (by show T.heap[x]? = _; rw [hT]; exact hce) hes h hh
  obtain ⟨t, a1, b1⟩ := kk (T.setVm vm') hT (X.noted hW')
  exact ⟨t, xGo.step (g := F0 m pc ls st) X.here X.method' X.code hgo a1, b1⟩
end CT
