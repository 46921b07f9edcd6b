/-! WORLDS OF THE LAW: a callee's world is a part of the caller's, up to the order -/
section LP
variable {D : va_G} {cl : List vw_C} {A : Nat → Prop} {ws ws' wc wr w1 : va_W} {H H1 : Heap} {sz : Nat}
theorem lp_mem (h : ∀ q ∈ ws, va_at D cl q H) : va_P D cl ws H := fun _ q hk => h q (List.mem_of_getElem? hk)
theorem lp_of (h : va_P D cl ws H) : ∀ q ∈ ws, va_at D cl q H := by
  intro q hq
  obtain ⟨k, hk⟩ := List.getElem?_of_mem hq
  exact h k q hk
theorem ld_of (h : va_D A ws) : (ws.map Prod.fst).Nodup ∧ ∀ q ∈ ws, A q.1 := by
  refine ⟨?_, ?_⟩
  · rw [List.Nodup, List.pairwise_iff_getElem]
    intro i j hi hj hij he
    have hj' : j < ws.length := by simpa using hj
    have hi' : i < ws.length := by simpa using hi
    rw [List.getElem_map, List.getElem_map] at he
    have := h.1 i j _ _ (List.getElem?_eq_getElem hi') (List.getElem?_eq_getElem hj') he
    omega
  · intro q hq
    obtain ⟨k, hk⟩ := List.getElem?_of_mem hq
    exact h.2 k q hk
theorem ld_mem (h1 : (ws.map Prod.fst).Nodup) (h2 : ∀ q ∈ ws, A q.1) : va_D A ws := by
  refine ⟨?_, fun k q hk => h2 q (List.mem_of_getElem? hk)⟩
  intro i j p q hp hq he
  have hi : i < ws.length := (List.getElem?_eq_some_iff.mp hp).1
  have hj : j < ws.length := (List.getElem?_eq_some_iff.mp hq).1
  have e1 : (ws.map Prod.fst)[i]'(by simpa using hi) = p.1 := by rw [List.getElem_map, (List.getElem?_eq_some_iff.mp hp).2]
  have e2 : (ws.map Prod.fst)[j]'(by simpa using hj) = p.1 := by rw [List.getElem_map, (List.getElem?_eq_some_iff.mp hq).2, he]
  rw [List.Nodup, List.pairwise_iff_getElem] at h1
  rcases Nat.lt_trichotomy i j with h | h | h
  · exact absurd (e1.trans e2.symm) (h1 i j (by simpa using hi) (by simpa using hj) h)
  · exact h
  · exact absurd (e2.trans e1.symm) (h1 j i (by simpa using hj) (by simpa using hi) h)
theorem lp_perm (h : ws.Perm ws') (hP : va_P D cl ws H) : va_P D cl ws' H := lp_mem (fun q hq => lp_of hP q (h.mem_iff.mpr hq))
theorem ld_perm (h : ws.Perm ws') (hD : va_D A ws) : va_D A ws' := ld_mem ((h.map Prod.fst).nodup_iff.mp (ld_of hD).1) (fun q hq => (ld_of hD).2 q (h.mem_iff.mpr hq))
theorem lp_left (h : va_P D cl (wc ++ wr) H) : va_P D cl wc H := lp_mem (fun q hq => lp_of h q (List.mem_append_left _ hq))
theorem lp_right (h : va_P D cl (wc ++ wr) H) : va_P D cl wr H := lp_mem (fun q hq => lp_of h q (List.mem_append_right _ hq))
theorem ld_left (h : va_D A (wc ++ wr)) : va_D A wc := by
  have := ld_of h
  rw [List.map_append] at this
  exact ld_mem (List.nodup_append.mp this.1).1 (fun q hq => this.2 q (List.mem_append_left _ hq))
theorem ld_right (h : va_D A (wc ++ wr)) : va_D A wr := by
  have := ld_of h
  rw [List.map_append] at this
  exact ld_mem (List.nodup_append.mp this.1).2.1 (fun q hq => this.2 q (List.mem_append_right _ hq))
theorem la_apart (hD : va_D A (wc ++ wr)) (hP : va_P D cl (wc ++ wr) H) {q : Nat × va_E} (hq : q ∈ wr) : ¬ va_A wc H.size q.1 := by
  intro h
  rcases h with ⟨k, e, hk⟩ | h
  · have := (ld_of hD).1
    rw [List.map_append] at this
    exact (List.nodup_append.mp this).2.2 q.1 (List.mem_map.mpr ⟨(q.1, e), List.mem_of_getElem? hk, rfl⟩) q.1 (List.mem_map.mpr ⟨q, hq, rfl⟩) rfl
  · have := (lp_of hP q (List.mem_append_right _ hq)).lt
    omega
/-- behind a callee: its world as it left it, the rest as it was -/
theorem lx_join (hP : va_P D cl (wc ++ wr) H) (hD : va_D A (wc ++ wr)) (hk : ∀ q : Nat, q < H.size → ¬ va_A wc H.size q → H1[q]? = H[q]?) (hF : ∀ q, va_A wc H.size q → A q) (hP1 : va_P D cl w1 H1) (hD1 : va_D (va_A wc H.size) w1) : va_P D cl (w1 ++ wr) H1 ∧ va_D A (w1 ++ wr) := by
  refine ⟨hP1.app ?_, (hD1.weaken (fun _ _ _ h => hF _ h)).app (ld_right hD) ?_⟩
  · exact lp_mem (fun q hq => (lp_of hP q (List.mem_append_right _ hq)).kept (hk _ (lp_of hP q (List.mem_append_right _ hq)).lt (la_apart hD hP hq)))
  · intro i j p q hp hq he
    exact la_apart hD hP (List.mem_of_getElem? hq) (by rw [← he]; exact hD1.2 i p hp)
end LP
section LM
variable {l : Launch} {y : MethodName} {rm : Room} {D : va_G} {tys : List (ClassId × FieldType)} {As : List Value} {ws ws' : va_W} {r : XR}
theorem MetX.imp {wsc : List Cond} {Pc Pc' : Array Value → State → Prop} {Qc Qc' : Array Value → State → Outcome → State → Prop} {mc ms : Nat} {free free' : Addr → Prop} (h : MetX l y wsc rm Pc Qc mc ms free) (hp : ∀ a s, Pc' a s → Pc a s) (hq : ∀ a s o t, Pc' a s → Qc a s o t → Qc' a s o t) (hf : ∀ q, free q → free' q) : MetX l y wsc rm Pc' Qc' mc ms free' := by
  intro p e ha hc hk s m args below hfr happ hP hK
  obtain ⟨n, o, h1, h2, h3, h4, L, h5, h6⟩ := h p e ha hc hk s m args below hfr happ (hp _ _ hP) hK
  exact ⟨n, o, h1, h2, h3, hq _ _ _ _ hP h4, L, h5, fun q z => hf _ (h6 q z)⟩
/-- what stands beside the world -/
def lk (D : va_G) (tys : List (ClassId × FieldType)) (U : State) : Prop := va_K D vwCl tys U ∧ zz (fun _ => False) U U.heap ∧ nc U
theorem lk.moved {u U : State} (hh : U.heap = u.heap) (hvm : u.vm.Alike U.vm) (h : lk D tys u) : lk D tys U := ⟨va_K.moved hvm h.1, by rw [hh]; exact h.2.1.moved hvm, h.2.2.moved hvm⟩
def lm_Q (D : va_G) (A : Nat → Prop) (r : XR) (ws' : va_W) : Array Value → State → Outcome → State → Prop := fun _ s0 o t => xx_O r s0 o t ∧ va_P D vwCl ws' t.heap ∧ va_D A ws' ∧ va_F A s0 t
/-- a contract over a world: from ws to ws', with r -/
def LM (l : Launch) (y : MethodName) (rm : Room) (D : va_G) (tys : List (ClassId × FieldType)) (As : List Value) (ws : va_W) (r : XR) (ws' : va_W) : Prop :=
  ∀ sz : Nat, MetX l y lw_g rm (va_Pc As (fun U => U.heap.size = sz ∧ (va_P D vwCl ws U.heap ∧ lk D tys U) ∧ va_D (fun _ => True) ws)) (lm_Q D (va_A ws sz) r ws') rm.cells rm.slots (va_A ws sz)
theorem MM.lm {gm : Nat → Nat} {ca : Nat → ClassId} {st st' : BSt} (h : MM l y rm D gm ca As st r st') : LM l y rm D (tysB ca) (.ref (gm 0) :: As) (wB gm ca st) r (wB gm ca st') := by
  intro sz
  refine MetX.imp (h sz) (fun a s hp => ?_) (fun a s o t hp hq => hq) (fun q z => z)
  exact ⟨hp.1, hp.2.1, ⟨hp.2.2.1.1, hp.2.2.1.2.1, hp.2.2.1.2.2.1⟩, hp.2.2.2⟩
theorem MMm.lm {gm : Nat → Nat} {ca : Nat → ClassId} {st st' : MSt} (h : MMm l y rm D gm ca As st r st') : LM l y rm D (tysM ca) (.ref (gm 0) :: As) (wM gm ca st) r (wM gm ca st') := by
  intro sz
  refine MetX.imp (h sz) (fun a s hp => ?_) (fun a s o t hp hq => hq) (fun q z => z)
  exact ⟨hp.1, hp.2.1, ⟨hp.2.2.1.1, hp.2.2.1.2.1, hp.2.2.1.2.2.1⟩, hp.2.2.2⟩
theorem lr_end {s t : State} {o : Outcome} (hP : va_P D vwCl ws s.heap) (hD : va_D (fun _ => True) ws) (hq : xx_R r s o t) : lm_Q D (va_A ws s.heap.size) r ws #[] s o t := by
  cases r with
  | inl v =>
    obtain ⟨h1, h2⟩ := hq
    exact ⟨h1, by rw [h2]; exact hP, hD.self, by rw [h2]; exact Nat.le_refl _, fun q _ _ => by rw [h2]⟩
  | inr k =>
    obtain ⟨x, h1, h2, h3, h4, h5⟩ := hq
    exact ⟨⟨x, h1, h2, h5⟩, hP.kept (fun k q hk => h4 _ ((hP k q hk).lt)), hD.self, h3, fun q hq _ => h4 q hq⟩
theorem RM.lm {gm : Nat → Nat} {ca : Nat → ClassId} {st : BSt} (h : RM l y rm D gm ca As st r) : LM l y rm D (tysB ca) (.ref (gm 0) :: As) (wB gm ca st) r (wB gm ca st) := by
  intro sz
  refine MetX.imp h (fun a s hp => ?_) (fun a s o t hp hq => ?_) (fun q z => z.elim)
  · exact ⟨hp.1, hp.2.2.1.1, hp.2.2.1.2.1, hp.2.2.1.2.2.1⟩
  · obtain ⟨-, rfl, ⟨hP, -⟩, hD⟩ := hp
    exact lr_end hP hD hq
theorem RMm.lm {gm : Nat → Nat} {ca : Nat → ClassId} {st : MSt} (h : RMm l y rm D gm ca As st r) : LM l y rm D (tysM ca) (.ref (gm 0) :: As) (wM gm ca st) r (wM gm ca st) := by
  intro sz
  refine MetX.imp h (fun a s hp => ?_) (fun a s o t hp hq => ?_) (fun q z => z.elim)
  · exact ⟨hp.1, hp.2.2.1.1, hp.2.2.1.2.1, hp.2.2.1.2.2.1⟩
  · obtain ⟨-, rfl, ⟨hP, -⟩, hD⟩ := hp
    exact lr_end hP hD hq
end LM
section LR
variable {p : Program} {l : Launch} {e : Env} {R : Room} {s : State} {m : MethodId} {args : Array Value} {below : List Frame} {meth : Method} {c : Code} {H : Heap} {locs : List Loc} {cells slots : Nat} {Q : State → Prop}
variable {cc : ByteArray} {pc nL : Nat} {ls : Array Slot} {rest st0 : List Value} {D : va_G} {A : Nat → Prop} {tys tyc : List (ClassId × FieldType)} {L L' wc wr w1 : va_W}
variable {y : MethodName} {rm : Room} {bytes : ByteArray} {maxL idx n : Nat} {ret : Option FieldType} {As : List Value} {r : XR} {own C : String}
/-- the law's world on the way -/
def LWd (D : va_G) (A : Nat → Prop) (L : va_W) (H0 H : Heap) (locs : List Loc) : Prop := va_P D vwCl L H ∧ va_D A L ∧ va_S A H0 H locs
theorem lm_pre (hk : lk D tyc s) (hZ : zz A s s.heap) (hL : LWd D A L s.heap H locs) (hc : L.Perm (wc ++ wr)) : ∀ U : State, U.heap = H → s.WarmedH U.vm → va_Pc As (fun U => U.heap.size = H.size ∧ (va_P D vwCl wc U.heap ∧ lk D tyc U) ∧ va_D (fun _ => True) wc) As.toArray U := by
  intro U hU hW
  refine ⟨rfl, by rw [hU], ⟨by rw [hU]; exact lp_left (lp_perm hc hL.1), va_K.moved hW.alike hk.1, hZ.at hL.2.2 hU hW.alike, hk.2.2.moved hW.alike⟩, (ld_left (ld_perm hc hL.2.1)).weaken (fun _ _ _ _ => trivial)⟩
theorem lm_blind {sz : Nat} : FrameBlind (va_Pc As (fun U => U.heap.size = sz ∧ (va_P D vwCl wc U.heap ∧ lk D tyc U) ∧ va_D (fun _ => True) wc)) := fun a U g mk q => ⟨q.1, q.2.1, ⟨q.2.2.1.1, q.2.2.1.2.moved rfl (Vm.Alike.refl U.vm)⟩, q.2.2.2⟩
theorem lm_runV {b q0 ci : Nat} {cq : vw_C} {fs : List Value} (hM : LM l y rm D tyc (.ref b :: As) wc r w1) (cw : CallW R s args own cq.1 idx y bytes maxL ret lw_g rm rm.cells rm.slots n) (hx : p.tables.exec = Jvm.exec) (hb : c.code = cc) (hml : c.maxLocals = nL) (hown : s.vm.findClass own = some m.cls) (hts : ∀ w ∈ lw_g, w.before args s = true)
    (hk : lk D tyc s) (hZ : zz A s s.heap) (hL : LWd D A L s.heap H locs) (hc : L.Perm (wc ++ wr)) (hci : vwCl[ci]? = some cq) (hq0 : wc[q0]? = some (b, .inr (ci, fs)))
    (hls : ls.size = nL) (hn : As.length = n) (hst : st0 = As.reverse ++ .ref b :: rest) (hW : 2 * (F0 m pc ls st0).monitorRoom + (rest.map fun v => v.category).sum ≤ 8)
    (hdg : decode cc pc = .ok (.invokevirtual idx, 3)) (hf : cells + rm.cells ≤ R.cells ∧ slots + rm.slots ≤ R.slots) :
    xx_Run p l e R s m args below meth c H locs cells slots rm.cells rm.slots (F0 m pc ls st0) rest (lm_Q D (va_A wc H.size) r w1 (Value.ref b :: As).toArray) (va_A wc H.size) :=
  xx_runV (C := cq.1) (Ts := lw_g) ⟨hx, hb, hml, hown, hts⟩ (hM H.size) cw ⟨lm_blind, va_recv hk.1 (lp_left (lp_perm hc hL.1)) hci hq0, lm_pre hk hZ hL hc⟩ rfl hn hls hst hW hdg hf
theorem lm_runSW {hs : List (Nat × Nat × Nat × Nat)} (hM : LM l y rm D tyc As wc r w1) (hR : rm.frames + 1 ≤ R.frames ∧ 8 + (maxL + 11) + rm.locals ≤ R.locals) (hcw : Cond.codeWith y bytes maxL ret hs ∈ lw_g) (hini : Cond.initialized y.cls ∈ lw_g)
    (hd : y.cls ≠ "java/lang/invoke/MethodHandle" ∧ y.cls ≠ "java/lang/invoke/VarHandle" ∧ (parseMethodDescriptor y.desc).map (fun d => d.parameters.length) = some n) (hl : Cond.methodLink own idx y ∈ lw_g) (hstt : Cond.static y ∈ lw_g)
    (hx : p.tables.exec = Jvm.exec) (hb : c.code = cc) (hml : c.maxLocals = nL) (hown : s.vm.findClass own = some m.cls) (hts : ∀ w ∈ lw_g, w.before args s = true)
    (hk : lk D tyc s) (hZ : zz A s s.heap) (hL : LWd D A L s.heap H locs) (hc : L.Perm (wc ++ wr))
    (hls : ls.size = nL) (hn : As.length = n) (hst : st0 = As.reverse ++ rest) (hW : 2 * (F0 m pc ls st0).monitorRoom + (rest.map fun v => v.category).sum ≤ 8)
    (hdg : decode cc pc = .ok (.invokestatic idx, 3)) (hf : cells + rm.cells ≤ R.cells ∧ slots + rm.slots ≤ R.slots) :
    xx_Run p l e R s m args below meth c H locs cells slots rm.cells rm.slots (F0 m pc ls st0) rest (lm_Q D (va_A wc H.size) r w1 As.toArray) (va_A wc H.size) :=
  xx_runSW (Ts := lw_g) ⟨hx, hb, hml, hown, hts⟩ (hM H.size) rfl rfl hR (lw_good hts) hcw (hts _ hini) hd (hts _ hl) (hts _ hstt) ⟨lm_blind, lm_pre hk hZ hL hc⟩ rfl hn hls hst hW hdg hf
theorem lm_back {s0 t : State} {Ls : List Loc} (hA : ∀ q, s.heap.size ≤ q → A q) (hL : LWd D A L s.heap H locs) (hc : L.Perm (wc ++ wr)) (hc' : (w1 ++ wr).Perm L') (h0 : s0.heap = H) (hLs : ∀ q ∈ Ls, va_A wc H.size q.base) (hP : va_P D vwCl w1 t.heap) (hD : va_D (va_A wc H.size) w1) (hF : va_F (va_A wc H.size) s0 t) : LWd D A L' s.heap t.heap (locs ++ Ls) := by
  have hsub : ∀ q, va_A wc H.size q → A q := by
    intro q hq
    rcases hq with ⟨k, e, h⟩ | h
    · exact (ld_left (ld_perm hc hL.2.1)).2 k (q, e) h
    · exact hA q (Nat.le_trans hL.2.2.1 h)
  have hj := lx_join (lp_perm hc hL.1) (ld_perm hc hL.2.1) (fun q hq hn => by rw [← h0]; exact hF.2 q (by rw [h0]; exact hq) hn) hsub hP hD
  refine ⟨lp_perm hc' hj.1, ld_perm hc' hj.2, ?_, ?_, ?_⟩
  · exact Nat.le_trans hL.2.2.1 (by rw [← h0]; exact hF.1)
  · intro q h1 h2
    rw [hF.2 q (by rw [h0]; exact Nat.lt_of_lt_of_le h1 hL.2.2.1) (fun z => h2 (hsub q z)), h0]
    exact hL.2.2.2.1 q h1 h2
  · intro q hq
    rcases List.mem_append.mp hq with h | h
    · exact hL.2.2.2.2 q h
    · exact hsub _ (hLs q h)
theorem lm_v {v : Option Value} {as : Array Value} (hr : xx_Run p l e R s m args below meth c H locs cells slots rm.cells rm.slots (F0 m pc ls st0) rest (lm_Q D (va_A wc H.size) (.inl v) w1 as) (va_A wc H.size))
    (hA : ∀ q, s.heap.size ≤ q → A q) (hL : LWd D A L s.heap H locs) (hc : L.Perm (wc ++ wr)) (hc' : (w1 ++ wr).Perm L')
    (kk : ∀ (H : Heap) (locs : List Loc), LWd D A L' s.heap H locs → W p l e R s m args below meth c H locs (cells + rm.cells) (slots + rm.slots) Q (F0 m (pc + 3) ls (v.toList ++ rest))) : W p l e R s m args below meth c H locs cells slots Q (F0 m pc ls st0) := by
  refine xx_call hr ?_ ?_
  · intro v' s0 t Ls h0 hw hLs hq
    obtain ⟨hv, hP, hD, hF⟩ := hq
    cases hv
    exact kk _ _ (lm_back hA hL hc hc' h0 hLs hP hD hF)
  · intro x s0 t Ls h0 hw hLs hq
    cases hq.1
theorem lm_t {k : Nat} {as : Array Value} (hr : xx_Run p l e R s m args below meth c H locs cells slots rm.cells rm.slots (F0 m pc ls st0) rest (lm_Q D (va_A wc H.size) (.inr k) w1 as) (va_A wc H.size))
    (hA : ∀ q, s.heap.size ≤ q → A q) (hL : LWd D A L s.heap H locs) (hc : L.Perm (wc ++ wr)) (hc' : (w1 ++ wr).Perm L')
    (kk : ∀ (H : Heap) (locs : List Loc) (x : Addr) (t : State), t.heap = H → xx_X k t x → s.WarmedH t.vm → LWd D A L' s.heap H locs → WT p l e R s m args below meth c H locs (cells + rm.cells) (slots + rm.slots) Q (F0 m pc ls rest) x) : W p l e R s m args below meth c H locs cells slots Q (F0 m pc ls st0) := by
  refine xx_call hr ?_ ?_
  · intro v' s0 t Ls h0 hw hLs hq
    obtain ⟨⟨x, hv, -⟩, -⟩ := hq
    cases hv
  · intro x s0 t Ls h0 hw hLs hq
    obtain ⟨⟨x', hv, g1, g2⟩, hP, hD, hF⟩ := hq
    cases hv
    exact kk _ _ x t rfl g2 hw (lm_back hA hL hc hc' h0 hLs hP hD hF)
end LR
