/-! THE CONSTRUCTORS -/
theorem oi_inst : Cond.instanceMethod Lib.objectInit ∈ lw_g := List.mem_filter.mpr ⟨List.mem_append_right _ (List.mem_of_getElem? (i := 18) (by decide +kernel)), rfl⟩
theorem oi_code : Cond.code Lib.objectInit ⟨#[0xb1]⟩ 1 none ∈ lw_g := List.mem_filter.mpr ⟨List.mem_append_right _ (List.mem_of_getElem? (i := 19) (by decide +kernel)), rfl⟩
theorem ar_long : Cond.arrayClass .long ∈ lw_g := List.mem_filter.mpr ⟨List.mem_append_right _ (List.mem_of_getElem? (i := 78) (by decide +kernel)), rfl⟩
theorem ar_int : Cond.arrayClass .int ∈ lw_g := List.mem_filter.mpr ⟨List.mem_append_right _ (List.mem_of_getElem? (i := 79) (by decide +kernel)), rfl⟩
theorem ar_boolean : Cond.arrayClass .boolean ∈ lw_g := List.mem_filter.mpr ⟨List.mem_append_right _ (List.mem_of_getElem? (i := 546) (by decide +kernel)), rfl⟩
/-- before a constructor: the object is new -/
def ini_P (D : va_G) (g0 ci : Nat) (df : List Value) (sz : Nat) (U : State) : Prop := U.heap.size = sz ∧ (va_P D vwCl [(g0, .inr (ci, df))] U.heap ∧ lk D [] U) ∧ va_D (fun _ => True) [(g0, .inr (ci, df))]
def ini_QB (D : va_G) (g0 : Nat) (A : Nat → Prop) (st : BSt) : Array Value → State → Outcome → State → Prop := fun _ s0 o t => o = .returned none ∧ ∃ (gm : Nat → Nat) (ca : Nat → ClassId), gm 0 = g0 ∧ va_K D vwCl (tysB ca) t ∧ va_P D vwCl (wB gm ca st) t.heap ∧ va_D A (wB gm ca st) ∧ va_F A s0 t
def ini_QM (D : va_G) (g0 : Nat) (A : Nat → Prop) (st : MSt) : Array Value → State → Outcome → State → Prop := fun _ s0 o t => o = .returned none ∧ ∃ (gm : Nat → Nat) (ca : Nat → ClassId), gm 0 = g0 ∧ va_K D vwCl (tysM ca) t ∧ va_P D vwCl (wM gm ca st) t.heap ∧ va_D A (wM gm ca st) ∧ va_F A s0 t
def IX (own : String) (p : Program) (l : Launch) (e : Env) (s : State) (m : MethodId) (args : Array Value) (meth : Method) (c : Code) (D : va_G) (A : Nat → Prop) (cc : ByteArray) (nL : Nat) : Prop :=
  p.tables.exec = Jvm.exec ∧ c.code = cc ∧ c.maxLocals = nL ∧ meth.sig.returnType = none ∧ meth.locks = false ∧ s.vm.findClass own = some m.cls ∧ (∀ w ∈ lw_g, w.before args s = true) ∧ lk D [] s ∧ zz A s s.heap ∧ (∀ q, s.heap.size ≤ q → A q) ∧ meth.name = "<init>"
theorem IX.of {own : String} {l : Launch} {y : MethodName} {rm : Room} {D : va_G} {g0 ci sz nL : Nat} {df : List Value} {x : Int32} {cc : ByteArray} {Q : (Nat → Prop) → Array Value → State → Outcome → State → Prop} (hy : plainFor y = true) (hc : y.cls = own) (hn : y.name = "<init>") (hw : Cond.code y cc nL none ∈ lw_g)
    (body : ∀ (p : Program) (e : Env) (s : State) (m : MethodId) (below : List Frame) (meth : Method) (c : Code) (A : Nat → Prop), IX own p l e s m [Value.ref g0, .int x].toArray meth c D A cc nL → LWd D A [(g0, .inr (ci, df))] s.heap s.heap [] →
      W p l e rm s m [Value.ref g0, .int x].toArray below meth c s.heap [] 0 0 (MQX below (Q A) [Value.ref g0, .int x].toArray s rm.cells rm.slots A) (F0 m 0 (ent [Value.ref g0, .int x] nL) [])) : MetX l y lw_g rm (va_Pc [.ref g0, .int x] (ini_P D g0 ci df sz)) (Q (va_A [(g0, .inr (ci, df))] sz)) rm.cells rm.slots (va_A [(g0, .inr (ci, df))] sz) := by
  refine MetX.ofW hy hw ?_
  intro p e s m args below meth c s₁ B hml hv
  obtain ⟨rfl, rfl, ⟨hP, hk⟩, hD⟩ := hv
  rw [lg_entry_eq]
  exact body p e s m below meth c _ ⟨B.exec, B.bytes, hml, B.returns, B.notSynchronized, by rw [← hc]; exact findClass_of_methodNamed B.named, atoms_spec (ws := lw_g) B.pre, hk, hk.2.1.world hP, fun q h => Or.inr h, by rw [← hn]; exact (name_of_methodNamed B.named B.method).1⟩ ⟨hP, hD.self, va_S.rf⟩
abbrev km_init : ByteArray := prog_3_method_1_code
def ym_init : MethodName := ⟨"LeafBookModel", "<init>", "(I)V"⟩
theorem mcm_init : Cond.code ym_init km_init 2 (none) ∈ lw_g := List.mem_filter.mpr ⟨List.mem_append_right _ (List.mem_of_getElem? (i := 493) (by decide +kernel)), rfl⟩
theorem dm_init_0 : decode km_init 0 = .ok (.aload_n 0, 1) := by decide +kernel
theorem dm_init_1 : decode km_init 1 = .ok (.invokespecial 1, 3) := by decide +kernel
theorem dm_init_4 : decode km_init 4 = .ok (.aload_n 0, 1) := by decide +kernel
theorem dm_init_5 : decode km_init 5 = .ok (.sipush 1184, 3) := by decide +kernel
theorem dm_init_8 : decode km_init 8 = .ok (.newarray .long, 2) := by decide +kernel
theorem dm_init_10 : decode km_init 10 = .ok (.putfield 7, 3) := by decide +kernel
theorem dm_init_13 : decode km_init 13 = .ok (.aload_n 0, 1) := by decide +kernel
theorem dm_init_14 : decode km_init 14 = .ok (.bipush 64, 2) := by decide +kernel
theorem dm_init_16 : decode km_init 16 = .ok (.newarray .int, 2) := by decide +kernel
theorem dm_init_18 : decode km_init 18 = .ok (.putfield 13, 3) := by decide +kernel
theorem dm_init_21 : decode km_init 21 = .ok (.aload_n 0, 1) := by decide +kernel
theorem dm_init_22 : decode km_init 22 = .ok (.bipush 64, 2) := by decide +kernel
theorem dm_init_24 : decode km_init 24 = .ok (.newarray .long, 2) := by decide +kernel
theorem dm_init_26 : decode km_init 26 = .ok (.putfield 17, 3) := by decide +kernel
theorem dm_init_29 : decode km_init 29 = .ok (.aload_n 0, 1) := by decide +kernel
theorem dm_init_30 : decode km_init 30 = .ok (.bipush 8, 2) := by decide +kernel
theorem dm_init_32 : decode km_init 32 = .ok (.newarray .long, 2) := by decide +kernel
theorem dm_init_34 : decode km_init 34 = .ok (.putfield 20, 3) := by decide +kernel
theorem dm_init_37 : decode km_init 37 = .ok (.aload_n 0, 1) := by decide +kernel
theorem dm_init_38 : decode km_init 38 = .ok (.bipush 8, 2) := by decide +kernel
theorem dm_init_40 : decode km_init 40 = .ok (.newarray .long, 2) := by decide +kernel
theorem dm_init_42 : decode km_init 42 = .ok (.putfield 23, 3) := by decide +kernel
theorem dm_init_45 : decode km_init 45 = .ok (.aload_n 0, 1) := by decide +kernel
theorem dm_init_46 : decode km_init 46 = .ok (.bipush 18, 2) := by decide +kernel
theorem dm_init_48 : decode km_init 48 = .ok (.newarray .int, 2) := by decide +kernel
theorem dm_init_50 : decode km_init 50 = .ok (.putfield 26, 3) := by decide +kernel
theorem dm_init_53 : decode km_init 53 = .ok (.aload_n 0, 1) := by decide +kernel
theorem dm_init_54 : decode km_init 54 = .ok (.bipush 64, 2) := by decide +kernel
theorem dm_init_56 : decode km_init 56 = .ok (.newarray .boolean, 2) := by decide +kernel
theorem dm_init_58 : decode km_init 58 = .ok (.putfield 29, 3) := by decide +kernel
theorem dm_init_61 : decode km_init 61 = .ok (.aload_n 0, 1) := by decide +kernel
theorem dm_init_62 : decode km_init 62 = .ok (.iload_n 1, 1) := by decide +kernel
theorem dm_init_63 : decode km_init 63 = .ok (.bipush 8, 2) := by decide +kernel
theorem dm_init_65 : decode km_init 65 = .ok (.if_icmp .ge 8, 3) := by decide +kernel
theorem dm_init_68 : decode km_init 68 = .ok (.bipush 8, 2) := by decide +kernel
theorem dm_init_70 : decode km_init 70 = .ok (.goto 15, 3) := by decide +kernel
theorem dm_init_73 : decode km_init 73 = .ok (.iload_n 1, 1) := by decide +kernel
theorem dm_init_74 : decode km_init 74 = .ok (.bipush 64, 2) := by decide +kernel
theorem dm_init_76 : decode km_init 76 = .ok (.if_icmp .le 8, 3) := by decide +kernel
theorem dm_init_79 : decode km_init 79 = .ok (.bipush 64, 2) := by decide +kernel
theorem dm_init_81 : decode km_init 81 = .ok (.goto 4, 3) := by decide +kernel
theorem dm_init_84 : decode km_init 84 = .ok (.iload_n 1, 1) := by decide +kernel
theorem dm_init_85 : decode km_init 85 = .ok (.putfield 33, 3) := by decide +kernel
theorem dm_init_88 : decode km_init 88 = .ok (.aload_n 0, 1) := by decide +kernel
theorem dm_init_89 : decode km_init 89 = .ok (.getfield 7, 3) := by decide +kernel
theorem dm_init_92 : decode km_init 92 = .ok (.sipush 1043, 3) := by decide +kernel
theorem dm_init_95 : decode km_init 95 = .ok (.aload_n 0, 1) := by decide +kernel
theorem dm_init_96 : decode km_init 96 = .ok (.sipush 1024, 3) := by decide +kernel
theorem dm_init_99 : decode km_init 99 = .ok (.bipush 19, 2) := by decide +kernel
theorem dm_init_101 : decode km_init 101 = .ok (.invokevirtual 37, 3) := by decide +kernel
theorem dm_init_104 : decode km_init 104 = .ok (.lastore, 1) := by decide +kernel
theorem dm_init_105 : decode km_init 105 = .ok (.aload_n 0, 1) := by decide +kernel
theorem dm_init_106 : decode km_init 106 = .ok (.iconst (-1), 1) := by decide +kernel
theorem dm_init_107 : decode km_init 107 = .ok (.putfield 41, 3) := by decide +kernel
theorem dm_init_110 : decode km_init 110 = .ok (.return_, 1) := by decide +kernel
theorem ol_m : Cond.methodLink RMo 1 Lib.objectInit ∈ lw_g := List.mem_filter.mpr ⟨List.mem_append_right _ (List.mem_of_getElem? (i := 494) (by decide +kernel)), rfl⟩
def dfM : List Value := [.int 0, .int 0, .null, .int 0, .int 0, .int 0, .null, .null, .int 0, .null, .null, .int 0, .null, .int 0, .null]
def clM (x : Int32) : Int32 := if x < 8 then 8 else if 64 < x then 64 else x
abbrev rmm_init : Room := { frames := 1, cells := 7, slots := 1410, locals := 60 }
def gmM (g0 q1 q2 q3 q4 q5 q6 q7 : Nat) : Nat → Nat := fun k => match k with | 0 => g0 | 1 => q1 | 2 => q2 | 3 => q3 | 4 => q4 | 5 => q5 | 6 => q6 | _ => q7
def caM (c1 c2 c3 c4 c5 c6 c7 : ClassId) : Nat → ClassId := fun k => match k with | 0 => c1 | 1 => c1 | 2 => c2 | 3 => c3 | 4 => c4 | 5 => c5 | 6 => c6 | _ => c7
/-- the new model, before its first sum -/
def fM0 (v : Int32) : MSt := (0, v, fun _ => 0, 0, 0, 0, fun _ => 0, fun _ => 0, 0, fun _ => 0, fun _ => 0, 0, fun _ => 0, 0, fun _ => 0)
def newM (v : Int32) (r : Int64) : MSt := qbs_put_written (-1) (qbs_put_words (vp_updL (fun _ => 0) 1043 r) (fM0 v))
theorem wq_init_85 {p : Program} {l : Launch} {e : Env} {s : State} {m : MethodId} {args : Array Value} {below : List Frame} {meth : Method} {c : Code} {H : Heap} {locs : List Loc} {D : va_G} {A : Nat → Prop} {g0 : Nat} {q1 q2 q3 q4 q5 q6 q7 : Nat} {c1 c2 c3 c4 c5 c6 c7 : ClassId} {ls : Array Slot} {x v : Int32} {r : Int64} {n : Nat} (hfl : l.flags = flags0) (hX : IX RMo p l e s m args meth c D A km_init 2) (hl : lv_has ls 2 [(0, .ref g0), (1, .int x)]) (hK : va_K D vwCl [(c1, .long), (c2, .int), (c3, .long), (c4, .long), (c5, .long), (c6, .int), (c7, .boolean)] s) (hP : va_P D vwCl [(g0, .inr (1, [.int 0, .int 0, .ref q1, .int 0, .int 0, .int 0, .ref q2, .ref q3, .int 0, .ref q4, .ref q5, .int 0, .ref q6, .int 0, .ref q7])), (q1, .inl (c1, (1184, .inr (.inl (fun _ => 0))))), (q2, .inl (c2, (64, .inl (fun _ => 0)))), (q3, .inl (c3, (64, .inr (.inl (fun _ => 0))))), (q4, .inl (c4, (8, .inr (.inl (fun _ => 0))))), (q5, .inl (c5, (8, .inr (.inl (fun _ => 0))))), (q6, .inl (c6, (18, .inl (fun _ => 0)))), (q7, .inl (c7, (64, .inl (fun _ => 0))))] H) (hD : va_D A [(g0, .inr (1, [.int 0, .int 0, .ref q1, .int 0, .int 0, .int 0, .ref q2, .ref q3, .int 0, .ref q4, .ref q5, .int 0, .ref q6, .int 0, .ref q7])), (q1, .inl (c1, (1184, .inr (.inl (fun _ => 0))))), (q2, .inl (c2, (64, .inl (fun _ => 0)))), (q3, .inl (c3, (64, .inr (.inl (fun _ => 0))))), (q4, .inl (c4, (8, .inr (.inl (fun _ => 0))))), (q5, .inl (c5, (8, .inr (.inl (fun _ => 0))))), (q6, .inl (c6, (18, .inl (fun _ => 0)))), (q7, .inl (c7, (64, .inl (fun _ => 0))))]) (hS : va_S A s.heap H locs) (hf : fm_sum n (fM0 v) 1024 19 = some r) : W p l e rmm_init s m args below meth c H locs 7 1410 (MQX below (ini_QM D g0 A (newM v r)) args s 7 1410 A) (F0 m 85 ls [.int v, .ref g0]) := by
  obtain ⟨hx, hb, hml, hr, hlk, hown, hts, hk, hZ, hA, hin⟩ := hX
  have hB : MWd D (gmM g0 q1 q2 q3 q4 q5 q6 q7) (caM c1 c2 c3 c4 c5 c6 c7) A s.heap (fM0 0) H locs := ⟨hP, hD, hS⟩
  have hK : va_K D vwCl (tysM (caM c1 c2 c3 c4 c5 c6 c7)) s := hK
  refine qbp_pages hx hb hown hts hK hB dm_init_85 (fun H locs hB => ?_)
  have hB : MWd D (gmM g0 q1 q2 q3 q4 q5 q6 q7) (caM c1 c2 c3 c4 c5 c6 c7) A s.heap (fM0 v) H locs := hB
  refine lv_aload_n hx hb dm_init_88 rfl (lv_at hl 0 rfl) ?_
  refine qbg_words (gm := gmM g0 q1 q2 q3 q4 q5 q6 q7) (ca := caM c1 c2 c3 c4 c5 c6 c7) hx hb hown hts hK hB.1 dm_init_89 ?_
  refine lv_sipush (v := 1043) hx hb dm_init_92 (by decide) ?_
  refine lv_aload_n hx hb dm_init_95 rfl (lv_at hl 0 rfl) ?_
  refine lv_sipush (v := 1024) hx hb dm_init_96 (by decide) ?_
  refine lv_bipush (v := 19) hx hb dm_init_99 (by decide) ?_
  refine qrmL (gm := gmM g0 q1 q2 q3 q4 q5 q6 q7) (ca := caM c1 c2 c3 c4 c5 c6 c7) (cq_sum (l := l) (hfl := hfl) hf) (cw_m_sum hts ⟨by decide, by decide⟩) hx hb hml hown hts hK hB.1 hB.2.2 hZ hl.1 rfl rfl (lv_room (Nat.le_of_ble_eq_true rfl)) dm_init_101 ⟨by decide, by decide⟩ ?_
  refine qbt_words (gm := gmM g0 q1 q2 q3 q4 q5 q6 q7) (ca := caM c1 c2 c3 c4 c5 c6 c7) hx hb hK hB (by unfold vp_in; decide) rfl dm_init_104 (fun H locs hB => ?_)
  refine lv_aload_n hx hb dm_init_105 rfl (lv_at hl 0 rfl) ?_
  refine lv_iconst (v := -1) hx hb dm_init_106 rfl ?_
  refine qbp_written (gm := gmM g0 q1 q2 q3 q4 q5 q6 q7) (ca := caM c1 c2 c3 c4 c5 c6 c7) hx hb hown hts hK hB dm_init_107 (fun H locs hB => ?_)
  exact W.toX (W.vret (free := A) hx hb hr (fun t ht hw => ⟨rfl, gmM g0 q1 q2 q3 q4 q5 q6 q7, caM c1 c2 c3 c4 c5 c6 c7, rfl, va_K.moved hw.alike hK, by rw [ht]; exact hB.1, hB.2.1, hB.2.2.F ht⟩) hB.2.2.2.2 dm_init_110 (hlocks := hlk))
set_option maxRecDepth 100000 in
theorem cq_init {l : Launch} (hfl : l.flags = flags0) {D : va_G} {g0 n sz : Nat} {x : Int32} {r : Int64} (hf : fm_sum n (fM0 (clM x)) 1024 19 = some r) : MetX l ym_init lw_g rmm_init (va_Pc [.ref g0, .int x] (ini_P D g0 1 dfM sz)) (ini_QM D g0 (va_A [(g0, .inr (1, dfM))] sz) (newM (clM x) r)) rmm_init.cells rmm_init.slots (va_A [(g0, .inr (1, dfM))] sz) := by
  refine IX.of (own := RMo) (Q := fun A => ini_QM D g0 A (newM (clM x) r)) (by decide +kernel) rfl rfl mcm_init ?_
  intro p e s m below meth c A hX hL
  obtain ⟨hx, hb, hml, hr, hlk, hown, hts, hk, hZ, hA, hin⟩ := id hX
  obtain ⟨hP, hD, hS⟩ := hL
  have hK := hk.1
  have hl : lv_has (ent [Value.ref g0, .int x] 2) 2 [(0, .ref g0), (1, .int x)] := lv_entry ([.ref g0, .int x] : List Value) (n := 2) (Nat.le_of_ble_eq_true rfl)
  generalize ent [Value.ref g0, .int x] 2 = ls at hl ⊢
  refine lv_aload_n hx hb dm_init_0 rfl (lv_at hl 0 rfl) ?_
  refine W.objInit hx hb hown (hts _ ol_m) (hts _ oi_inst) (hts _ oi_code) rfl (by rw [hml]; exact hl.1) rfl dm_init_1 (Nat.le_of_ble_eq_true rfl) (Nat.le_of_ble_eq_true rfl) ?_
  change W _ _ _ _ _ _ _ _ _ _ _ _ _ _ _ (F0 m 4 ls [])
  refine lv_aload_n hx hb dm_init_4 rfl (lv_at hl 0 rfl) ?_
  refine lv_sipush (v := 1184) hx hb dm_init_5 (by decide) ?_
  refine va_newa (atype := .long) (ty := .long) (N' := 1184) (a0 := (1184, .inr (.inl (fun _ => 0)))) hx hb (hts _ ar_long) rfl hK hP hD hS hA (fun _ => rfl) (by decide) (by decide) (by decide) (by decide) (by decide) dm_init_8 (fun q1 c1 H hK hP hD hS => ?_)
  have hP : va_P D vwCl [(g0, .inr (1, [.int 0, .int 0, .null, .int 0, .int 0, .int 0, .null, .null, .int 0, .null, .null, .int 0, .null, .int 0, .null])), (q1, .inl (c1, (1184, .inr (.inl (fun _ => 0)))))] H := hP
  have hD : va_D A [(g0, .inr (1, [.int 0, .int 0, .null, .int 0, .int 0, .int 0, .null, .null, .int 0, .null, .null, .int 0, .null, .int 0, .null])), (q1, .inl (c1, (1184, .inr (.inl (fun _ => 0)))))] := hD
  have hK : va_K D vwCl [(c1, .long)] s := hK
  refine va_putF (D := D) (ci := 1) (v := .ref q1) (ty := tM 2) (C := RMo) (T := TM) (N := 15) hx hb hts qin_TB tM tM_ok nM hown hK hP hD hS 0 rfl rfl 2 (by decide) (hts _ qfl_words) (fun _ h => h) rfl hin rfl (by decide +kernel) rfl rfl (Nat.le_of_ble_eq_true rfl) dm_init_10 (fun H locs hP hD hS => ?_)
  have hP : va_P D vwCl [(g0, .inr (1, [.int 0, .int 0, .ref q1, .int 0, .int 0, .int 0, .null, .null, .int 0, .null, .null, .int 0, .null, .int 0, .null])), (q1, .inl (c1, (1184, .inr (.inl (fun _ => 0)))))] H := hP
  have hD : va_D A [(g0, .inr (1, [.int 0, .int 0, .ref q1, .int 0, .int 0, .int 0, .null, .null, .int 0, .null, .null, .int 0, .null, .int 0, .null])), (q1, .inl (c1, (1184, .inr (.inl (fun _ => 0)))))] := hD
  refine lv_aload_n hx hb dm_init_13 rfl (lv_at hl 0 rfl) ?_
  refine lv_bipush (v := 64) hx hb dm_init_14 (by decide) ?_
  refine va_newa (atype := .int) (ty := .int) (N' := 64) (a0 := (64, .inl (fun _ => 0))) hx hb (hts _ ar_int) rfl hK hP hD hS hA (fun _ => rfl) (by decide) (by decide) (by decide) (by decide) (by decide) dm_init_16 (fun q2 c2 H hK hP hD hS => ?_)
  have hP : va_P D vwCl [(g0, .inr (1, [.int 0, .int 0, .ref q1, .int 0, .int 0, .int 0, .null, .null, .int 0, .null, .null, .int 0, .null, .int 0, .null])), (q1, .inl (c1, (1184, .inr (.inl (fun _ => 0))))), (q2, .inl (c2, (64, .inl (fun _ => 0))))] H := hP
  have hD : va_D A [(g0, .inr (1, [.int 0, .int 0, .ref q1, .int 0, .int 0, .int 0, .null, .null, .int 0, .null, .null, .int 0, .null, .int 0, .null])), (q1, .inl (c1, (1184, .inr (.inl (fun _ => 0))))), (q2, .inl (c2, (64, .inl (fun _ => 0))))] := hD
  have hK : va_K D vwCl [(c1, .long), (c2, .int)] s := hK
  refine va_putF (D := D) (ci := 1) (v := .ref q2) (ty := tM 6) (C := RMo) (T := TM) (N := 15) hx hb hts qin_TB tM tM_ok nM hown hK hP hD hS 0 rfl rfl 6 (by decide) (hts _ qfl_places) (fun _ h => h) rfl hin rfl (by decide +kernel) rfl rfl (Nat.le_of_ble_eq_true rfl) dm_init_18 (fun H locs hP hD hS => ?_)
  have hP : va_P D vwCl [(g0, .inr (1, [.int 0, .int 0, .ref q1, .int 0, .int 0, .int 0, .ref q2, .null, .int 0, .null, .null, .int 0, .null, .int 0, .null])), (q1, .inl (c1, (1184, .inr (.inl (fun _ => 0))))), (q2, .inl (c2, (64, .inl (fun _ => 0))))] H := hP
  have hD : va_D A [(g0, .inr (1, [.int 0, .int 0, .ref q1, .int 0, .int 0, .int 0, .ref q2, .null, .int 0, .null, .null, .int 0, .null, .int 0, .null])), (q1, .inl (c1, (1184, .inr (.inl (fun _ => 0))))), (q2, .inl (c2, (64, .inl (fun _ => 0))))] := hD
  refine lv_aload_n hx hb dm_init_21 rfl (lv_at hl 0 rfl) ?_
  refine lv_bipush (v := 64) hx hb dm_init_22 (by decide) ?_
  refine va_newa (atype := .long) (ty := .long) (N' := 64) (a0 := (64, .inr (.inl (fun _ => 0)))) hx hb (hts _ ar_long) rfl hK hP hD hS hA (fun _ => rfl) (by decide) (by decide) (by decide) (by decide) (by decide) dm_init_24 (fun q3 c3 H hK hP hD hS => ?_)
  have hP : va_P D vwCl [(g0, .inr (1, [.int 0, .int 0, .ref q1, .int 0, .int 0, .int 0, .ref q2, .null, .int 0, .null, .null, .int 0, .null, .int 0, .null])), (q1, .inl (c1, (1184, .inr (.inl (fun _ => 0))))), (q2, .inl (c2, (64, .inl (fun _ => 0)))), (q3, .inl (c3, (64, .inr (.inl (fun _ => 0)))))] H := hP
  have hD : va_D A [(g0, .inr (1, [.int 0, .int 0, .ref q1, .int 0, .int 0, .int 0, .ref q2, .null, .int 0, .null, .null, .int 0, .null, .int 0, .null])), (q1, .inl (c1, (1184, .inr (.inl (fun _ => 0))))), (q2, .inl (c2, (64, .inl (fun _ => 0)))), (q3, .inl (c3, (64, .inr (.inl (fun _ => 0)))))] := hD
  have hK : va_K D vwCl [(c1, .long), (c2, .int), (c3, .long)] s := hK
  refine va_putF (D := D) (ci := 1) (v := .ref q3) (ty := tM 7) (C := RMo) (T := TM) (N := 15) hx hb hts qin_TB tM tM_ok nM hown hK hP hD hS 0 rfl rfl 7 (by decide) (hts _ qfl_before) (fun _ h => h) rfl hin rfl (by decide +kernel) rfl rfl (Nat.le_of_ble_eq_true rfl) dm_init_26 (fun H locs hP hD hS => ?_)
  have hP : va_P D vwCl [(g0, .inr (1, [.int 0, .int 0, .ref q1, .int 0, .int 0, .int 0, .ref q2, .ref q3, .int 0, .null, .null, .int 0, .null, .int 0, .null])), (q1, .inl (c1, (1184, .inr (.inl (fun _ => 0))))), (q2, .inl (c2, (64, .inl (fun _ => 0)))), (q3, .inl (c3, (64, .inr (.inl (fun _ => 0)))))] H := hP
  have hD : va_D A [(g0, .inr (1, [.int 0, .int 0, .ref q1, .int 0, .int 0, .int 0, .ref q2, .ref q3, .int 0, .null, .null, .int 0, .null, .int 0, .null])), (q1, .inl (c1, (1184, .inr (.inl (fun _ => 0))))), (q2, .inl (c2, (64, .inl (fun _ => 0)))), (q3, .inl (c3, (64, .inr (.inl (fun _ => 0)))))] := hD
  refine lv_aload_n hx hb dm_init_29 rfl (lv_at hl 0 rfl) ?_
  refine lv_bipush (v := 8) hx hb dm_init_30 (by decide) ?_
  refine va_newa (atype := .long) (ty := .long) (N' := 8) (a0 := (8, .inr (.inl (fun _ => 0)))) hx hb (hts _ ar_long) rfl hK hP hD hS hA (fun _ => rfl) (by decide) (by decide) (by decide) (by decide) (by decide) dm_init_32 (fun q4 c4 H hK hP hD hS => ?_)
  have hP : va_P D vwCl [(g0, .inr (1, [.int 0, .int 0, .ref q1, .int 0, .int 0, .int 0, .ref q2, .ref q3, .int 0, .null, .null, .int 0, .null, .int 0, .null])), (q1, .inl (c1, (1184, .inr (.inl (fun _ => 0))))), (q2, .inl (c2, (64, .inl (fun _ => 0)))), (q3, .inl (c3, (64, .inr (.inl (fun _ => 0))))), (q4, .inl (c4, (8, .inr (.inl (fun _ => 0)))))] H := hP
  have hD : va_D A [(g0, .inr (1, [.int 0, .int 0, .ref q1, .int 0, .int 0, .int 0, .ref q2, .ref q3, .int 0, .null, .null, .int 0, .null, .int 0, .null])), (q1, .inl (c1, (1184, .inr (.inl (fun _ => 0))))), (q2, .inl (c2, (64, .inl (fun _ => 0)))), (q3, .inl (c3, (64, .inr (.inl (fun _ => 0))))), (q4, .inl (c4, (8, .inr (.inl (fun _ => 0)))))] := hD
  have hK : va_K D vwCl [(c1, .long), (c2, .int), (c3, .long), (c4, .long)] s := hK
  refine va_putF (D := D) (ci := 1) (v := .ref q4) (ty := tM 9) (C := RMo) (T := TM) (N := 15) hx hb hts qin_TB tM tM_ok nM hown hK hP hD hS 0 rfl rfl 9 (by decide) (hts _ qfl_keys) (fun _ h => h) rfl hin rfl (by decide +kernel) rfl rfl (Nat.le_of_ble_eq_true rfl) dm_init_34 (fun H locs hP hD hS => ?_)
  have hP : va_P D vwCl [(g0, .inr (1, [.int 0, .int 0, .ref q1, .int 0, .int 0, .int 0, .ref q2, .ref q3, .int 0, .ref q4, .null, .int 0, .null, .int 0, .null])), (q1, .inl (c1, (1184, .inr (.inl (fun _ => 0))))), (q2, .inl (c2, (64, .inl (fun _ => 0)))), (q3, .inl (c3, (64, .inr (.inl (fun _ => 0))))), (q4, .inl (c4, (8, .inr (.inl (fun _ => 0)))))] H := hP
  have hD : va_D A [(g0, .inr (1, [.int 0, .int 0, .ref q1, .int 0, .int 0, .int 0, .ref q2, .ref q3, .int 0, .ref q4, .null, .int 0, .null, .int 0, .null])), (q1, .inl (c1, (1184, .inr (.inl (fun _ => 0))))), (q2, .inl (c2, (64, .inl (fun _ => 0)))), (q3, .inl (c3, (64, .inr (.inl (fun _ => 0))))), (q4, .inl (c4, (8, .inr (.inl (fun _ => 0)))))] := hD
  refine lv_aload_n hx hb dm_init_37 rfl (lv_at hl 0 rfl) ?_
  refine lv_bipush (v := 8) hx hb dm_init_38 (by decide) ?_
  refine va_newa (atype := .long) (ty := .long) (N' := 8) (a0 := (8, .inr (.inl (fun _ => 0)))) hx hb (hts _ ar_long) rfl hK hP hD hS hA (fun _ => rfl) (by decide) (by decide) (by decide) (by decide) (by decide) dm_init_40 (fun q5 c5 H hK hP hD hS => ?_)
  have hP : va_P D vwCl [(g0, .inr (1, [.int 0, .int 0, .ref q1, .int 0, .int 0, .int 0, .ref q2, .ref q3, .int 0, .ref q4, .null, .int 0, .null, .int 0, .null])), (q1, .inl (c1, (1184, .inr (.inl (fun _ => 0))))), (q2, .inl (c2, (64, .inl (fun _ => 0)))), (q3, .inl (c3, (64, .inr (.inl (fun _ => 0))))), (q4, .inl (c4, (8, .inr (.inl (fun _ => 0))))), (q5, .inl (c5, (8, .inr (.inl (fun _ => 0)))))] H := hP
  have hD : va_D A [(g0, .inr (1, [.int 0, .int 0, .ref q1, .int 0, .int 0, .int 0, .ref q2, .ref q3, .int 0, .ref q4, .null, .int 0, .null, .int 0, .null])), (q1, .inl (c1, (1184, .inr (.inl (fun _ => 0))))), (q2, .inl (c2, (64, .inl (fun _ => 0)))), (q3, .inl (c3, (64, .inr (.inl (fun _ => 0))))), (q4, .inl (c4, (8, .inr (.inl (fun _ => 0))))), (q5, .inl (c5, (8, .inr (.inl (fun _ => 0)))))] := hD
  have hK : va_K D vwCl [(c1, .long), (c2, .int), (c3, .long), (c4, .long), (c5, .long)] s := hK
  refine va_putF (D := D) (ci := 1) (v := .ref q5) (ty := tM 10) (C := RMo) (T := TM) (N := 15) hx hb hts qin_TB tM tM_ok nM hown hK hP hD hS 0 rfl rfl 10 (by decide) (hts _ qfl_values) (fun _ h => h) rfl hin rfl (by decide +kernel) rfl rfl (Nat.le_of_ble_eq_true rfl) dm_init_42 (fun H locs hP hD hS => ?_)
  have hP : va_P D vwCl [(g0, .inr (1, [.int 0, .int 0, .ref q1, .int 0, .int 0, .int 0, .ref q2, .ref q3, .int 0, .ref q4, .ref q5, .int 0, .null, .int 0, .null])), (q1, .inl (c1, (1184, .inr (.inl (fun _ => 0))))), (q2, .inl (c2, (64, .inl (fun _ => 0)))), (q3, .inl (c3, (64, .inr (.inl (fun _ => 0))))), (q4, .inl (c4, (8, .inr (.inl (fun _ => 0))))), (q5, .inl (c5, (8, .inr (.inl (fun _ => 0)))))] H := hP
  have hD : va_D A [(g0, .inr (1, [.int 0, .int 0, .ref q1, .int 0, .int 0, .int 0, .ref q2, .ref q3, .int 0, .ref q4, .ref q5, .int 0, .null, .int 0, .null])), (q1, .inl (c1, (1184, .inr (.inl (fun _ => 0))))), (q2, .inl (c2, (64, .inl (fun _ => 0)))), (q3, .inl (c3, (64, .inr (.inl (fun _ => 0))))), (q4, .inl (c4, (8, .inr (.inl (fun _ => 0))))), (q5, .inl (c5, (8, .inr (.inl (fun _ => 0)))))] := hD
  refine lv_aload_n hx hb dm_init_45 rfl (lv_at hl 0 rfl) ?_
  refine lv_bipush (v := 18) hx hb dm_init_46 (by decide) ?_
  refine va_newa (atype := .int) (ty := .int) (N' := 18) (a0 := (18, .inl (fun _ => 0))) hx hb (hts _ ar_int) rfl hK hP hD hS hA (fun _ => rfl) (by decide) (by decide) (by decide) (by decide) (by decide) dm_init_48 (fun q6 c6 H hK hP hD hS => ?_)
  have hP : va_P D vwCl [(g0, .inr (1, [.int 0, .int 0, .ref q1, .int 0, .int 0, .int 0, .ref q2, .ref q3, .int 0, .ref q4, .ref q5, .int 0, .null, .int 0, .null])), (q1, .inl (c1, (1184, .inr (.inl (fun _ => 0))))), (q2, .inl (c2, (64, .inl (fun _ => 0)))), (q3, .inl (c3, (64, .inr (.inl (fun _ => 0))))), (q4, .inl (c4, (8, .inr (.inl (fun _ => 0))))), (q5, .inl (c5, (8, .inr (.inl (fun _ => 0))))), (q6, .inl (c6, (18, .inl (fun _ => 0))))] H := hP
  have hD : va_D A [(g0, .inr (1, [.int 0, .int 0, .ref q1, .int 0, .int 0, .int 0, .ref q2, .ref q3, .int 0, .ref q4, .ref q5, .int 0, .null, .int 0, .null])), (q1, .inl (c1, (1184, .inr (.inl (fun _ => 0))))), (q2, .inl (c2, (64, .inl (fun _ => 0)))), (q3, .inl (c3, (64, .inr (.inl (fun _ => 0))))), (q4, .inl (c4, (8, .inr (.inl (fun _ => 0))))), (q5, .inl (c5, (8, .inr (.inl (fun _ => 0))))), (q6, .inl (c6, (18, .inl (fun _ => 0))))] := hD
  have hK : va_K D vwCl [(c1, .long), (c2, .int), (c3, .long), (c4, .long), (c5, .long), (c6, .int)] s := hK
  refine va_putF (D := D) (ci := 1) (v := .ref q6) (ty := tM 12) (C := RMo) (T := TM) (N := 15) hx hb hts qin_TB tM tM_ok nM hown hK hP hD hS 0 rfl rfl 12 (by decide) (hts _ qfl_leaves) (fun _ h => h) rfl hin rfl (by decide +kernel) rfl rfl (Nat.le_of_ble_eq_true rfl) dm_init_50 (fun H locs hP hD hS => ?_)
  have hP : va_P D vwCl [(g0, .inr (1, [.int 0, .int 0, .ref q1, .int 0, .int 0, .int 0, .ref q2, .ref q3, .int 0, .ref q4, .ref q5, .int 0, .ref q6, .int 0, .null])), (q1, .inl (c1, (1184, .inr (.inl (fun _ => 0))))), (q2, .inl (c2, (64, .inl (fun _ => 0)))), (q3, .inl (c3, (64, .inr (.inl (fun _ => 0))))), (q4, .inl (c4, (8, .inr (.inl (fun _ => 0))))), (q5, .inl (c5, (8, .inr (.inl (fun _ => 0))))), (q6, .inl (c6, (18, .inl (fun _ => 0))))] H := hP
  have hD : va_D A [(g0, .inr (1, [.int 0, .int 0, .ref q1, .int 0, .int 0, .int 0, .ref q2, .ref q3, .int 0, .ref q4, .ref q5, .int 0, .ref q6, .int 0, .null])), (q1, .inl (c1, (1184, .inr (.inl (fun _ => 0))))), (q2, .inl (c2, (64, .inl (fun _ => 0)))), (q3, .inl (c3, (64, .inr (.inl (fun _ => 0))))), (q4, .inl (c4, (8, .inr (.inl (fun _ => 0))))), (q5, .inl (c5, (8, .inr (.inl (fun _ => 0))))), (q6, .inl (c6, (18, .inl (fun _ => 0))))] := hD
  refine lv_aload_n hx hb dm_init_53 rfl (lv_at hl 0 rfl) ?_
  refine lv_bipush (v := 64) hx hb dm_init_54 (by decide) ?_
  refine va_newa (atype := .boolean) (ty := .boolean) (N' := 64) (a0 := (64, .inl (fun _ => 0))) hx hb (hts _ ar_boolean) rfl hK hP hD hS hA (fun _ => rfl) (by decide) (by decide) (by decide) (by decide) (by decide) dm_init_56 (fun q7 c7 H hK hP hD hS => ?_)
  have hP : va_P D vwCl [(g0, .inr (1, [.int 0, .int 0, .ref q1, .int 0, .int 0, .int 0, .ref q2, .ref q3, .int 0, .ref q4, .ref q5, .int 0, .ref q6, .int 0, .null])), (q1, .inl (c1, (1184, .inr (.inl (fun _ => 0))))), (q2, .inl (c2, (64, .inl (fun _ => 0)))), (q3, .inl (c3, (64, .inr (.inl (fun _ => 0))))), (q4, .inl (c4, (8, .inr (.inl (fun _ => 0))))), (q5, .inl (c5, (8, .inr (.inl (fun _ => 0))))), (q6, .inl (c6, (18, .inl (fun _ => 0)))), (q7, .inl (c7, (64, .inl (fun _ => 0))))] H := hP
  have hD : va_D A [(g0, .inr (1, [.int 0, .int 0, .ref q1, .int 0, .int 0, .int 0, .ref q2, .ref q3, .int 0, .ref q4, .ref q5, .int 0, .ref q6, .int 0, .null])), (q1, .inl (c1, (1184, .inr (.inl (fun _ => 0))))), (q2, .inl (c2, (64, .inl (fun _ => 0)))), (q3, .inl (c3, (64, .inr (.inl (fun _ => 0))))), (q4, .inl (c4, (8, .inr (.inl (fun _ => 0))))), (q5, .inl (c5, (8, .inr (.inl (fun _ => 0))))), (q6, .inl (c6, (18, .inl (fun _ => 0)))), (q7, .inl (c7, (64, .inl (fun _ => 0))))] := hD
  have hK : va_K D vwCl [(c1, .long), (c2, .int), (c3, .long), (c4, .long), (c5, .long), (c6, .int), (c7, .boolean)] s := hK
  refine va_putF (D := D) (ci := 1) (v := .ref q7) (ty := tM 14) (C := RMo) (T := TM) (N := 15) hx hb hts qin_TB tM tM_ok nM hown hK hP hD hS 0 rfl rfl 14 (by decide) (hts _ qfl_taken) (fun _ h => h) rfl hin rfl (by decide +kernel) rfl rfl (Nat.le_of_ble_eq_true rfl) dm_init_58 (fun H locs hP hD hS => ?_)
  have hP : va_P D vwCl [(g0, .inr (1, [.int 0, .int 0, .ref q1, .int 0, .int 0, .int 0, .ref q2, .ref q3, .int 0, .ref q4, .ref q5, .int 0, .ref q6, .int 0, .ref q7])), (q1, .inl (c1, (1184, .inr (.inl (fun _ => 0))))), (q2, .inl (c2, (64, .inl (fun _ => 0)))), (q3, .inl (c3, (64, .inr (.inl (fun _ => 0))))), (q4, .inl (c4, (8, .inr (.inl (fun _ => 0))))), (q5, .inl (c5, (8, .inr (.inl (fun _ => 0))))), (q6, .inl (c6, (18, .inl (fun _ => 0)))), (q7, .inl (c7, (64, .inl (fun _ => 0))))] H := hP
  have hD : va_D A [(g0, .inr (1, [.int 0, .int 0, .ref q1, .int 0, .int 0, .int 0, .ref q2, .ref q3, .int 0, .ref q4, .ref q5, .int 0, .ref q6, .int 0, .ref q7])), (q1, .inl (c1, (1184, .inr (.inl (fun _ => 0))))), (q2, .inl (c2, (64, .inl (fun _ => 0)))), (q3, .inl (c3, (64, .inr (.inl (fun _ => 0))))), (q4, .inl (c4, (8, .inr (.inl (fun _ => 0))))), (q5, .inl (c5, (8, .inr (.inl (fun _ => 0))))), (q6, .inl (c6, (18, .inl (fun _ => 0)))), (q7, .inl (c7, (64, .inl (fun _ => 0))))] := hD
  refine lv_aload_n hx hb dm_init_61 rfl (lv_at hl 0 rfl) ?_
  refine lv_iload_n hx hb dm_init_62 rfl (lv_at hl 1 rfl) ?_
  refine lv_bipush (v := 8) hx hb dm_init_63 (by decide) ?_
  refine lv_icmp_ge (tgt := 73) hx hb dm_init_65 (by decide) (fun c1 => ?_) (fun c1 => ?_)
  · refine lv_iload_n hx hb dm_init_73 rfl (lv_at hl 1 rfl) ?_
    refine lv_bipush (v := 64) hx hb dm_init_74 (by decide) ?_
    refine lv_icmp_le (tgt := 84) hx hb dm_init_76 (by decide) (fun c2 => ?_) (fun c2 => ?_)
    · refine lv_iload_n hx hb dm_init_84 rfl (lv_at hl 1 rfl) ?_
      have e0 : clM x = x := by unfold clM; rw [if_neg (by simpa [Int32.not_lt] using c1), if_neg (by simpa [Int32.not_lt] using c2)]
      rw [e0] at hf ⊢
      exact wq_init_85 hfl hX hl hK hP hD hS hf
    · refine lv_bipush (v := 64) hx hb dm_init_79 (by decide) ?_
      refine lv_goto (tgt := 85) hx hb dm_init_81 (by decide) ?_
      have e0 : clM x = 64 := by unfold clM; rw [if_neg (by simpa [Int32.not_lt] using c1), if_pos (by simpa [Int32.not_le] using c2)]
      rw [e0] at hf ⊢
      exact wq_init_85 hfl hX hl hK hP hD hS hf
  · refine lv_bipush (v := 8) hx hb dm_init_68 (by decide) ?_
    refine lv_goto (tgt := 85) hx hb dm_init_70 (by decide) ?_
    have e0 : clM x = 8 := by unfold clM; rw [if_pos (by simpa [Int32.not_le] using c1)]
    rw [e0] at hf ⊢
    exact wq_init_85 hfl hX hl hK hP hD hS hf
