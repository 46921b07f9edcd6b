abbrev kb_init : ByteArray := prog_1_method_1_code
def yb_init : MethodName := ⟨"LeafBook", "<init>", "(I)V"⟩
theorem mcb_init : Cond.code yb_init kb_init 2 (none) ∈ lw_g := List.mem_filter.mpr ⟨List.mem_append_right _ (List.mem_of_getElem? (i := 16) (by decide +kernel)), rfl⟩
theorem db_init_0 : decode kb_init 0 = .ok (.aload_n 0, 1) := by decide +kernel
theorem db_init_1 : decode kb_init 1 = .ok (.invokespecial 1, 3) := by decide +kernel
theorem db_init_4 : decode kb_init 4 = .ok (.aload_n 0, 1) := by decide +kernel
theorem db_init_5 : decode kb_init 5 = .ok (.bipush 8, 2) := by decide +kernel
theorem db_init_7 : decode kb_init 7 = .ok (.bipush 64, 2) := by decide +kernel
theorem db_init_9 : decode kb_init 9 = .ok (.iload_n 1, 1) := by decide +kernel
theorem db_init_10 : decode kb_init 10 = .ok (.invokestatic 9, 3) := by decide +kernel
theorem db_init_13 : decode kb_init 13 = .ok (.invokestatic 15, 3) := by decide +kernel
theorem db_init_16 : decode kb_init 16 = .ok (.putfield 18, 3) := by decide +kernel
theorem db_init_19 : decode kb_init 19 = .ok (.aload_n 0, 1) := by decide +kernel
theorem db_init_20 : decode kb_init 20 = .ok (.aload_n 0, 1) := by decide +kernel
theorem db_init_21 : decode kb_init 21 = .ok (.getfield 18, 3) := by decide +kernel
theorem db_init_24 : decode kb_init 24 = .ok (.bipush 16, 2) := by decide +kernel
theorem db_init_26 : decode kb_init 26 = .ok (.imul, 1) := by decide +kernel
theorem db_init_27 : decode kb_init 27 = .ok (.newarray .long, 2) := by decide +kernel
theorem db_init_29 : decode kb_init 29 = .ok (.putfield 22, 3) := by decide +kernel
theorem db_init_32 : decode kb_init 32 = .ok (.aload_n 0, 1) := by decide +kernel
theorem db_init_33 : decode kb_init 33 = .ok (.sipush 160, 3) := by decide +kernel
theorem db_init_36 : decode kb_init 36 = .ok (.newarray .long, 2) := by decide +kernel
theorem db_init_38 : decode kb_init 38 = .ok (.putfield 26, 3) := by decide +kernel
theorem db_init_41 : decode kb_init 41 = .ok (.aload_n 0, 1) := by decide +kernel
theorem db_init_42 : decode kb_init 42 = .ok (.iconst 2, 1) := by decide +kernel
theorem db_init_43 : decode kb_init 43 = .ok (.newarray .int, 2) := by decide +kernel
theorem db_init_45 : decode kb_init 45 = .ok (.putfield 29, 3) := by decide +kernel
theorem db_init_48 : decode kb_init 48 = .ok (.aload_n 0, 1) := by decide +kernel
theorem db_init_49 : decode kb_init 49 = .ok (.bipush 52, 2) := by decide +kernel
theorem db_init_51 : decode kb_init 51 = .ok (.newarray .long, 2) := by decide +kernel
theorem db_init_53 : decode kb_init 53 = .ok (.putfield 33, 3) := by decide +kernel
theorem db_init_56 : decode kb_init 56 = .ok (.aload_n 0, 1) := by decide +kernel
theorem db_init_57 : decode kb_init 57 = .ok (.bipush 8, 2) := by decide +kernel
theorem db_init_59 : decode kb_init 59 = .ok (.newarray .long, 2) := by decide +kernel
theorem db_init_61 : decode kb_init 61 = .ok (.putfield 36, 3) := by decide +kernel
theorem db_init_64 : decode kb_init 64 = .ok (.aload_n 0, 1) := by decide +kernel
theorem db_init_65 : decode kb_init 65 = .ok (.bipush 8, 2) := by decide +kernel
theorem db_init_67 : decode kb_init 67 = .ok (.newarray .long, 2) := by decide +kernel
theorem db_init_69 : decode kb_init 69 = .ok (.putfield 39, 3) := by decide +kernel
theorem db_init_72 : decode kb_init 72 = .ok (.aload_n 0, 1) := by decide +kernel
theorem db_init_73 : decode kb_init 73 = .ok (.invokevirtual 42, 3) := by decide +kernel
theorem db_init_76 : decode kb_init 76 = .ok (.return_, 1) := by decide +kernel
theorem ol_b : Cond.methodLink RB 1 Lib.objectInit ∈ lw_g := List.mem_filter.mpr ⟨List.mem_append_right _ (List.mem_of_getElem? (i := 17) (by decide +kernel)), rfl⟩
def dfB : List Value := [.int 0, .null, .null, .int 0, .int 0, .int 0, .null, .int 0, .int 0, .null, .null, .null, .int 0]
abbrev rmb_init : Room := { frames := 2, cells := 6, slots := 1254, locals := 60 }
theorem nI16 {P : Nat} (h : P ≤ 64) : ¬ (nI P * 16 < 0) ∧ (nI P * 16).toNatClampNeg = 16 * P := (by decide +kernel : ∀ P : Fin 65, ¬ (nI P.1 * 16 < 0) ∧ (nI P.1 * 16).toNatClampNeg = 16 * P.1) ⟨P, by omega⟩
theorem nI_cl (x : Int32) : ∃ P : Nat, 8 ≤ P ∧ P ≤ 64 ∧ clM x = nI P := by
  unfold clM
  by_cases h1 : x < 8
  · exact ⟨8, by omega, by omega, by rw [if_pos h1]; rfl⟩
  · rw [if_neg h1]
    by_cases h2 : 64 < x
    · exact ⟨64, by omega, by omega, by rw [if_pos h2]; rfl⟩
    · rw [if_neg h2]
      have e1 : ¬ x.toInt < 8 := by simpa [Int32.lt_iff_toInt_lt] using h1
      have e2 : ¬ 64 < x.toInt := by simpa [Int32.lt_iff_toInt_lt] using h2
      refine ⟨x.toInt.toNat, by omega, by omega, ?_⟩
      apply Int32.toInt_inj.mp
      show x.toInt = (Int32.ofNat x.toInt.toNat).toInt
      rw [Int32.toInt_ofNat_of_lt (by omega)]
      omega
theorem fj_cl {x : Int32} (n : Nat) : ∃ a, fj_min n 64 x = some a ∧ fj_max n 8 a = some (clM x) := by
  unfold fj_min fj_max clM
  by_cases h2 : x < 64
  · rw [if_pos h2]
    refine ⟨x, rfl, ?_⟩
    have h3 : ¬ 64 < x := by rw [Int32.lt_iff_toInt_lt] at h2 ⊢; omega
    by_cases h1 : x < 8
    · have h4 : ¬ 8 < x := by rw [Int32.lt_iff_toInt_lt] at h1 ⊢; omega
      rw [if_pos h1, if_neg h4]
    · rw [if_neg h1, if_neg h3]
      by_cases h4 : 8 < x
      · rw [if_pos h4]
      · rw [if_neg h4]
        congr 1
        apply Int32.toInt_inj.mp
        rw [Int32.lt_iff_toInt_lt] at h1 h4
        have a1 : (8 : Int32).toInt = 8 := by decide
        omega
  · rw [if_neg h2]
    refine ⟨64, rfl, ?_⟩
    have a1 : (8 : Int32).toInt = 8 := by decide
    have a2 : (64 : Int32).toInt = 64 := by decide
    rw [if_pos (by decide)]
    have h1 : ¬ x < 8 := by rw [Int32.lt_iff_toInt_lt] at h2 ⊢; omega
    rw [if_neg h1]
    by_cases h3 : 64 < x
    · rw [if_pos h3]
    · rw [if_neg h3]
      congr 1
      apply Int32.toInt_inj.mp
      rw [Int32.lt_iff_toInt_lt] at h2 h3
      omega
/-- the new book, before its root 0 is made -/
def fB0 (P : Nat) : BSt := (P, fun _ => 0, fun _ => 0, 0, 0, 0, fun _ => 0, 0, 0, fun _ => 0, fun _ => 0, fun _ => 0, 0)
def gmB (g0 q1 q2 q3 q4 q5 q6 : Nat) : Nat → Nat := fun k => match k with | 0 => g0 | 1 => q1 | 2 => q2 | 3 => q3 | 4 => q4 | 5 => q5 | _ => q6
def caB (c1 c2 c3 c4 c5 c6 : ClassId) : Nat → ClassId := fun k => match k with | 0 => c1 | 1 => c1 | 2 => c2 | 3 => c3 | 4 => c4 | 5 => c5 | _ => c6
set_option maxRecDepth 100000 in
theorem cb_init {l : Launch} (hfl : l.flags = flags0) {D : va_G} {g0 n sz P : Nat} {x : Int32} {st' : BSt} (h64 : P ≤ 64) (hcl : clM x = nI P) (hf : fb_makeRootZeroAnew n (fB0 P) = some st') : MetX l yb_init lw_g rmb_init (va_Pc [.ref g0, .int x] (ini_P D g0 0 dfB sz)) (ini_QB D g0 (va_A [(g0, .inr (0, dfB))] sz) st') rmb_init.cells rmb_init.slots (va_A [(g0, .inr (0, dfB))] sz) := by
  refine IX.of (own := RB) (Q := fun A => ini_QB D g0 A st') (by decide +kernel) rfl rfl mcb_init ?_
  intro p e s m below meth c A hX hL
  obtain ⟨hx, hb, hml, hr, hlk, hown, hts, hk, hZ, hA, hin⟩ := id hX
  obtain ⟨hP, hD, hS⟩ := hL
  have hK := hk.1
  have hl : lv_has (ent [Value.ref g0, .int x] 2) 2 [(0, .ref g0), (1, .int x)] := lv_entry ([.ref g0, .int x] : List Value) (n := 2) (Nat.le_of_ble_eq_true rfl)
  generalize ent [Value.ref g0, .int x] 2 = ls at hl ⊢
  refine lv_aload_n hx hb db_init_0 rfl (lv_at hl 0 rfl) ?_
  refine W.objInit hx hb hown (hts _ ol_b) (hts _ oi_inst) (hts _ oi_code) rfl (by rw [hml]; exact hl.1) rfl db_init_1 (Nat.le_of_ble_eq_true rfl) (Nat.le_of_ble_eq_true rfl) ?_
  change W _ _ _ _ _ _ _ _ _ _ _ _ _ _ _ (F0 m 4 ls [])
  obtain ⟨a0, ha0, ha1⟩ := fj_cl (x := x) n
  rw [hcl] at ha1
  refine lv_aload_n hx hb db_init_4 rfl (lv_at hl 0 rfl) ?_
  refine lv_bipush (v := 8) hx hb db_init_5 (by decide) ?_
  refine lv_bipush (v := 64) hx hb db_init_7 (by decide) ?_
  refine lv_iload_n hx hb db_init_9 rfl (lv_at hl 1 rfl) ?_
  refine smI (cj_min (l := l) hfl ha0) (cw_b_min hts ⟨by decide, by decide⟩) hx hb hml hown hts hl.1 rfl rfl (lv_room (Nat.le_of_ble_eq_true rfl)) db_init_10 ⟨by decide, by decide⟩ ?_
  refine smI (cj_max (l := l) hfl ha1) (cw_b_max hts ⟨by decide, by decide⟩) hx hb hml hown hts hl.1 rfl rfl (lv_room (Nat.le_of_ble_eq_true rfl)) db_init_13 ⟨by decide, by decide⟩ ?_
  refine va_putF (D := D) (ci := 0) (v := .int (nI P)) (ty := tB 0) (C := RB) (T := TB) (N := 13) hx hb hts in_TB tB tB_ok nB hown hK hP hD hS 0 rfl rfl 0 (by decide) (hts _ fl_pageCount) (fun _ h => h) rfl hin rfl (by decide +kernel) rfl rfl (Nat.le_of_ble_eq_true rfl) db_init_16 (fun H locs hP hD hS => ?_)
  have hP : va_P D vwCl [(g0, .inr (0, [.int (nI P), .null, .null, .int 0, .int 0, .int 0, .null, .int 0, .int 0, .null, .null, .null, .int 0]))] H := hP
  have hD : va_D A [(g0, .inr (0, [.int (nI P), .null, .null, .int 0, .int 0, .int 0, .null, .int 0, .int 0, .null, .null, .null, .int 0]))] := hD
  refine lv_aload_n hx hb db_init_19 rfl (lv_at hl 0 rfl) ?_
  refine lv_aload_n hx hb db_init_20 rfl (lv_at hl 0 rfl) ?_
  refine va_get (D := D) (ci := 0) (v := .int (nI P)) (C := RB) (T := TB) (N := 13) hx hb hts in_TB hown hK hP 0 rfl rfl 0 (by decide) (hts _ fl_pageCount) (fun _ h => h) rfl db_init_21 ?_
  refine lv_bipush (v := 16) hx hb db_init_24 (by decide) ?_
  refine lv_imul hx hb db_init_26 ?_
  refine va_newa (atype := .long) (ty := .long) (N' := 16 * P) (a0 := ((16 * P), .inr (.inl (fun _ => 0)))) hx hb (hts _ ar_long) rfl hK hP hD hS hA (fun _ => rfl) (nI16 h64).1 (nI16 h64).2 (by show 16 * P * 8 ≤ _; omega) (by decide) (by show 0 + 16 * P ≤ 1254; omega) db_init_27 (fun q1 c1 H hK hP hD hS => ?_)
  refine W.widen (k := 1) (n := 1024) (Nat.le_refl _) (by show 0 + 16 * P ≤ 1024; omega) ?_
  have hP : va_P D vwCl [(g0, .inr (0, [.int (nI P), .null, .null, .int 0, .int 0, .int 0, .null, .int 0, .int 0, .null, .null, .null, .int 0])), (q1, .inl (c1, ((16 * P), .inr (.inl (fun _ => 0)))))] H := hP
  have hD : va_D A [(g0, .inr (0, [.int (nI P), .null, .null, .int 0, .int 0, .int 0, .null, .int 0, .int 0, .null, .null, .null, .int 0])), (q1, .inl (c1, ((16 * P), .inr (.inl (fun _ => 0)))))] := hD
  have hK : va_K D vwCl [(c1, .long)] s := hK
  refine va_putF (D := D) (ci := 0) (v := .ref q1) (ty := tB 1) (C := RB) (T := TB) (N := 13) hx hb hts in_TB tB tB_ok nB hown hK hP hD hS 0 rfl rfl 1 (by decide) (hts _ fl_pages) (fun _ h => h) rfl hin rfl (by decide +kernel) rfl rfl (Nat.le_of_ble_eq_true rfl) db_init_29 (fun H locs hP hD hS => ?_)
  have hP : va_P D vwCl [(g0, .inr (0, [.int (nI P), .ref q1, .null, .int 0, .int 0, .int 0, .null, .int 0, .int 0, .null, .null, .null, .int 0])), (q1, .inl (c1, ((16 * P), .inr (.inl (fun _ => 0)))))] H := hP
  have hD : va_D A [(g0, .inr (0, [.int (nI P), .ref q1, .null, .int 0, .int 0, .int 0, .null, .int 0, .int 0, .null, .null, .null, .int 0])), (q1, .inl (c1, ((16 * P), .inr (.inl (fun _ => 0)))))] := hD
  refine lv_aload_n hx hb db_init_32 rfl (lv_at hl 0 rfl) ?_
  refine lv_sipush (v := 160) hx hb db_init_33 (by decide) ?_
  refine va_newa (atype := .long) (ty := .long) (N' := 160) (a0 := (160, .inr (.inl (fun _ => 0)))) hx hb (hts _ ar_long) rfl hK hP hD hS hA (fun _ => rfl) (by decide) (by decide) (by decide) (by decide) (by decide) db_init_36 (fun q2 c2 H hK hP hD hS => ?_)
  have hP : va_P D vwCl [(g0, .inr (0, [.int (nI P), .ref q1, .null, .int 0, .int 0, .int 0, .null, .int 0, .int 0, .null, .null, .null, .int 0])), (q1, .inl (c1, ((16 * P), .inr (.inl (fun _ => 0))))), (q2, .inl (c2, (160, .inr (.inl (fun _ => 0)))))] H := hP
  have hD : va_D A [(g0, .inr (0, [.int (nI P), .ref q1, .null, .int 0, .int 0, .int 0, .null, .int 0, .int 0, .null, .null, .null, .int 0])), (q1, .inl (c1, ((16 * P), .inr (.inl (fun _ => 0))))), (q2, .inl (c2, (160, .inr (.inl (fun _ => 0)))))] := hD
  have hK : va_K D vwCl [(c1, .long), (c2, .long)] s := hK
  refine va_putF (D := D) (ci := 0) (v := .ref q2) (ty := tB 2) (C := RB) (T := TB) (N := 13) hx hb hts in_TB tB tB_ok nB hown hK hP hD hS 0 rfl rfl 2 (by decide) (hts _ fl_roots) (fun _ h => h) rfl hin rfl (by decide +kernel) rfl rfl (Nat.le_of_ble_eq_true rfl) db_init_38 (fun H locs hP hD hS => ?_)
  have hP : va_P D vwCl [(g0, .inr (0, [.int (nI P), .ref q1, .ref q2, .int 0, .int 0, .int 0, .null, .int 0, .int 0, .null, .null, .null, .int 0])), (q1, .inl (c1, ((16 * P), .inr (.inl (fun _ => 0))))), (q2, .inl (c2, (160, .inr (.inl (fun _ => 0)))))] H := hP
  have hD : va_D A [(g0, .inr (0, [.int (nI P), .ref q1, .ref q2, .int 0, .int 0, .int 0, .null, .int 0, .int 0, .null, .null, .null, .int 0])), (q1, .inl (c1, ((16 * P), .inr (.inl (fun _ => 0))))), (q2, .inl (c2, (160, .inr (.inl (fun _ => 0)))))] := hD
  refine lv_aload_n hx hb db_init_41 rfl (lv_at hl 0 rfl) ?_
  refine lv_iconst (v := 2) hx hb db_init_42 rfl ?_
  refine va_newa (atype := .int) (ty := .int) (N' := 2) (a0 := (2, .inl (fun _ => 0))) hx hb (hts _ ar_int) rfl hK hP hD hS hA (fun _ => rfl) (by decide) (by decide) (by decide) (by decide) (by decide) db_init_43 (fun q3 c3 H hK hP hD hS => ?_)
  have hP : va_P D vwCl [(g0, .inr (0, [.int (nI P), .ref q1, .ref q2, .int 0, .int 0, .int 0, .null, .int 0, .int 0, .null, .null, .null, .int 0])), (q1, .inl (c1, ((16 * P), .inr (.inl (fun _ => 0))))), (q2, .inl (c2, (160, .inr (.inl (fun _ => 0))))), (q3, .inl (c3, (2, .inl (fun _ => 0))))] H := hP
  have hD : va_D A [(g0, .inr (0, [.int (nI P), .ref q1, .ref q2, .int 0, .int 0, .int 0, .null, .int 0, .int 0, .null, .null, .null, .int 0])), (q1, .inl (c1, ((16 * P), .inr (.inl (fun _ => 0))))), (q2, .inl (c2, (160, .inr (.inl (fun _ => 0))))), (q3, .inl (c3, (2, .inl (fun _ => 0))))] := hD
  have hK : va_K D vwCl [(c1, .long), (c2, .long), (c3, .int)] s := hK
  refine va_putF (D := D) (ci := 0) (v := .ref q3) (ty := tB 6) (C := RB) (T := TB) (N := 13) hx hb hts in_TB tB tB_ok nB hown hK hP hD hS 0 rfl rfl 6 (by decide) (hts _ fl_takenPages) (fun _ h => h) rfl hin rfl (by decide +kernel) rfl rfl (Nat.le_of_ble_eq_true rfl) db_init_45 (fun H locs hP hD hS => ?_)
  have hP : va_P D vwCl [(g0, .inr (0, [.int (nI P), .ref q1, .ref q2, .int 0, .int 0, .int 0, .ref q3, .int 0, .int 0, .null, .null, .null, .int 0])), (q1, .inl (c1, ((16 * P), .inr (.inl (fun _ => 0))))), (q2, .inl (c2, (160, .inr (.inl (fun _ => 0))))), (q3, .inl (c3, (2, .inl (fun _ => 0))))] H := hP
  have hD : va_D A [(g0, .inr (0, [.int (nI P), .ref q1, .ref q2, .int 0, .int 0, .int 0, .ref q3, .int 0, .int 0, .null, .null, .null, .int 0])), (q1, .inl (c1, ((16 * P), .inr (.inl (fun _ => 0))))), (q2, .inl (c2, (160, .inr (.inl (fun _ => 0))))), (q3, .inl (c3, (2, .inl (fun _ => 0))))] := hD
  refine lv_aload_n hx hb db_init_48 rfl (lv_at hl 0 rfl) ?_
  refine lv_bipush (v := 52) hx hb db_init_49 (by decide) ?_
  refine va_newa (atype := .long) (ty := .long) (N' := 52) (a0 := (52, .inr (.inl (fun _ => 0)))) hx hb (hts _ ar_long) rfl hK hP hD hS hA (fun _ => rfl) (by decide) (by decide) (by decide) (by decide) (by decide) db_init_51 (fun q4 c4 H hK hP hD hS => ?_)
  have hP : va_P D vwCl [(g0, .inr (0, [.int (nI P), .ref q1, .ref q2, .int 0, .int 0, .int 0, .ref q3, .int 0, .int 0, .null, .null, .null, .int 0])), (q1, .inl (c1, ((16 * P), .inr (.inl (fun _ => 0))))), (q2, .inl (c2, (160, .inr (.inl (fun _ => 0))))), (q3, .inl (c3, (2, .inl (fun _ => 0)))), (q4, .inl (c4, (52, .inr (.inl (fun _ => 0)))))] H := hP
  have hD : va_D A [(g0, .inr (0, [.int (nI P), .ref q1, .ref q2, .int 0, .int 0, .int 0, .ref q3, .int 0, .int 0, .null, .null, .null, .int 0])), (q1, .inl (c1, ((16 * P), .inr (.inl (fun _ => 0))))), (q2, .inl (c2, (160, .inr (.inl (fun _ => 0))))), (q3, .inl (c3, (2, .inl (fun _ => 0)))), (q4, .inl (c4, (52, .inr (.inl (fun _ => 0)))))] := hD
  have hK : va_K D vwCl [(c1, .long), (c2, .long), (c3, .int), (c4, .long)] s := hK
  refine va_putF (D := D) (ci := 0) (v := .ref q4) (ty := tB 9) (C := RB) (T := TB) (N := 13) hx hb hts in_TB tB tB_ok nB hown hK hP hD hS 0 rfl rfl 9 (by decide) (hts _ fl_wordsBefore) (fun _ h => h) rfl hin rfl (by decide +kernel) rfl rfl (Nat.le_of_ble_eq_true rfl) db_init_53 (fun H locs hP hD hS => ?_)
  have hP : va_P D vwCl [(g0, .inr (0, [.int (nI P), .ref q1, .ref q2, .int 0, .int 0, .int 0, .ref q3, .int 0, .int 0, .ref q4, .null, .null, .int 0])), (q1, .inl (c1, ((16 * P), .inr (.inl (fun _ => 0))))), (q2, .inl (c2, (160, .inr (.inl (fun _ => 0))))), (q3, .inl (c3, (2, .inl (fun _ => 0)))), (q4, .inl (c4, (52, .inr (.inl (fun _ => 0)))))] H := hP
  have hD : va_D A [(g0, .inr (0, [.int (nI P), .ref q1, .ref q2, .int 0, .int 0, .int 0, .ref q3, .int 0, .int 0, .ref q4, .null, .null, .int 0])), (q1, .inl (c1, ((16 * P), .inr (.inl (fun _ => 0))))), (q2, .inl (c2, (160, .inr (.inl (fun _ => 0))))), (q3, .inl (c3, (2, .inl (fun _ => 0)))), (q4, .inl (c4, (52, .inr (.inl (fun _ => 0)))))] := hD
  refine lv_aload_n hx hb db_init_56 rfl (lv_at hl 0 rfl) ?_
  refine lv_bipush (v := 8) hx hb db_init_57 (by decide) ?_
  refine va_newa (atype := .long) (ty := .long) (N' := 8) (a0 := (8, .inr (.inl (fun _ => 0)))) hx hb (hts _ ar_long) rfl hK hP hD hS hA (fun _ => rfl) (by decide) (by decide) (by decide) (by decide) (by decide) db_init_59 (fun q5 c5 H hK hP hD hS => ?_)
  have hP : va_P D vwCl [(g0, .inr (0, [.int (nI P), .ref q1, .ref q2, .int 0, .int 0, .int 0, .ref q3, .int 0, .int 0, .ref q4, .null, .null, .int 0])), (q1, .inl (c1, ((16 * P), .inr (.inl (fun _ => 0))))), (q2, .inl (c2, (160, .inr (.inl (fun _ => 0))))), (q3, .inl (c3, (2, .inl (fun _ => 0)))), (q4, .inl (c4, (52, .inr (.inl (fun _ => 0))))), (q5, .inl (c5, (8, .inr (.inl (fun _ => 0)))))] H := hP
  have hD : va_D A [(g0, .inr (0, [.int (nI P), .ref q1, .ref q2, .int 0, .int 0, .int 0, .ref q3, .int 0, .int 0, .ref q4, .null, .null, .int 0])), (q1, .inl (c1, ((16 * P), .inr (.inl (fun _ => 0))))), (q2, .inl (c2, (160, .inr (.inl (fun _ => 0))))), (q3, .inl (c3, (2, .inl (fun _ => 0)))), (q4, .inl (c4, (52, .inr (.inl (fun _ => 0))))), (q5, .inl (c5, (8, .inr (.inl (fun _ => 0)))))] := hD
  have hK : va_K D vwCl [(c1, .long), (c2, .long), (c3, .int), (c4, .long), (c5, .long)] s := hK
  refine va_putF (D := D) (ci := 0) (v := .ref q5) (ty := tB 10) (C := RB) (T := TB) (N := 13) hx hb hts in_TB tB tB_ok nB hown hK hP hD hS 0 rfl rfl 10 (by decide) (hts _ fl_draftKeys) (fun _ h => h) rfl hin rfl (by decide +kernel) rfl rfl (Nat.le_of_ble_eq_true rfl) db_init_61 (fun H locs hP hD hS => ?_)
  have hP : va_P D vwCl [(g0, .inr (0, [.int (nI P), .ref q1, .ref q2, .int 0, .int 0, .int 0, .ref q3, .int 0, .int 0, .ref q4, .ref q5, .null, .int 0])), (q1, .inl (c1, ((16 * P), .inr (.inl (fun _ => 0))))), (q2, .inl (c2, (160, .inr (.inl (fun _ => 0))))), (q3, .inl (c3, (2, .inl (fun _ => 0)))), (q4, .inl (c4, (52, .inr (.inl (fun _ => 0))))), (q5, .inl (c5, (8, .inr (.inl (fun _ => 0)))))] H := hP
  have hD : va_D A [(g0, .inr (0, [.int (nI P), .ref q1, .ref q2, .int 0, .int 0, .int 0, .ref q3, .int 0, .int 0, .ref q4, .ref q5, .null, .int 0])), (q1, .inl (c1, ((16 * P), .inr (.inl (fun _ => 0))))), (q2, .inl (c2, (160, .inr (.inl (fun _ => 0))))), (q3, .inl (c3, (2, .inl (fun _ => 0)))), (q4, .inl (c4, (52, .inr (.inl (fun _ => 0))))), (q5, .inl (c5, (8, .inr (.inl (fun _ => 0)))))] := hD
  refine lv_aload_n hx hb db_init_64 rfl (lv_at hl 0 rfl) ?_
  refine lv_bipush (v := 8) hx hb db_init_65 (by decide) ?_
  refine va_newa (atype := .long) (ty := .long) (N' := 8) (a0 := (8, .inr (.inl (fun _ => 0)))) hx hb (hts _ ar_long) rfl hK hP hD hS hA (fun _ => rfl) (by decide) (by decide) (by decide) (by decide) (by decide) db_init_67 (fun q6 c6 H hK hP hD hS => ?_)
  have hP : va_P D vwCl [(g0, .inr (0, [.int (nI P), .ref q1, .ref q2, .int 0, .int 0, .int 0, .ref q3, .int 0, .int 0, .ref q4, .ref q5, .null, .int 0])), (q1, .inl (c1, ((16 * P), .inr (.inl (fun _ => 0))))), (q2, .inl (c2, (160, .inr (.inl (fun _ => 0))))), (q3, .inl (c3, (2, .inl (fun _ => 0)))), (q4, .inl (c4, (52, .inr (.inl (fun _ => 0))))), (q5, .inl (c5, (8, .inr (.inl (fun _ => 0))))), (q6, .inl (c6, (8, .inr (.inl (fun _ => 0)))))] H := hP
  have hD : va_D A [(g0, .inr (0, [.int (nI P), .ref q1, .ref q2, .int 0, .int 0, .int 0, .ref q3, .int 0, .int 0, .ref q4, .ref q5, .null, .int 0])), (q1, .inl (c1, ((16 * P), .inr (.inl (fun _ => 0))))), (q2, .inl (c2, (160, .inr (.inl (fun _ => 0))))), (q3, .inl (c3, (2, .inl (fun _ => 0)))), (q4, .inl (c4, (52, .inr (.inl (fun _ => 0))))), (q5, .inl (c5, (8, .inr (.inl (fun _ => 0))))), (q6, .inl (c6, (8, .inr (.inl (fun _ => 0)))))] := hD
  have hK : va_K D vwCl [(c1, .long), (c2, .long), (c3, .int), (c4, .long), (c5, .long), (c6, .long)] s := hK
  refine va_putF (D := D) (ci := 0) (v := .ref q6) (ty := tB 11) (C := RB) (T := TB) (N := 13) hx hb hts in_TB tB tB_ok nB hown hK hP hD hS 0 rfl rfl 11 (by decide) (hts _ fl_draftValues) (fun _ h => h) rfl hin rfl (by decide +kernel) rfl rfl (Nat.le_of_ble_eq_true rfl) db_init_69 (fun H locs hP hD hS => ?_)
  have hP : va_P D vwCl [(g0, .inr (0, [.int (nI P), .ref q1, .ref q2, .int 0, .int 0, .int 0, .ref q3, .int 0, .int 0, .ref q4, .ref q5, .ref q6, .int 0])), (q1, .inl (c1, ((16 * P), .inr (.inl (fun _ => 0))))), (q2, .inl (c2, (160, .inr (.inl (fun _ => 0))))), (q3, .inl (c3, (2, .inl (fun _ => 0)))), (q4, .inl (c4, (52, .inr (.inl (fun _ => 0))))), (q5, .inl (c5, (8, .inr (.inl (fun _ => 0))))), (q6, .inl (c6, (8, .inr (.inl (fun _ => 0)))))] H := hP
  have hD : va_D A [(g0, .inr (0, [.int (nI P), .ref q1, .ref q2, .int 0, .int 0, .int 0, .ref q3, .int 0, .int 0, .ref q4, .ref q5, .ref q6, .int 0])), (q1, .inl (c1, ((16 * P), .inr (.inl (fun _ => 0))))), (q2, .inl (c2, (160, .inr (.inl (fun _ => 0))))), (q3, .inl (c3, (2, .inl (fun _ => 0)))), (q4, .inl (c4, (52, .inr (.inl (fun _ => 0))))), (q5, .inl (c5, (8, .inr (.inl (fun _ => 0))))), (q6, .inl (c6, (8, .inr (.inl (fun _ => 0)))))] := hD
  have hB : BWd D (gmB g0 q1 q2 q3 q4 q5 q6) (caB c1 c2 c3 c4 c5 c6) A s.heap (fB0 P) H locs := ⟨hP, hD, hS⟩
  have hK : va_K D vwCl (tysB (caB c1 c2 c3 c4 c5 c6)) s := hK
  refine lv_aload_n hx hb db_init_72 rfl (lv_at hl 0 rfl) ?_
  refine mmV (gm := gmB g0 q1 q2 q3 q4 q5 q6) (ca := caB c1 c2 c3 c4 c5 c6) (cb_makeRootZeroAnew (l := l) (hfl := hfl) hf) (cw_makeRootZeroAnew hts ⟨by decide, by decide⟩) hx hb hml hown hts hK hB hZ hA hl.1 rfl rfl (lv_room (Nat.le_of_ble_eq_true rfl)) db_init_73 ⟨by decide, by decide⟩ (fun H locs hB => ?_)
  exact W.toX (W.vret (free := A) hx hb hr (fun t ht hw => ⟨rfl, gmB g0 q1 q2 q3 q4 q5 q6, caB c1 c2 c3 c4 c5 c6, rfl, va_K.moved hw.alike hK, by rw [ht]; exact hB.1, hB.2.1, hB.2.2.F ht⟩) hB.2.2.2.2 db_init_76 (hlocks := hlk))
