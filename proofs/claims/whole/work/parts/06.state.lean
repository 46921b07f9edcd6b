/-! the book as a value, and as cells -/
abbrev BSt : Type := Nat × (Nat → Int64) × (Nat → Int64) × Int32 × Int32 × Int32 × (Nat → Int32) × Int32 × Int32 × (Nat → Int64) × (Nat → Int64) × (Nat → Int64) × Int32
def bs_P (st : BSt) : Nat := st.1
def bs_pages (st : BSt) : (Nat → Int64) := st.2.1
def bs_put_pages (v : (Nat → Int64)) (st : BSt) : BSt := (st.1, v, st.2.2)
def bs_roots (st : BSt) : (Nat → Int64) := st.2.2.1
def bs_put_roots (v : (Nat → Int64)) (st : BSt) : BSt := (st.1, st.2.1, v, st.2.2.2)
def bs_newest (st : BSt) : Int32 := st.2.2.2.1
def bs_put_newest (v : Int32) (st : BSt) : BSt := (st.1, st.2.1, st.2.2.1, v, st.2.2.2.2)
def bs_closed (st : BSt) : Int32 := st.2.2.2.2.1
def bs_put_closed (v : Int32) (st : BSt) : BSt := (st.1, st.2.1, st.2.2.1, st.2.2.2.1, v, st.2.2.2.2.2)
def bs_canBeCut (st : BSt) : Int32 := st.2.2.2.2.2.1
def bs_put_canBeCut (v : Int32) (st : BSt) : BSt := (st.1, st.2.1, st.2.2.1, st.2.2.2.1, st.2.2.2.2.1, v, st.2.2.2.2.2.2)
def bs_takenPages (st : BSt) : (Nat → Int32) := st.2.2.2.2.2.2.1
def bs_put_takenPages (v : (Nat → Int32)) (st : BSt) : BSt := (st.1, st.2.1, st.2.2.1, st.2.2.2.1, st.2.2.2.2.1, st.2.2.2.2.2.1, v, st.2.2.2.2.2.2.2)
def bs_takenCount (st : BSt) : Int32 := st.2.2.2.2.2.2.2.1
def bs_put_takenCount (v : Int32) (st : BSt) : BSt := (st.1, st.2.1, st.2.2.1, st.2.2.2.1, st.2.2.2.2.1, st.2.2.2.2.2.1, st.2.2.2.2.2.2.1, v, st.2.2.2.2.2.2.2.2)
def bs_writtenRoot (st : BSt) : Int32 := st.2.2.2.2.2.2.2.2.1
def bs_put_writtenRoot (v : Int32) (st : BSt) : BSt := (st.1, st.2.1, st.2.2.1, st.2.2.2.1, st.2.2.2.2.1, st.2.2.2.2.2.1, st.2.2.2.2.2.2.1, st.2.2.2.2.2.2.2.1, v, st.2.2.2.2.2.2.2.2.2)
def bs_wordsBefore (st : BSt) : (Nat → Int64) := st.2.2.2.2.2.2.2.2.2.1
def bs_put_wordsBefore (v : (Nat → Int64)) (st : BSt) : BSt := (st.1, st.2.1, st.2.2.1, st.2.2.2.1, st.2.2.2.2.1, st.2.2.2.2.2.1, st.2.2.2.2.2.2.1, st.2.2.2.2.2.2.2.1, st.2.2.2.2.2.2.2.2.1, v, st.2.2.2.2.2.2.2.2.2.2)
def bs_draftKeys (st : BSt) : (Nat → Int64) := st.2.2.2.2.2.2.2.2.2.2.1
def bs_put_draftKeys (v : (Nat → Int64)) (st : BSt) : BSt := (st.1, st.2.1, st.2.2.1, st.2.2.2.1, st.2.2.2.2.1, st.2.2.2.2.2.1, st.2.2.2.2.2.2.1, st.2.2.2.2.2.2.2.1, st.2.2.2.2.2.2.2.2.1, st.2.2.2.2.2.2.2.2.2.1, v, st.2.2.2.2.2.2.2.2.2.2.2)
def bs_draftValues (st : BSt) : (Nat → Int64) := st.2.2.2.2.2.2.2.2.2.2.2.1
def bs_put_draftValues (v : (Nat → Int64)) (st : BSt) : BSt := (st.1, st.2.1, st.2.2.1, st.2.2.2.1, st.2.2.2.2.1, st.2.2.2.2.2.1, st.2.2.2.2.2.2.1, st.2.2.2.2.2.2.2.1, st.2.2.2.2.2.2.2.2.1, st.2.2.2.2.2.2.2.2.2.1, st.2.2.2.2.2.2.2.2.2.2.1, v, st.2.2.2.2.2.2.2.2.2.2.2.2)
def bs_draftCount (st : BSt) : Int32 := st.2.2.2.2.2.2.2.2.2.2.2.2
def bs_put_draftCount (v : Int32) (st : BSt) : BSt := (st.1, st.2.1, st.2.2.1, st.2.2.2.1, st.2.2.2.2.1, st.2.2.2.2.2.1, st.2.2.2.2.2.2.1, st.2.2.2.2.2.2.2.1, st.2.2.2.2.2.2.2.2.1, st.2.2.2.2.2.2.2.2.2.1, st.2.2.2.2.2.2.2.2.2.2.1, st.2.2.2.2.2.2.2.2.2.2.2.1, v)
def TB : u_T := fun k => match k with
  | 0 => ("LeafBook", "pageCount", "I", true)
  | 1 => ("LeafBook", "pages", "[J", true)
  | 2 => ("LeafBook", "roots", "[J", true)
  | 3 => ("LeafBook", "newest", "I", false)
  | 4 => ("LeafBook", "closed", "Z", false)
  | 5 => ("LeafBook", "canBeCut", "Z", false)
  | 6 => ("LeafBook", "takenPages", "[I", true)
  | 7 => ("LeafBook", "takenCount", "I", false)
  | 8 => ("LeafBook", "writtenRoot", "I", false)
  | 9 => ("LeafBook", "wordsBefore", "[J", true)
  | 10 => ("LeafBook", "draftKeys", "[J", true)
  | 11 => ("LeafBook", "draftValues", "[J", true)
  | _ => ("LeafBook", "draftCount", "I", false)
def tB : Nat → FieldType := fun k => match k with
  | 0 => .int
  | 1 => .array .long
  | 2 => .array .long
  | 3 => .int
  | 4 => .boolean
  | 5 => .boolean
  | 6 => .array .int
  | 7 => .int
  | 8 => .int
  | 9 => .array .long
  | 10 => .array .long
  | 11 => .array .long
  | _ => .int
theorem tB_ok : ∀ k, k < 13 → parseFieldDescriptor (TB k).2.2.1 = some (tB k) := by decide +kernel
theorem nB : ∀ a, a < 13 → ∀ b, b < 13 → a ≠ b → (TB a).2.1 ≠ (TB b).2.1 := by decide +kernel
theorem in_TB_0 : u_lay RB TB 0 ∈ lw_g := List.mem_filter.mpr ⟨List.mem_append_right _ (List.mem_of_getElem? (i := 51) (by decide +kernel)), rfl⟩
theorem in_TB_1 : u_lay RB TB 1 ∈ lw_g := List.mem_filter.mpr ⟨List.mem_append_right _ (List.mem_of_getElem? (i := 53) (by decide +kernel)), rfl⟩
theorem in_TB_2 : u_lay RB TB 2 ∈ lw_g := List.mem_filter.mpr ⟨List.mem_append_right _ (List.mem_of_getElem? (i := 55) (by decide +kernel)), rfl⟩
theorem in_TB_3 : u_lay RB TB 3 ∈ lw_g := List.mem_filter.mpr ⟨List.mem_append_right _ (List.mem_of_getElem? (i := 57) (by decide +kernel)), rfl⟩
theorem in_TB_4 : u_lay RB TB 4 ∈ lw_g := List.mem_filter.mpr ⟨List.mem_append_right _ (List.mem_of_getElem? (i := 59) (by decide +kernel)), rfl⟩
theorem in_TB_5 : u_lay RB TB 5 ∈ lw_g := List.mem_filter.mpr ⟨List.mem_append_right _ (List.mem_of_getElem? (i := 61) (by decide +kernel)), rfl⟩
theorem in_TB_6 : u_lay RB TB 6 ∈ lw_g := List.mem_filter.mpr ⟨List.mem_append_right _ (List.mem_of_getElem? (i := 63) (by decide +kernel)), rfl⟩
theorem in_TB_7 : u_lay RB TB 7 ∈ lw_g := List.mem_filter.mpr ⟨List.mem_append_right _ (List.mem_of_getElem? (i := 65) (by decide +kernel)), rfl⟩
theorem in_TB_8 : u_lay RB TB 8 ∈ lw_g := List.mem_filter.mpr ⟨List.mem_append_right _ (List.mem_of_getElem? (i := 67) (by decide +kernel)), rfl⟩
theorem in_TB_9 : u_lay RB TB 9 ∈ lw_g := List.mem_filter.mpr ⟨List.mem_append_right _ (List.mem_of_getElem? (i := 69) (by decide +kernel)), rfl⟩
theorem in_TB_10 : u_lay RB TB 10 ∈ lw_g := List.mem_filter.mpr ⟨List.mem_append_right _ (List.mem_of_getElem? (i := 71) (by decide +kernel)), rfl⟩
theorem in_TB_11 : u_lay RB TB 11 ∈ lw_g := List.mem_filter.mpr ⟨List.mem_append_right _ (List.mem_of_getElem? (i := 73) (by decide +kernel)), rfl⟩
theorem in_TB_12 : u_lay RB TB 12 ∈ lw_g := List.mem_filter.mpr ⟨List.mem_append_right _ (List.mem_of_getElem? (i := 75) (by decide +kernel)), rfl⟩
theorem in_TB : ∀ w ∈ u_ws RB TB 13, w ∈ lw_g := by
  intro w hw
  obtain ⟨k, hk, rfl⟩ := List.mem_map.mp hw
  have hk : k < 13 := List.mem_range.mp hk
  match k, hk with
  | 0, _ => exact in_TB_0
  | 1, _ => exact in_TB_1
  | 2, _ => exact in_TB_2
  | 3, _ => exact in_TB_3
  | 4, _ => exact in_TB_4
  | 5, _ => exact in_TB_5
  | 6, _ => exact in_TB_6
  | 7, _ => exact in_TB_7
  | 8, _ => exact in_TB_8
  | 9, _ => exact in_TB_9
  | 10, _ => exact in_TB_10
  | 11, _ => exact in_TB_11
  | 12, _ => exact in_TB_12
  | k + 13, h => exact absurd h (by omega)
abbrev vwCl : List vw_C := [(RB, TB, 13)]
def wB (gm : Nat → Nat) (ca : Nat → ClassId) (st : BSt) : va_W := [(gm 0, .inr (0, [.int (nI (bs_P st)), .ref (gm 1), .ref (gm 2), .int (bs_newest st), .int (bs_closed st), .int (bs_canBeCut st), .ref (gm 3), .int (bs_takenCount st), .int (bs_writtenRoot st), .ref (gm 4), .ref (gm 5), .ref (gm 6), .int (bs_draftCount st)])), (gm 1, .inl (ca 1, (16 * bs_P st), .inr (.inl (bs_pages st)))), (gm 2, .inl (ca 2, 160, .inr (.inl (bs_roots st)))), (gm 3, .inl (ca 3, 2, .inl (bs_takenPages st))), (gm 4, .inl (ca 4, 52, .inr (.inl (bs_wordsBefore st)))), (gm 5, .inl (ca 5, 8, .inr (.inl (bs_draftKeys st)))), (gm 6, .inl (ca 6, 8, .inr (.inl (bs_draftValues st))))]
def tysB (ca : Nat → ClassId) : List (ClassId × FieldType) := [(ca 1, .long), (ca 2, .long), (ca 3, .int), (ca 4, .long), (ca 5, .long), (ca 6, .long)]
def BWd (D : va_G) (gm : Nat → Nat) (ca : Nat → ClassId) (A : Nat → Prop) (H0 : Heap) (st : BSt) (H : Heap) (locs : List Loc) : Prop := va_P D vwCl (wB gm ca st) H ∧ va_D A (wB gm ca st) ∧ va_S A H0 H locs
section BR
variable {p : Program} {l : Launch} {e : Env} {R : Room} {s : State} {m : MethodId} {args : Array Value} {below : List Frame} {meth : Method} {c : Code} {H : Heap} {locs : List Loc} {cells slots : Nat} {Q : State → Prop}
variable {cc : ByteArray} {pc : Nat} {ls : Array Slot} {rest : List Value} {D : va_G} {A : Nat → Prop} {gm : Nat → Nat} {ca : Nat → ClassId} {st : BSt}
theorem bg_pageCount (hx : p.tables.exec = Jvm.exec) (hb : c.code = cc) (hown : s.vm.findClass RB = some m.cls) (hts : ∀ w ∈ lw_g, w.before args s = true) (hK : va_K D vwCl (tysB ca) s) (hP : va_P D vwCl (wB gm ca st) H) (hdg : decode cc pc = .ok (.getfield 18, 3)) (kk : W p l e R s m args below meth c H locs cells slots Q (F0 m (pc + 3) ls (.int (nI (bs_P st)) :: rest))) : W p l e R s m args below meth c H locs cells slots Q (F0 m pc ls (.ref (gm 0) :: rest)) :=
  va_get (D := D) (ci := 0) (v := .int (nI (bs_P st))) (C := RB) (T := TB) (N := 13) hx hb hts in_TB hown hK hP 0 rfl rfl 0 (by decide) (hts _ fl_pageCount) (fun _ h => h) rfl hdg kk
theorem bg_pages (hx : p.tables.exec = Jvm.exec) (hb : c.code = cc) (hown : s.vm.findClass RB = some m.cls) (hts : ∀ w ∈ lw_g, w.before args s = true) (hK : va_K D vwCl (tysB ca) s) (hP : va_P D vwCl (wB gm ca st) H) (hdg : decode cc pc = .ok (.getfield 22, 3)) (kk : W p l e R s m args below meth c H locs cells slots Q (F0 m (pc + 3) ls (.ref (gm 1) :: rest))) : W p l e R s m args below meth c H locs cells slots Q (F0 m pc ls (.ref (gm 0) :: rest)) :=
  va_get (D := D) (ci := 0) (v := .ref (gm 1)) (C := RB) (T := TB) (N := 13) hx hb hts in_TB hown hK hP 0 rfl rfl 1 (by decide) (hts _ fl_pages) (fun _ h => h) rfl hdg kk
theorem bg_roots (hx : p.tables.exec = Jvm.exec) (hb : c.code = cc) (hown : s.vm.findClass RB = some m.cls) (hts : ∀ w ∈ lw_g, w.before args s = true) (hK : va_K D vwCl (tysB ca) s) (hP : va_P D vwCl (wB gm ca st) H) (hdg : decode cc pc = .ok (.getfield 26, 3)) (kk : W p l e R s m args below meth c H locs cells slots Q (F0 m (pc + 3) ls (.ref (gm 2) :: rest))) : W p l e R s m args below meth c H locs cells slots Q (F0 m pc ls (.ref (gm 0) :: rest)) :=
  va_get (D := D) (ci := 0) (v := .ref (gm 2)) (C := RB) (T := TB) (N := 13) hx hb hts in_TB hown hK hP 0 rfl rfl 2 (by decide) (hts _ fl_roots) (fun _ h => h) rfl hdg kk
theorem bg_newest (hx : p.tables.exec = Jvm.exec) (hb : c.code = cc) (hown : s.vm.findClass RB = some m.cls) (hts : ∀ w ∈ lw_g, w.before args s = true) (hK : va_K D vwCl (tysB ca) s) (hP : va_P D vwCl (wB gm ca st) H) (hdg : decode cc pc = .ok (.getfield 52, 3)) (kk : W p l e R s m args below meth c H locs cells slots Q (F0 m (pc + 3) ls (.int (bs_newest st) :: rest))) : W p l e R s m args below meth c H locs cells slots Q (F0 m pc ls (.ref (gm 0) :: rest)) :=
  va_get (D := D) (ci := 0) (v := .int (bs_newest st)) (C := RB) (T := TB) (N := 13) hx hb hts in_TB hown hK hP 0 rfl rfl 3 (by decide) (hts _ fl_newest) (fun _ h => h) rfl hdg kk
theorem bp_newest (hx : p.tables.exec = Jvm.exec) (hb : c.code = cc) (hown : s.vm.findClass RB = some m.cls) (hts : ∀ w ∈ lw_g, w.before args s = true) (hK : va_K D vwCl (tysB ca) s) (hB : BWd D gm ca A s.heap st H locs) {v : Int32} (hdg : decode cc pc = .ok (.putfield 52, 3)) (kk : ∀ (H : Heap) (locs : List Loc), BWd D gm ca A s.heap (bs_put_newest v st) H locs → W p l e R s m args below meth c H locs cells slots Q (F0 m (pc + 3) ls (rest))) : W p l e R s m args below meth c H locs cells slots Q (F0 m pc ls (.int v :: .ref (gm 0) :: rest)) :=
  va_put (D := D) (ci := 0) (v := .int v) (ty := .int) (C := RB) (T := TB) (N := 13) hx hb hts in_TB tB tB_ok nB hown hK hB.1 hB.2.1 hB.2.2 0 rfl rfl 3 (by decide) (hts _ fl_newest) (fun _ h => h) rfl (by decide +kernel) rfl rfl (Nat.le_of_ble_eq_true rfl) hdg (fun H locs hP hD hS => kk H locs ⟨hP, hD, hS⟩)
theorem bg_closed (hx : p.tables.exec = Jvm.exec) (hb : c.code = cc) (hown : s.vm.findClass RB = some m.cls) (hts : ∀ w ∈ lw_g, w.before args s = true) (hK : va_K D vwCl (tysB ca) s) (hP : va_P D vwCl (wB gm ca st) H) (hdg : decode cc pc = .ok (.getfield 135, 3)) (kk : W p l e R s m args below meth c H locs cells slots Q (F0 m (pc + 3) ls (.int (bs_closed st) :: rest))) : W p l e R s m args below meth c H locs cells slots Q (F0 m pc ls (.ref (gm 0) :: rest)) :=
  va_get (D := D) (ci := 0) (v := .int (bs_closed st)) (C := RB) (T := TB) (N := 13) hx hb hts in_TB hown hK hP 0 rfl rfl 4 (by decide) (hts _ fl_closed) (fun _ h => h) rfl hdg kk
theorem bp_closed (hx : p.tables.exec = Jvm.exec) (hb : c.code = cc) (hown : s.vm.findClass RB = some m.cls) (hts : ∀ w ∈ lw_g, w.before args s = true) (hK : va_K D vwCl (tysB ca) s) (hB : BWd D gm ca A s.heap st H locs) {v : Int32} (hn : narrow .boolean (.int v) = .int v) (hfit : fits .boolean (.int v) = true) (hdg : decode cc pc = .ok (.putfield 135, 3)) (kk : ∀ (H : Heap) (locs : List Loc), BWd D gm ca A s.heap (bs_put_closed v st) H locs → W p l e R s m args below meth c H locs cells slots Q (F0 m (pc + 3) ls (rest))) : W p l e R s m args below meth c H locs cells slots Q (F0 m pc ls (.int v :: .ref (gm 0) :: rest)) :=
  va_put (D := D) (ci := 0) (v := .int v) (ty := .boolean) (C := RB) (T := TB) (N := 13) hx hb hts in_TB tB tB_ok nB hown hK hB.1 hB.2.1 hB.2.2 0 rfl rfl 4 (by decide) (hts _ fl_closed) (fun _ h => h) rfl (by decide +kernel) hn hfit (Nat.le_of_ble_eq_true rfl) hdg (fun H locs hP hD hS => kk H locs ⟨hP, hD, hS⟩)
theorem bg_canBeCut (hx : p.tables.exec = Jvm.exec) (hb : c.code = cc) (hown : s.vm.findClass RB = some m.cls) (hts : ∀ w ∈ lw_g, w.before args s = true) (hK : va_K D vwCl (tysB ca) s) (hP : va_P D vwCl (wB gm ca st) H) (hdg : decode cc pc = .ok (.getfield 121, 3)) (kk : W p l e R s m args below meth c H locs cells slots Q (F0 m (pc + 3) ls (.int (bs_canBeCut st) :: rest))) : W p l e R s m args below meth c H locs cells slots Q (F0 m pc ls (.ref (gm 0) :: rest)) :=
  va_get (D := D) (ci := 0) (v := .int (bs_canBeCut st)) (C := RB) (T := TB) (N := 13) hx hb hts in_TB hown hK hP 0 rfl rfl 5 (by decide) (hts _ fl_canBeCut) (fun _ h => h) rfl hdg kk
theorem bp_canBeCut (hx : p.tables.exec = Jvm.exec) (hb : c.code = cc) (hown : s.vm.findClass RB = some m.cls) (hts : ∀ w ∈ lw_g, w.before args s = true) (hK : va_K D vwCl (tysB ca) s) (hB : BWd D gm ca A s.heap st H locs) {v : Int32} (hn : narrow .boolean (.int v) = .int v) (hfit : fits .boolean (.int v) = true) (hdg : decode cc pc = .ok (.putfield 121, 3)) (kk : ∀ (H : Heap) (locs : List Loc), BWd D gm ca A s.heap (bs_put_canBeCut v st) H locs → W p l e R s m args below meth c H locs cells slots Q (F0 m (pc + 3) ls (rest))) : W p l e R s m args below meth c H locs cells slots Q (F0 m pc ls (.int v :: .ref (gm 0) :: rest)) :=
  va_put (D := D) (ci := 0) (v := .int v) (ty := .boolean) (C := RB) (T := TB) (N := 13) hx hb hts in_TB tB tB_ok nB hown hK hB.1 hB.2.1 hB.2.2 0 rfl rfl 5 (by decide) (hts _ fl_canBeCut) (fun _ h => h) rfl (by decide +kernel) hn hfit (Nat.le_of_ble_eq_true rfl) hdg (fun H locs hP hD hS => kk H locs ⟨hP, hD, hS⟩)
theorem bg_takenPages (hx : p.tables.exec = Jvm.exec) (hb : c.code = cc) (hown : s.vm.findClass RB = some m.cls) (hts : ∀ w ∈ lw_g, w.before args s = true) (hK : va_K D vwCl (tysB ca) s) (hP : va_P D vwCl (wB gm ca st) H) (hdg : decode cc pc = .ok (.getfield 29, 3)) (kk : W p l e R s m args below meth c H locs cells slots Q (F0 m (pc + 3) ls (.ref (gm 3) :: rest))) : W p l e R s m args below meth c H locs cells slots Q (F0 m pc ls (.ref (gm 0) :: rest)) :=
  va_get (D := D) (ci := 0) (v := .ref (gm 3)) (C := RB) (T := TB) (N := 13) hx hb hts in_TB hown hK hP 0 rfl rfl 6 (by decide) (hts _ fl_takenPages) (fun _ h => h) rfl hdg kk
theorem bg_takenCount (hx : p.tables.exec = Jvm.exec) (hb : c.code = cc) (hown : s.vm.findClass RB = some m.cls) (hts : ∀ w ∈ lw_g, w.before args s = true) (hK : va_K D vwCl (tysB ca) s) (hP : va_P D vwCl (wB gm ca st) H) (hdg : decode cc pc = .ok (.getfield 250, 3)) (kk : W p l e R s m args below meth c H locs cells slots Q (F0 m (pc + 3) ls (.int (bs_takenCount st) :: rest))) : W p l e R s m args below meth c H locs cells slots Q (F0 m pc ls (.ref (gm 0) :: rest)) :=
  va_get (D := D) (ci := 0) (v := .int (bs_takenCount st)) (C := RB) (T := TB) (N := 13) hx hb hts in_TB hown hK hP 0 rfl rfl 7 (by decide) (hts _ fl_takenCount) (fun _ h => h) rfl hdg kk
theorem bp_takenCount (hx : p.tables.exec = Jvm.exec) (hb : c.code = cc) (hown : s.vm.findClass RB = some m.cls) (hts : ∀ w ∈ lw_g, w.before args s = true) (hK : va_K D vwCl (tysB ca) s) (hB : BWd D gm ca A s.heap st H locs) {v : Int32} (hdg : decode cc pc = .ok (.putfield 250, 3)) (kk : ∀ (H : Heap) (locs : List Loc), BWd D gm ca A s.heap (bs_put_takenCount v st) H locs → W p l e R s m args below meth c H locs cells slots Q (F0 m (pc + 3) ls (rest))) : W p l e R s m args below meth c H locs cells slots Q (F0 m pc ls (.int v :: .ref (gm 0) :: rest)) :=
  va_put (D := D) (ci := 0) (v := .int v) (ty := .int) (C := RB) (T := TB) (N := 13) hx hb hts in_TB tB tB_ok nB hown hK hB.1 hB.2.1 hB.2.2 0 rfl rfl 7 (by decide) (hts _ fl_takenCount) (fun _ h => h) rfl (by decide +kernel) rfl rfl (Nat.le_of_ble_eq_true rfl) hdg (fun H locs hP hD hS => kk H locs ⟨hP, hD, hS⟩)
theorem bg_writtenRoot (hx : p.tables.exec = Jvm.exec) (hb : c.code = cc) (hown : s.vm.findClass RB = some m.cls) (hts : ∀ w ∈ lw_g, w.before args s = true) (hK : va_K D vwCl (tysB ca) s) (hP : va_P D vwCl (wB gm ca st) H) (hdg : decode cc pc = .ok (.getfield 253, 3)) (kk : W p l e R s m args below meth c H locs cells slots Q (F0 m (pc + 3) ls (.int (bs_writtenRoot st) :: rest))) : W p l e R s m args below meth c H locs cells slots Q (F0 m pc ls (.ref (gm 0) :: rest)) :=
  va_get (D := D) (ci := 0) (v := .int (bs_writtenRoot st)) (C := RB) (T := TB) (N := 13) hx hb hts in_TB hown hK hP 0 rfl rfl 8 (by decide) (hts _ fl_writtenRoot) (fun _ h => h) rfl hdg kk
theorem bp_writtenRoot (hx : p.tables.exec = Jvm.exec) (hb : c.code = cc) (hown : s.vm.findClass RB = some m.cls) (hts : ∀ w ∈ lw_g, w.before args s = true) (hK : va_K D vwCl (tysB ca) s) (hB : BWd D gm ca A s.heap st H locs) {v : Int32} (hdg : decode cc pc = .ok (.putfield 253, 3)) (kk : ∀ (H : Heap) (locs : List Loc), BWd D gm ca A s.heap (bs_put_writtenRoot v st) H locs → W p l e R s m args below meth c H locs cells slots Q (F0 m (pc + 3) ls (rest))) : W p l e R s m args below meth c H locs cells slots Q (F0 m pc ls (.int v :: .ref (gm 0) :: rest)) :=
  va_put (D := D) (ci := 0) (v := .int v) (ty := .int) (C := RB) (T := TB) (N := 13) hx hb hts in_TB tB tB_ok nB hown hK hB.1 hB.2.1 hB.2.2 0 rfl rfl 8 (by decide) (hts _ fl_writtenRoot) (fun _ h => h) rfl (by decide +kernel) rfl rfl (Nat.le_of_ble_eq_true rfl) hdg (fun H locs hP hD hS => kk H locs ⟨hP, hD, hS⟩)
theorem bg_wordsBefore (hx : p.tables.exec = Jvm.exec) (hb : c.code = cc) (hown : s.vm.findClass RB = some m.cls) (hts : ∀ w ∈ lw_g, w.before args s = true) (hK : va_K D vwCl (tysB ca) s) (hP : va_P D vwCl (wB gm ca st) H) (hdg : decode cc pc = .ok (.getfield 33, 3)) (kk : W p l e R s m args below meth c H locs cells slots Q (F0 m (pc + 3) ls (.ref (gm 4) :: rest))) : W p l e R s m args below meth c H locs cells slots Q (F0 m pc ls (.ref (gm 0) :: rest)) :=
  va_get (D := D) (ci := 0) (v := .ref (gm 4)) (C := RB) (T := TB) (N := 13) hx hb hts in_TB hown hK hP 0 rfl rfl 9 (by decide) (hts _ fl_wordsBefore) (fun _ h => h) rfl hdg kk
theorem bg_draftKeys (hx : p.tables.exec = Jvm.exec) (hb : c.code = cc) (hown : s.vm.findClass RB = some m.cls) (hts : ∀ w ∈ lw_g, w.before args s = true) (hK : va_K D vwCl (tysB ca) s) (hP : va_P D vwCl (wB gm ca st) H) (hdg : decode cc pc = .ok (.getfield 36, 3)) (kk : W p l e R s m args below meth c H locs cells slots Q (F0 m (pc + 3) ls (.ref (gm 5) :: rest))) : W p l e R s m args below meth c H locs cells slots Q (F0 m pc ls (.ref (gm 0) :: rest)) :=
  va_get (D := D) (ci := 0) (v := .ref (gm 5)) (C := RB) (T := TB) (N := 13) hx hb hts in_TB hown hK hP 0 rfl rfl 10 (by decide) (hts _ fl_draftKeys) (fun _ h => h) rfl hdg kk
theorem bg_draftValues (hx : p.tables.exec = Jvm.exec) (hb : c.code = cc) (hown : s.vm.findClass RB = some m.cls) (hts : ∀ w ∈ lw_g, w.before args s = true) (hK : va_K D vwCl (tysB ca) s) (hP : va_P D vwCl (wB gm ca st) H) (hdg : decode cc pc = .ok (.getfield 39, 3)) (kk : W p l e R s m args below meth c H locs cells slots Q (F0 m (pc + 3) ls (.ref (gm 6) :: rest))) : W p l e R s m args below meth c H locs cells slots Q (F0 m pc ls (.ref (gm 0) :: rest)) :=
  va_get (D := D) (ci := 0) (v := .ref (gm 6)) (C := RB) (T := TB) (N := 13) hx hb hts in_TB hown hK hP 0 rfl rfl 11 (by decide) (hts _ fl_draftValues) (fun _ h => h) rfl hdg kk
theorem bg_draftCount (hx : p.tables.exec = Jvm.exec) (hb : c.code = cc) (hown : s.vm.findClass RB = some m.cls) (hts : ∀ w ∈ lw_g, w.before args s = true) (hK : va_K D vwCl (tysB ca) s) (hP : va_P D vwCl (wB gm ca st) H) (hdg : decode cc pc = .ok (.getfield 233, 3)) (kk : W p l e R s m args below meth c H locs cells slots Q (F0 m (pc + 3) ls (.int (bs_draftCount st) :: rest))) : W p l e R s m args below meth c H locs cells slots Q (F0 m pc ls (.ref (gm 0) :: rest)) :=
  va_get (D := D) (ci := 0) (v := .int (bs_draftCount st)) (C := RB) (T := TB) (N := 13) hx hb hts in_TB hown hK hP 0 rfl rfl 12 (by decide) (hts _ fl_draftCount) (fun _ h => h) rfl hdg kk
theorem bp_draftCount (hx : p.tables.exec = Jvm.exec) (hb : c.code = cc) (hown : s.vm.findClass RB = some m.cls) (hts : ∀ w ∈ lw_g, w.before args s = true) (hK : va_K D vwCl (tysB ca) s) (hB : BWd D gm ca A s.heap st H locs) {v : Int32} (hdg : decode cc pc = .ok (.putfield 233, 3)) (kk : ∀ (H : Heap) (locs : List Loc), BWd D gm ca A s.heap (bs_put_draftCount v st) H locs → W p l e R s m args below meth c H locs cells slots Q (F0 m (pc + 3) ls (rest))) : W p l e R s m args below meth c H locs cells slots Q (F0 m pc ls (.int v :: .ref (gm 0) :: rest)) :=
  va_put (D := D) (ci := 0) (v := .int v) (ty := .int) (C := RB) (T := TB) (N := 13) hx hb hts in_TB tB tB_ok nB hown hK hB.1 hB.2.1 hB.2.2 0 rfl rfl 12 (by decide) (hts _ fl_draftCount) (fun _ h => h) rfl (by decide +kernel) rfl rfl (Nat.le_of_ble_eq_true rfl) hdg (fun H locs hP hD hS => kk H locs ⟨hP, hD, hS⟩)
theorem bl_pages (hx : p.tables.exec = Jvm.exec) (hb : c.code = cc) (hK : va_K D vwCl (tysB ca) s) (hP : va_P D vwCl (wB gm ca st) H) {i : Int32} {v : Int64} (hin : vp_in i (16 * bs_P st)) (hv : bs_pages st i.toNatClampNeg = v) (hdg : decode cc pc = .ok (.laload, 1)) (kk : W p l e R s m args below meth c H locs cells slots Q (F0 m (pc + 1) ls (.long v :: rest))) : W p l e R s m args below meth c H locs cells slots Q (F0 m pc ls (.int i :: .ref (gm 1) :: rest)) := by
  subst hv
  exact va_lald hx hb hK hP 1 0 rfl rfl hin hdg kk
theorem bt_pages (hx : p.tables.exec = Jvm.exec) (hb : c.code = cc) (hK : va_K D vwCl (tysB ca) s) (hB : BWd D gm ca A s.heap st H locs) {i : Int32} {x : Int64} {v : Nat → Int64} (hin : vp_in i (16 * bs_P st)) (hv : vp_updL (bs_pages st) i.toNatClampNeg x = v) (hdg : decode cc pc = .ok (.lastore, 1)) (kk : ∀ (H : Heap) (locs : List Loc), BWd D gm ca A s.heap (bs_put_pages v st) H locs → W p l e R s m args below meth c H locs cells slots Q (F0 m (pc + 1) ls (rest))) : W p l e R s m args below meth c H locs cells slots Q (F0 m pc ls (.long x :: .int i :: .ref (gm 1) :: rest)) := by
  subst hv
  exact va_last hx hb hK hB.1 hB.2.1 hB.2.2 1 0 rfl rfl hin hdg (fun H locs hP hD hS => kk H locs ⟨hP, hD, hS⟩)
theorem bl_roots (hx : p.tables.exec = Jvm.exec) (hb : c.code = cc) (hK : va_K D vwCl (tysB ca) s) (hP : va_P D vwCl (wB gm ca st) H) {i : Int32} {v : Int64} (hin : vp_in i 160) (hv : bs_roots st i.toNatClampNeg = v) (hdg : decode cc pc = .ok (.laload, 1)) (kk : W p l e R s m args below meth c H locs cells slots Q (F0 m (pc + 1) ls (.long v :: rest))) : W p l e R s m args below meth c H locs cells slots Q (F0 m pc ls (.int i :: .ref (gm 2) :: rest)) := by
  subst hv
  exact va_lald hx hb hK hP 2 1 rfl rfl hin hdg kk
theorem bt_roots (hx : p.tables.exec = Jvm.exec) (hb : c.code = cc) (hK : va_K D vwCl (tysB ca) s) (hB : BWd D gm ca A s.heap st H locs) {i : Int32} {x : Int64} {v : Nat → Int64} (hin : vp_in i 160) (hv : vp_updL (bs_roots st) i.toNatClampNeg x = v) (hdg : decode cc pc = .ok (.lastore, 1)) (kk : ∀ (H : Heap) (locs : List Loc), BWd D gm ca A s.heap (bs_put_roots v st) H locs → W p l e R s m args below meth c H locs cells slots Q (F0 m (pc + 1) ls (rest))) : W p l e R s m args below meth c H locs cells slots Q (F0 m pc ls (.long x :: .int i :: .ref (gm 2) :: rest)) := by
  subst hv
  exact va_last hx hb hK hB.1 hB.2.1 hB.2.2 2 1 rfl rfl hin hdg (fun H locs hP hD hS => kk H locs ⟨hP, hD, hS⟩)
theorem bl_takenPages (hx : p.tables.exec = Jvm.exec) (hb : c.code = cc) (hK : va_K D vwCl (tysB ca) s) (hP : va_P D vwCl (wB gm ca st) H) {i : Int32} {v : Int32} (hin : vp_in i 2) (hv : bs_takenPages st i.toNatClampNeg = v) (hdg : decode cc pc = .ok (.iaload, 1)) (kk : W p l e R s m args below meth c H locs cells slots Q (F0 m (pc + 1) ls (.int v :: rest))) : W p l e R s m args below meth c H locs cells slots Q (F0 m pc ls (.int i :: .ref (gm 3) :: rest)) := by
  subst hv
  exact va_iald hx hb hK hP 3 2 rfl rfl hin hdg kk
theorem bt_takenPages (hx : p.tables.exec = Jvm.exec) (hb : c.code = cc) (hK : va_K D vwCl (tysB ca) s) (hB : BWd D gm ca A s.heap st H locs) {i : Int32} {x : Int32} {v : Nat → Int32} (hin : vp_in i 2) (hv : upd (bs_takenPages st) i.toNatClampNeg x = v) (hdg : decode cc pc = .ok (.iastore, 1)) (kk : ∀ (H : Heap) (locs : List Loc), BWd D gm ca A s.heap (bs_put_takenPages v st) H locs → W p l e R s m args below meth c H locs cells slots Q (F0 m (pc + 1) ls (rest))) : W p l e R s m args below meth c H locs cells slots Q (F0 m pc ls (.int x :: .int i :: .ref (gm 3) :: rest)) := by
  subst hv
  exact va_iast hx hb hK hB.1 hB.2.1 hB.2.2 3 2 rfl rfl hin hdg (fun H locs hP hD hS => kk H locs ⟨hP, hD, hS⟩)
theorem bl_wordsBefore (hx : p.tables.exec = Jvm.exec) (hb : c.code = cc) (hK : va_K D vwCl (tysB ca) s) (hP : va_P D vwCl (wB gm ca st) H) {i : Int32} {v : Int64} (hin : vp_in i 52) (hv : bs_wordsBefore st i.toNatClampNeg = v) (hdg : decode cc pc = .ok (.laload, 1)) (kk : W p l e R s m args below meth c H locs cells slots Q (F0 m (pc + 1) ls (.long v :: rest))) : W p l e R s m args below meth c H locs cells slots Q (F0 m pc ls (.int i :: .ref (gm 4) :: rest)) := by
  subst hv
  exact va_lald hx hb hK hP 4 3 rfl rfl hin hdg kk
theorem bt_wordsBefore (hx : p.tables.exec = Jvm.exec) (hb : c.code = cc) (hK : va_K D vwCl (tysB ca) s) (hB : BWd D gm ca A s.heap st H locs) {i : Int32} {x : Int64} {v : Nat → Int64} (hin : vp_in i 52) (hv : vp_updL (bs_wordsBefore st) i.toNatClampNeg x = v) (hdg : decode cc pc = .ok (.lastore, 1)) (kk : ∀ (H : Heap) (locs : List Loc), BWd D gm ca A s.heap (bs_put_wordsBefore v st) H locs → W p l e R s m args below meth c H locs cells slots Q (F0 m (pc + 1) ls (rest))) : W p l e R s m args below meth c H locs cells slots Q (F0 m pc ls (.long x :: .int i :: .ref (gm 4) :: rest)) := by
  subst hv
  exact va_last hx hb hK hB.1 hB.2.1 hB.2.2 4 3 rfl rfl hin hdg (fun H locs hP hD hS => kk H locs ⟨hP, hD, hS⟩)
theorem bl_draftKeys (hx : p.tables.exec = Jvm.exec) (hb : c.code = cc) (hK : va_K D vwCl (tysB ca) s) (hP : va_P D vwCl (wB gm ca st) H) {i : Int32} {v : Int64} (hin : vp_in i 8) (hv : bs_draftKeys st i.toNatClampNeg = v) (hdg : decode cc pc = .ok (.laload, 1)) (kk : W p l e R s m args below meth c H locs cells slots Q (F0 m (pc + 1) ls (.long v :: rest))) : W p l e R s m args below meth c H locs cells slots Q (F0 m pc ls (.int i :: .ref (gm 5) :: rest)) := by
  subst hv
  exact va_lald hx hb hK hP 5 4 rfl rfl hin hdg kk
theorem bt_draftKeys (hx : p.tables.exec = Jvm.exec) (hb : c.code = cc) (hK : va_K D vwCl (tysB ca) s) (hB : BWd D gm ca A s.heap st H locs) {i : Int32} {x : Int64} {v : Nat → Int64} (hin : vp_in i 8) (hv : vp_updL (bs_draftKeys st) i.toNatClampNeg x = v) (hdg : decode cc pc = .ok (.lastore, 1)) (kk : ∀ (H : Heap) (locs : List Loc), BWd D gm ca A s.heap (bs_put_draftKeys v st) H locs → W p l e R s m args below meth c H locs cells slots Q (F0 m (pc + 1) ls (rest))) : W p l e R s m args below meth c H locs cells slots Q (F0 m pc ls (.long x :: .int i :: .ref (gm 5) :: rest)) := by
  subst hv
  exact va_last hx hb hK hB.1 hB.2.1 hB.2.2 5 4 rfl rfl hin hdg (fun H locs hP hD hS => kk H locs ⟨hP, hD, hS⟩)
theorem bl_draftValues (hx : p.tables.exec = Jvm.exec) (hb : c.code = cc) (hK : va_K D vwCl (tysB ca) s) (hP : va_P D vwCl (wB gm ca st) H) {i : Int32} {v : Int64} (hin : vp_in i 8) (hv : bs_draftValues st i.toNatClampNeg = v) (hdg : decode cc pc = .ok (.laload, 1)) (kk : W p l e R s m args below meth c H locs cells slots Q (F0 m (pc + 1) ls (.long v :: rest))) : W p l e R s m args below meth c H locs cells slots Q (F0 m pc ls (.int i :: .ref (gm 6) :: rest)) := by
  subst hv
  exact va_lald hx hb hK hP 6 5 rfl rfl hin hdg kk
theorem bt_draftValues (hx : p.tables.exec = Jvm.exec) (hb : c.code = cc) (hK : va_K D vwCl (tysB ca) s) (hB : BWd D gm ca A s.heap st H locs) {i : Int32} {x : Int64} {v : Nat → Int64} (hin : vp_in i 8) (hv : vp_updL (bs_draftValues st) i.toNatClampNeg x = v) (hdg : decode cc pc = .ok (.lastore, 1)) (kk : ∀ (H : Heap) (locs : List Loc), BWd D gm ca A s.heap (bs_put_draftValues v st) H locs → W p l e R s m args below meth c H locs cells slots Q (F0 m (pc + 1) ls (rest))) : W p l e R s m args below meth c H locs cells slots Q (F0 m pc ls (.long x :: .int i :: .ref (gm 6) :: rest)) := by
  subst hv
  exact va_last hx hb hK hB.1 hB.2.1 hB.2.2 6 5 rfl rfl hin hdg (fun H locs hP hD hS => kk H locs ⟨hP, hD, hS⟩)
theorem ba_ld {a0 k0 : Nat} {cA : ClassId} {f0 : Nat → Int64} (hx : p.tables.exec = Jvm.exec) (hb : c.code = cc) (hK : va_K D vwCl [(cA, .long)] s) (hP : va_P D vwCl [(a0, .inl (cA, k0, .inr (.inl f0)))] H) {i : Int32} {v : Int64} (hin : vp_in i k0) (hv : f0 i.toNatClampNeg = v) (hdg : decode cc pc = .ok (.laload, 1)) (kk : W p l e R s m args below meth c H locs cells slots Q (F0 m (pc + 1) ls (.long v :: rest))) : W p l e R s m args below meth c H locs cells slots Q (F0 m pc ls (.int i :: .ref a0 :: rest)) := by
  subst hv
  exact va_lald hx hb hK hP 0 0 rfl rfl hin hdg kk
theorem bc_pages_wordsBefore (hx : p.tables.exec = Jvm.exec) (hb : c.code = cc) (hml : c.maxLocals = ls.size) (hown : s.vm.findClass RB = some m.cls) (hts : ∀ w ∈ lw_g, w.before args s = true) (hK : va_K D vwCl (tysB ca) s) (hB : BWd D gm ca A s.heap st H locs) {sp dp n : Int32} {v : Nat → Int64} (hin : cpIn sp dp n (16 * bs_P st) 52) (hv : va_cpy (bs_pages st) (bs_wordsBefore st) sp.toNatClampNeg dp.toNatClampNeg n.toNatClampNeg = v) (hR : 1 ≤ R.frames ∧ nativeFrameWords "java/lang/System" "arraycopy" 5 + 11 ≤ R.locals) (hdg : decode cc pc = .ok (.invokestatic 272, 3)) (kk : ∀ (H : Heap) (locs : List Loc), BWd D gm ca A s.heap (bs_put_wordsBefore v st) H locs → W p l e R s m args below meth c H locs cells slots Q (F0 m (pc + 3) ls [])) : W p l e R s m args below meth c H locs cells slots Q (F0 m pc ls (.int n :: .int dp :: .ref (gm 4) :: .int sp :: .ref (gm 1) :: [])) := by
  subst hv
  exact va_copyl hx hb hml hown (hts _ ac_link) (hts _ ac_native) (hts _ ac_static) (hts _ ac_init) hK hB.1 hB.2.1 hB.2.2 1 4 0 3 rfl rfl rfl rfl rfl hin.1 hin.2.1 hin.2.2.1 hin.2.2.2.1 hin.2.2.2.2 (fun _ _ => rfl) hR.1 (by show 0 + _ ≤ _; omega) hdg (fun H locs hP hD hS => kk H locs ⟨hP, hD, hS⟩)
theorem bc_roots_wordsBefore (hx : p.tables.exec = Jvm.exec) (hb : c.code = cc) (hml : c.maxLocals = ls.size) (hown : s.vm.findClass RB = some m.cls) (hts : ∀ w ∈ lw_g, w.before args s = true) (hK : va_K D vwCl (tysB ca) s) (hB : BWd D gm ca A s.heap st H locs) {sp dp n : Int32} {v : Nat → Int64} (hin : cpIn sp dp n 160 52) (hv : va_cpy (bs_roots st) (bs_wordsBefore st) sp.toNatClampNeg dp.toNatClampNeg n.toNatClampNeg = v) (hR : 1 ≤ R.frames ∧ nativeFrameWords "java/lang/System" "arraycopy" 5 + 11 ≤ R.locals) (hdg : decode cc pc = .ok (.invokestatic 272, 3)) (kk : ∀ (H : Heap) (locs : List Loc), BWd D gm ca A s.heap (bs_put_wordsBefore v st) H locs → W p l e R s m args below meth c H locs cells slots Q (F0 m (pc + 3) ls [])) : W p l e R s m args below meth c H locs cells slots Q (F0 m pc ls (.int n :: .int dp :: .ref (gm 4) :: .int sp :: .ref (gm 2) :: [])) := by
  subst hv
  exact va_copyl hx hb hml hown (hts _ ac_link) (hts _ ac_native) (hts _ ac_static) (hts _ ac_init) hK hB.1 hB.2.1 hB.2.2 2 4 1 3 rfl rfl rfl rfl rfl hin.1 hin.2.1 hin.2.2.1 hin.2.2.2.1 hin.2.2.2.2 (fun _ _ => rfl) hR.1 (by show 0 + _ ≤ _; omega) hdg (fun H locs hP hD hS => kk H locs ⟨hP, hD, hS⟩)
end BR
