/-! the book as a value, and as cells -/
abbrev BSt : Type := Nat × (Nat → Int64) × (Nat → Int64) × Int32 × Int32 × Int32 × (Nat → Int32) × Int32 × Int32 × (Nat → Int64) × (Nat → Int64) × (Nat → Int64) × Int32
def bs_P (st : BSt) : Nat := st.1
def bs_pages (st : BSt) : (Nat → Int64) := st.2.1
def bs_put_pages (v : (Nat → Int64)) (st : BSt) : BSt := (st.1, v, st.2.2)
def bs_roots (st : BSt) : (Nat → Int64) := st.2.2.1
def bs_put_roots (v : (Nat → Int64)) (st : BSt) : BSt := (st.1, st.2.1, v, st.2.2.2)
def bs_newest (st : BSt) : Int32 := st.2.2.2.1
def bs_put_newest (v : Int32) (st : BSt) : BSt := (st.1, st.2.1, st.2.2.1, v, st.2.2.2.2)
def bs_closed (st : BSt) : Int32 := st.2.2.2.2.1
def bs_put_closed (v : Int32) (st : BSt) : BSt := (st.1, st.2.1, st.2.2.1, st.2.2.2.1, v, st.2.2.2.2.2)
def bs_canBeCut (st : BSt) : Int32 := st.2.2.2.2.2.1
def bs_put_canBeCut (v : Int32) (st : BSt) : BSt := (st.1, st.2.1, st.2.2.1, st.2.2.2.1, st.2.2.2.2.1, v, st.2.2.2.2.2.2)
def bs_takenPages (st : BSt) : (Nat → Int32) := st.2.2.2.2.2.2.1
def bs_put_takenPages (v : (Nat → Int32)) (st : BSt) : BSt := (st.1, st.2.1, st.2.2.1, st.2.2.2.1, st.2.2.2.2.1, st.2.2.2.2.2.1, v, st.2.2.2.2.2.2.2)
def bs_takenCount (st : BSt) : Int32 := st.2.2.2.2.2.2.2.1
def bs_put_takenCount (v : Int32) (st : BSt) : BSt := (st.1, st.2.1, st.2.2.1, st.2.2.2.1, st.2.2.2.2.1, st.2.2.2.2.2.1, st.2.2.2.2.2.2.1, v, st.2.2.2.2.2.2.2.2)
def bs_writtenRoot (st : BSt) : Int32 := st.2.2.2.2.2.2.2.2.1
def bs_put_writtenRoot (v : Int32) (st : BSt) : BSt := (st.1, st.2.1, st.2.2.1, st.2.2.2.1, st.2.2.2.2.1, st.2.2.2.2.2.1, st.2.2.2.2.2.2.1, st.2.2.2.2.2.2.2.1, v, st.2.2.2.2.2.2.2.2.2)
def bs_wordsBefore (st : BSt) : (Nat → Int64) := st.2.2.2.2.2.2.2.2.2.1
def bs_put_wordsBefore (v : (Nat → Int64)) (st : BSt) : BSt := (st.1, st.2.1, st.2.2.1, st.2.2.2.1, st.2.2.2.2.1, st.2.2.2.2.2.1, st.2.2.2.2.2.2.1, st.2.2.2.2.2.2.2.1, st.2.2.2.2.2.2.2.2.1, v, st.2.2.2.2.2.2.2.2.2.2)
def bs_draftKeys (st : BSt) : (Nat → Int64) := st.2.2.2.2.2.2.2.2.2.2.1
def bs_put_draftKeys (v : (Nat → Int64)) (st : BSt) : BSt := (st.1, st.2.1, st.2.2.1, st.2.2.2.1, st.2.2.2.2.1, st.2.2.2.2.2.1, st.2.2.2.2.2.2.1, st.2.2.2.2.2.2.2.1, st.2.2.2.2.2.2.2.2.1, st.2.2.2.2.2.2.2.2.2.1, v, st.2.2.2.2.2.2.2.2.2.2.2)
def bs_draftValues (st : BSt) : (Nat → Int64) := st.2.2.2.2.2.2.2.2.2.2.2.1
def bs_put_draftValues (v : (Nat → Int64)) (st : BSt) : BSt := (st.1, st.2.1, st.2.2.1, st.2.2.2.1, st.2.2.2.2.1, st.2.2.2.2.2.1, st.2.2.2.2.2.2.1, st.2.2.2.2.2.2.2.1, st.2.2.2.2.2.2.2.2.1, st.2.2.2.2.2.2.2.2.2.1, st.2.2.2.2.2.2.2.2.2.2.1, v, st.2.2.2.2.2.2.2.2.2.2.2.2)
def bs_draftCount (st : BSt) : Int32 := st.2.2.2.2.2.2.2.2.2.2.2.2
def bs_put_draftCount (v : Int32) (st : BSt) : BSt := (st.1, st.2.1, st.2.2.1, st.2.2.2.1, st.2.2.2.2.1, st.2.2.2.2.2.1, st.2.2.2.2.2.2.1, st.2.2.2.2.2.2.2.1, st.2.2.2.2.2.2.2.2.1, st.2.2.2.2.2.2.2.2.2.1, st.2.2.2.2.2.2.2.2.2.2.1, st.2.2.2.2.2.2.2.2.2.2.2.1, v)
def TB : u_T := fun k => match k with
  | 0 => ("LeafBook", "pageCount", "I", true)
  | 1 => ("LeafBook", "pages", "[J", true)
  | 2 => ("LeafBook", "roots", "[J", true)
  | 3 => ("LeafBook", "newest", "I", false)
  | 4 => ("LeafBook", "closed", "Z", false)
  | 5 => ("LeafBook", "canBeCut", "Z", false)
  | 6 => ("LeafBook", "takenPages", "[I", true)
  | 7 => ("LeafBook", "takenCount", "I", false)
  | 8 => ("LeafBook", "writtenRoot", "I", false)
  | 9 => ("LeafBook", "wordsBefore", "[J", true)
  | 10 => ("LeafBook", "draftKeys", "[J", true)
  | 11 => ("LeafBook", "draftValues", "[J", true)
  | _ => ("LeafBook", "draftCount", "I", false)
def tB : Nat → FieldType := fun k => match k with
  | 0 => .int
  | 1 => .array .long
  | 2 => .array .long
  | 3 => .int
  | 4 => .boolean
  | 5 => .boolean
  | 6 => .array .int
  | 7 => .int
  | 8 => .int
  | 9 => .array .long
  | 10 => .array .long
  | 11 => .array .long
  | _ => .int
theorem tB_ok : ∀ k, k < 13 → parseFieldDescriptor (TB k).2.2.1 = some (tB k) := by decide +kernel
theorem nB : ∀ a, a < 13 → ∀ b, b < 13 → a ≠ b → (TB a).2.1 ≠ (TB b).2.1 := by decide +kernel
theorem in_TB_0 : u_lay RB TB 0 ∈ lw_g := List.mem_filter.mpr ⟨List.mem_append_right _ (List.mem_of_getElem? (i := 51) (by decide +kernel)), rfl⟩
theorem in_TB_1 : u_lay RB TB 1 ∈ lw_g := List.mem_filter.mpr ⟨List.mem_append_right _ (List.mem_of_getElem? (i := 53) (by decide +kernel)), rfl⟩
theorem in_TB_2 : u_lay RB TB 2 ∈ lw_g := List.mem_filter.mpr ⟨List.mem_append_right _ (List.mem_of_getElem? (i := 55) (by decide +kernel)), rfl⟩
theorem in_TB_3 : u_lay RB TB 3 ∈ lw_g := List.mem_filter.mpr ⟨List.mem_append_right _ (List.mem_of_getElem? (i := 57) (by decide +kernel)), rfl⟩
theorem in_TB_4 : u_lay RB TB 4 ∈ lw_g := List.mem_filter.mpr ⟨List.mem_append_right _ (List.mem_of_getElem? (i := 59) (by decide +kernel)), rfl⟩
theorem in_TB_5 : u_lay RB TB 5 ∈ lw_g := List.mem_filter.mpr ⟨List.mem_append_right _ (List.mem_of_getElem? (i := 61) (by decide +kernel)), rfl⟩
theorem in_TB_6 : u_lay RB TB 6 ∈ lw_g := List.mem_filter.mpr ⟨List.mem_append_right _ (List.mem_of_getElem? (i := 63) (by decide +kernel)), rfl⟩
theorem in_TB_7 : u_lay RB TB 7 ∈ lw_g := List.mem_filter.mpr ⟨List.mem_append_right _ (List.mem_of_getElem? (i := 65) (by decide +kernel)), rfl⟩
theorem in_TB_8 : u_lay RB TB 8 ∈ lw_g := List.mem_filter.mpr ⟨List.mem_append_right _ (List.mem_of_getElem? (i := 67) (by decide +kernel)), rfl⟩
theorem in_TB_9 : u_lay RB TB 9 ∈ lw_g := List.mem_filter.mpr ⟨List.mem_append_right _ (List.mem_of_getElem? (i := 69) (by decide +kernel)), rfl⟩
theorem in_TB_10 : u_lay RB TB 10 ∈ lw_g := List.mem_filter.mpr ⟨List.mem_append_right _ (List.mem_of_getElem? (i := 71) (by decide +kernel)), rfl⟩
theorem in_TB_11 : u_lay RB TB 11 ∈ lw_g := List.mem_filter.mpr ⟨List.mem_append_right _ (List.mem_of_getElem? (i := 73) (by decide +kernel)), rfl⟩
theorem in_TB_12 : u_lay RB TB 12 ∈ lw_g := List.mem_filter.mpr ⟨List.mem_append_right _ (List.mem_of_getElem? (i := 75) (by decide +kernel)), rfl⟩
theorem in_TB : ∀ w ∈ u_ws RB TB 13, w ∈ lw_g := by
  intro w hw
  obtain ⟨k, hk, rfl⟩ := List.mem_map.mp hw
  have hk : k < 13 := List.mem_range.mp hk
  match k, hk with
  | 0, _ => exact in_TB_0
  | 1, _ => exact in_TB_1
  | 2, _ => exact in_TB_2
  | 3, _ => exact in_TB_3
  | 4, _ => exact in_TB_4
  | 5, _ => exact in_TB_5
  | 6, _ => exact in_TB_6
  | 7, _ => exact in_TB_7
  | 8, _ => exact in_TB_8
  | 9, _ => exact in_TB_9
  | 10, _ => exact in_TB_10
  | 11, _ => exact in_TB_11
  | 12, _ => exact in_TB_12
  | k + 13, h => exact absurd h (by omega)
def RMo : String := "LeafBookModel"
theorem qfl_thrown : Cond.fieldLink RMo 44 "LeafBookModel" "thrown" "I" ∈ lw_g := List.mem_filter.mpr ⟨List.mem_append_right _ (List.mem_of_getElem? (i := 500) (by decide +kernel)), rfl⟩
theorem qfl_pages : Cond.fieldLink RMo 33 "LeafBookModel" "pages" "I" ∈ lw_g := List.mem_filter.mpr ⟨List.mem_append_right _ (List.mem_of_getElem? (i := 501) (by decide +kernel)), rfl⟩
theorem qfl_words : Cond.fieldLink RMo 7 "LeafBookModel" "words" "[J" ∈ lw_g := List.mem_filter.mpr ⟨List.mem_append_right _ (List.mem_of_getElem? (i := 502) (by decide +kernel)), rfl⟩
theorem qfl_newest : Cond.fieldLink RMo 68 "LeafBookModel" "newest" "I" ∈ lw_g := List.mem_filter.mpr ⟨List.mem_append_right _ (List.mem_of_getElem? (i := 503) (by decide +kernel)), rfl⟩
theorem qfl_closed : Cond.fieldLink RMo 85 "LeafBookModel" "closed" "Z" ∈ lw_g := List.mem_filter.mpr ⟨List.mem_append_right _ (List.mem_of_getElem? (i := 504) (by decide +kernel)), rfl⟩
theorem qfl_written : Cond.fieldLink RMo 41 "LeafBookModel" "written" "I" ∈ lw_g := List.mem_filter.mpr ⟨List.mem_append_right _ (List.mem_of_getElem? (i := 505) (by decide +kernel)), rfl⟩
theorem qfl_places : Cond.fieldLink RMo 13 "LeafBookModel" "places" "[I" ∈ lw_g := List.mem_filter.mpr ⟨List.mem_append_right _ (List.mem_of_getElem? (i := 506) (by decide +kernel)), rfl⟩
theorem qfl_before : Cond.fieldLink RMo 17 "LeafBookModel" "before" "[J" ∈ lw_g := List.mem_filter.mpr ⟨List.mem_append_right _ (List.mem_of_getElem? (i := 507) (by decide +kernel)), rfl⟩
theorem qfl_altered : Cond.fieldLink RMo 123 "LeafBookModel" "altered" "Z" ∈ lw_g := List.mem_filter.mpr ⟨List.mem_append_right _ (List.mem_of_getElem? (i := 508) (by decide +kernel)), rfl⟩
theorem qfl_keys : Cond.fieldLink RMo 20 "LeafBookModel" "keys" "[J" ∈ lw_g := List.mem_filter.mpr ⟨List.mem_append_right _ (List.mem_of_getElem? (i := 509) (by decide +kernel)), rfl⟩
theorem qfl_values : Cond.fieldLink RMo 23 "LeafBookModel" "values" "[J" ∈ lw_g := List.mem_filter.mpr ⟨List.mem_append_right _ (List.mem_of_getElem? (i := 510) (by decide +kernel)), rfl⟩
theorem qfl_many : Cond.fieldLink RMo 105 "LeafBookModel" "many" "I" ∈ lw_g := List.mem_filter.mpr ⟨List.mem_append_right _ (List.mem_of_getElem? (i := 511) (by decide +kernel)), rfl⟩
theorem qfl_leaves : Cond.fieldLink RMo 26 "LeafBookModel" "leaves" "[I" ∈ lw_g := List.mem_filter.mpr ⟨List.mem_append_right _ (List.mem_of_getElem? (i := 512) (by decide +kernel)), rfl⟩
theorem qfl_leafCount : Cond.fieldLink RMo 108 "LeafBookModel" "leafCount" "I" ∈ lw_g := List.mem_filter.mpr ⟨List.mem_append_right _ (List.mem_of_getElem? (i := 513) (by decide +kernel)), rfl⟩
theorem qfl_taken : Cond.fieldLink RMo 29 "LeafBookModel" "taken" "[Z" ∈ lw_g := List.mem_filter.mpr ⟨List.mem_append_right _ (List.mem_of_getElem? (i := 514) (by decide +kernel)), rfl⟩
/-! the book as a value, and as cells -/
abbrev MSt : Type := Int32 × Int32 × (Nat → Int64) × Int32 × Int32 × Int32 × (Nat → Int32) × (Nat → Int64) × Int32 × (Nat → Int64) × (Nat → Int64) × Int32 × (Nat → Int32) × Int32 × (Nat → Int32)
def qbs_thrown (st : MSt) : Int32 := st.1
def qbs_put_thrown (v : Int32) (st : MSt) : MSt := (v, st.2)
def qbs_pages (st : MSt) : Int32 := st.2.1
def qbs_put_pages (v : Int32) (st : MSt) : MSt := (st.1, v, st.2.2)
def qbs_words (st : MSt) : (Nat → Int64) := st.2.2.1
def qbs_put_words (v : (Nat → Int64)) (st : MSt) : MSt := (st.1, st.2.1, v, st.2.2.2)
def qbs_newest (st : MSt) : Int32 := st.2.2.2.1
def qbs_put_newest (v : Int32) (st : MSt) : MSt := (st.1, st.2.1, st.2.2.1, v, st.2.2.2.2)
def qbs_closed (st : MSt) : Int32 := st.2.2.2.2.1
def qbs_put_closed (v : Int32) (st : MSt) : MSt := (st.1, st.2.1, st.2.2.1, st.2.2.2.1, v, st.2.2.2.2.2)
def qbs_written (st : MSt) : Int32 := st.2.2.2.2.2.1
def qbs_put_written (v : Int32) (st : MSt) : MSt := (st.1, st.2.1, st.2.2.1, st.2.2.2.1, st.2.2.2.2.1, v, st.2.2.2.2.2.2)
def qbs_places (st : MSt) : (Nat → Int32) := st.2.2.2.2.2.2.1
def qbs_put_places (v : (Nat → Int32)) (st : MSt) : MSt := (st.1, st.2.1, st.2.2.1, st.2.2.2.1, st.2.2.2.2.1, st.2.2.2.2.2.1, v, st.2.2.2.2.2.2.2)
def qbs_before (st : MSt) : (Nat → Int64) := st.2.2.2.2.2.2.2.1
def qbs_put_before (v : (Nat → Int64)) (st : MSt) : MSt := (st.1, st.2.1, st.2.2.1, st.2.2.2.1, st.2.2.2.2.1, st.2.2.2.2.2.1, st.2.2.2.2.2.2.1, v, st.2.2.2.2.2.2.2.2)
def qbs_altered (st : MSt) : Int32 := st.2.2.2.2.2.2.2.2.1
def qbs_put_altered (v : Int32) (st : MSt) : MSt := (st.1, st.2.1, st.2.2.1, st.2.2.2.1, st.2.2.2.2.1, st.2.2.2.2.2.1, st.2.2.2.2.2.2.1, st.2.2.2.2.2.2.2.1, v, st.2.2.2.2.2.2.2.2.2)
def qbs_keys (st : MSt) : (Nat → Int64) := st.2.2.2.2.2.2.2.2.2.1
def qbs_put_keys (v : (Nat → Int64)) (st : MSt) : MSt := (st.1, st.2.1, st.2.2.1, st.2.2.2.1, st.2.2.2.2.1, st.2.2.2.2.2.1, st.2.2.2.2.2.2.1, st.2.2.2.2.2.2.2.1, st.2.2.2.2.2.2.2.2.1, v, st.2.2.2.2.2.2.2.2.2.2)
def qbs_values (st : MSt) : (Nat → Int64) := st.2.2.2.2.2.2.2.2.2.2.1
def qbs_put_values (v : (Nat → Int64)) (st : MSt) : MSt := (st.1, st.2.1, st.2.2.1, st.2.2.2.1, st.2.2.2.2.1, st.2.2.2.2.2.1, st.2.2.2.2.2.2.1, st.2.2.2.2.2.2.2.1, st.2.2.2.2.2.2.2.2.1, st.2.2.2.2.2.2.2.2.2.1, v, st.2.2.2.2.2.2.2.2.2.2.2)
def qbs_many (st : MSt) : Int32 := st.2.2.2.2.2.2.2.2.2.2.2.1
def qbs_put_many (v : Int32) (st : MSt) : MSt := (st.1, st.2.1, st.2.2.1, st.2.2.2.1, st.2.2.2.2.1, st.2.2.2.2.2.1, st.2.2.2.2.2.2.1, st.2.2.2.2.2.2.2.1, st.2.2.2.2.2.2.2.2.1, st.2.2.2.2.2.2.2.2.2.1, st.2.2.2.2.2.2.2.2.2.2.1, v, st.2.2.2.2.2.2.2.2.2.2.2.2)
def qbs_leaves (st : MSt) : (Nat → Int32) := st.2.2.2.2.2.2.2.2.2.2.2.2.1
def qbs_put_leaves (v : (Nat → Int32)) (st : MSt) : MSt := (st.1, st.2.1, st.2.2.1, st.2.2.2.1, st.2.2.2.2.1, st.2.2.2.2.2.1, st.2.2.2.2.2.2.1, st.2.2.2.2.2.2.2.1, st.2.2.2.2.2.2.2.2.1, st.2.2.2.2.2.2.2.2.2.1, st.2.2.2.2.2.2.2.2.2.2.1, st.2.2.2.2.2.2.2.2.2.2.2.1, v, st.2.2.2.2.2.2.2.2.2.2.2.2.2)
def qbs_leafCount (st : MSt) : Int32 := st.2.2.2.2.2.2.2.2.2.2.2.2.2.1
def qbs_put_leafCount (v : Int32) (st : MSt) : MSt := (st.1, st.2.1, st.2.2.1, st.2.2.2.1, st.2.2.2.2.1, st.2.2.2.2.2.1, st.2.2.2.2.2.2.1, st.2.2.2.2.2.2.2.1, st.2.2.2.2.2.2.2.2.1, st.2.2.2.2.2.2.2.2.2.1, st.2.2.2.2.2.2.2.2.2.2.1, st.2.2.2.2.2.2.2.2.2.2.2.1, st.2.2.2.2.2.2.2.2.2.2.2.2.1, v, st.2.2.2.2.2.2.2.2.2.2.2.2.2.2)
def qbs_taken (st : MSt) : (Nat → Int32) := st.2.2.2.2.2.2.2.2.2.2.2.2.2.2
def qbs_put_taken (v : (Nat → Int32)) (st : MSt) : MSt := (st.1, st.2.1, st.2.2.1, st.2.2.2.1, st.2.2.2.2.1, st.2.2.2.2.2.1, st.2.2.2.2.2.2.1, st.2.2.2.2.2.2.2.1, st.2.2.2.2.2.2.2.2.1, st.2.2.2.2.2.2.2.2.2.1, st.2.2.2.2.2.2.2.2.2.2.1, st.2.2.2.2.2.2.2.2.2.2.2.1, st.2.2.2.2.2.2.2.2.2.2.2.2.1, st.2.2.2.2.2.2.2.2.2.2.2.2.2.1, v)
def TM : u_T := fun k => match k with
  | 0 => ("LeafBookModel", "thrown", "I", false)
  | 1 => ("LeafBookModel", "pages", "I", false)
  | 2 => ("LeafBookModel", "words", "[J", true)
  | 3 => ("LeafBookModel", "newest", "I", false)
  | 4 => ("LeafBookModel", "closed", "Z", false)
  | 5 => ("LeafBookModel", "written", "I", false)
  | 6 => ("LeafBookModel", "places", "[I", true)
  | 7 => ("LeafBookModel", "before", "[J", true)
  | 8 => ("LeafBookModel", "altered", "Z", false)
  | 9 => ("LeafBookModel", "keys", "[J", true)
  | 10 => ("LeafBookModel", "values", "[J", true)
  | 11 => ("LeafBookModel", "many", "I", false)
  | 12 => ("LeafBookModel", "leaves", "[I", true)
  | 13 => ("LeafBookModel", "leafCount", "I", false)
  | _ => ("LeafBookModel", "taken", "[Z", true)
def tM : Nat → FieldType := fun k => match k with
  | 0 => .int
  | 1 => .int
  | 2 => .array .long
  | 3 => .int
  | 4 => .boolean
  | 5 => .int
  | 6 => .array .int
  | 7 => .array .long
  | 8 => .boolean
  | 9 => .array .long
  | 10 => .array .long
  | 11 => .int
  | 12 => .array .int
  | 13 => .int
  | _ => .array .boolean
theorem tM_ok : ∀ k, k < 15 → parseFieldDescriptor (TM k).2.2.1 = some (tM k) := by decide +kernel
theorem nM : ∀ a, a < 15 → ∀ b, b < 15 → a ≠ b → (TM a).2.1 ≠ (TM b).2.1 := by decide +kernel
theorem qin_TB_0 : u_lay RMo TM 0 ∈ lw_g := List.mem_filter.mpr ⟨List.mem_append_right _ (List.mem_of_getElem? (i := 515) (by decide +kernel)), rfl⟩
theorem qin_TB_1 : u_lay RMo TM 1 ∈ lw_g := List.mem_filter.mpr ⟨List.mem_append_right _ (List.mem_of_getElem? (i := 517) (by decide +kernel)), rfl⟩
theorem qin_TB_2 : u_lay RMo TM 2 ∈ lw_g := List.mem_filter.mpr ⟨List.mem_append_right _ (List.mem_of_getElem? (i := 519) (by decide +kernel)), rfl⟩
theorem qin_TB_3 : u_lay RMo TM 3 ∈ lw_g := List.mem_filter.mpr ⟨List.mem_append_right _ (List.mem_of_getElem? (i := 521) (by decide +kernel)), rfl⟩
theorem qin_TB_4 : u_lay RMo TM 4 ∈ lw_g := List.mem_filter.mpr ⟨List.mem_append_right _ (List.mem_of_getElem? (i := 523) (by decide +kernel)), rfl⟩
theorem qin_TB_5 : u_lay RMo TM 5 ∈ lw_g := List.mem_filter.mpr ⟨List.mem_append_right _ (List.mem_of_getElem? (i := 525) (by decide +kernel)), rfl⟩
theorem qin_TB_6 : u_lay RMo TM 6 ∈ lw_g := List.mem_filter.mpr ⟨List.mem_append_right _ (List.mem_of_getElem? (i := 527) (by decide +kernel)), rfl⟩
theorem qin_TB_7 : u_lay RMo TM 7 ∈ lw_g := List.mem_filter.mpr ⟨List.mem_append_right _ (List.mem_of_getElem? (i := 529) (by decide +kernel)), rfl⟩
theorem qin_TB_8 : u_lay RMo TM 8 ∈ lw_g := List.mem_filter.mpr ⟨List.mem_append_right _ (List.mem_of_getElem? (i := 531) (by decide +kernel)), rfl⟩
theorem qin_TB_9 : u_lay RMo TM 9 ∈ lw_g := List.mem_filter.mpr ⟨List.mem_append_right _ (List.mem_of_getElem? (i := 533) (by decide +kernel)), rfl⟩
theorem qin_TB_10 : u_lay RMo TM 10 ∈ lw_g := List.mem_filter.mpr ⟨List.mem_append_right _ (List.mem_of_getElem? (i := 535) (by decide +kernel)), rfl⟩
theorem qin_TB_11 : u_lay RMo TM 11 ∈ lw_g := List.mem_filter.mpr ⟨List.mem_append_right _ (List.mem_of_getElem? (i := 537) (by decide +kernel)), rfl⟩
theorem qin_TB_12 : u_lay RMo TM 12 ∈ lw_g := List.mem_filter.mpr ⟨List.mem_append_right _ (List.mem_of_getElem? (i := 539) (by decide +kernel)), rfl⟩
theorem qin_TB_13 : u_lay RMo TM 13 ∈ lw_g := List.mem_filter.mpr ⟨List.mem_append_right _ (List.mem_of_getElem? (i := 541) (by decide +kernel)), rfl⟩
theorem qin_TB_14 : u_lay RMo TM 14 ∈ lw_g := List.mem_filter.mpr ⟨List.mem_append_right _ (List.mem_of_getElem? (i := 543) (by decide +kernel)), rfl⟩
theorem qin_TB : ∀ w ∈ u_ws RMo TM 15, w ∈ lw_g := by
  intro w hw
  obtain ⟨k, hk, rfl⟩ := List.mem_map.mp hw
  have hk : k < 15 := List.mem_range.mp hk
  match k, hk with
  | 0, _ => exact qin_TB_0
  | 1, _ => exact qin_TB_1
  | 2, _ => exact qin_TB_2
  | 3, _ => exact qin_TB_3
  | 4, _ => exact qin_TB_4
  | 5, _ => exact qin_TB_5
  | 6, _ => exact qin_TB_6
  | 7, _ => exact qin_TB_7
  | 8, _ => exact qin_TB_8
  | 9, _ => exact qin_TB_9
  | 10, _ => exact qin_TB_10
  | 11, _ => exact qin_TB_11
  | 12, _ => exact qin_TB_12
  | 13, _ => exact qin_TB_13
  | 14, _ => exact qin_TB_14
  | k + 15, h => exact absurd h (by omega)
abbrev vwCl : List vw_C := [(RB, TB, 13), (RMo, TM, 15)]
def wB (gm : Nat → Nat) (ca : Nat → ClassId) (st : BSt) : va_W := [(gm 0, .inr (0, [.int (nI (bs_P st)), .ref (gm 1), .ref (gm 2), .int (bs_newest st), .int (bs_closed st), .int (bs_canBeCut st), .ref (gm 3), .int (bs_takenCount st), .int (bs_writtenRoot st), .ref (gm 4), .ref (gm 5), .ref (gm 6), .int (bs_draftCount st)])), (gm 1, .inl (ca 1, (16 * bs_P st), .inr (.inl (bs_pages st)))), (gm 2, .inl (ca 2, 160, .inr (.inl (bs_roots st)))), (gm 3, .inl (ca 3, 2, .inl (bs_takenPages st))), (gm 4, .inl (ca 4, 52, .inr (.inl (bs_wordsBefore st)))), (gm 5, .inl (ca 5, 8, .inr (.inl (bs_draftKeys st)))), (gm 6, .inl (ca 6, 8, .inr (.inl (bs_draftValues st))))]
def tysB (ca : Nat → ClassId) : List (ClassId × FieldType) := [(ca 1, .long), (ca 2, .long), (ca 3, .int), (ca 4, .long), (ca 5, .long), (ca 6, .long)]
def BWd (D : va_G) (gm : Nat → Nat) (ca : Nat → ClassId) (A : Nat → Prop) (H0 : Heap) (st : BSt) (H : Heap) (locs : List Loc) : Prop := va_P D vwCl (wB gm ca st) H ∧ va_D A (wB gm ca st) ∧ va_S A H0 H locs
section BR
variable {p : Program} {l : Launch} {e : Env} {R : Room} {s : State} {m : MethodId} {args : Array Value} {below : List Frame} {meth : Method} {c : Code} {H : Heap} {locs : List Loc} {cells slots : Nat} {Q : State → Prop}
variable {cc : ByteArray} {pc : Nat} {ls : Array Slot} {rest : List Value} {D : va_G} {A : Nat → Prop} {gm : Nat → Nat} {ca : Nat → ClassId} {st : BSt}
theorem bg_pageCount (hx : p.tables.exec = Jvm.exec) (hb : c.code = cc) (hown : s.vm.findClass RB = some m.cls) (hts : ∀ w ∈ lw_g, w.before args s = true) (hK : va_K D vwCl (tysB ca) s) (hP : va_P D vwCl (wB gm ca st) H) (hdg : decode cc pc = .ok (.getfield 18, 3)) (kk : W p l e R s m args below meth c H locs cells slots Q (F0 m (pc + 3) ls (.int (nI (bs_P st)) :: rest))) : W p l e R s m args below meth c H locs cells slots Q (F0 m pc ls (.ref (gm 0) :: rest)) :=
  va_get (D := D) (ci := 0) (v := .int (nI (bs_P st))) (C := RB) (T := TB) (N := 13) hx hb hts in_TB hown hK hP 0 rfl rfl 0 (by decide) (hts _ fl_pageCount) (fun _ h => h) rfl hdg kk
theorem bg_pages (hx : p.tables.exec = Jvm.exec) (hb : c.code = cc) (hown : s.vm.findClass RB = some m.cls) (hts : ∀ w ∈ lw_g, w.before args s = true) (hK : va_K D vwCl (tysB ca) s) (hP : va_P D vwCl (wB gm ca st) H) (hdg : decode cc pc = .ok (.getfield 22, 3)) (kk : W p l e R s m args below meth c H locs cells slots Q (F0 m (pc + 3) ls (.ref (gm 1) :: rest))) : W p l e R s m args below meth c H locs cells slots Q (F0 m pc ls (.ref (gm 0) :: rest)) :=
  va_get (D := D) (ci := 0) (v := .ref (gm 1)) (C := RB) (T := TB) (N := 13) hx hb hts in_TB hown hK hP 0 rfl rfl 1 (by decide) (hts _ fl_pages) (fun _ h => h) rfl hdg kk
theorem bg_roots (hx : p.tables.exec = Jvm.exec) (hb : c.code = cc) (hown : s.vm.findClass RB = some m.cls) (hts : ∀ w ∈ lw_g, w.before args s = true) (hK : va_K D vwCl (tysB ca) s) (hP : va_P D vwCl (wB gm ca st) H) (hdg : decode cc pc = .ok (.getfield 26, 3)) (kk : W p l e R s m args below meth c H locs cells slots Q (F0 m (pc + 3) ls (.ref (gm 2) :: rest))) : W p l e R s m args below meth c H locs cells slots Q (F0 m pc ls (.ref (gm 0) :: rest)) :=
  va_get (D := D) (ci := 0) (v := .ref (gm 2)) (C := RB) (T := TB) (N := 13) hx hb hts in_TB hown hK hP 0 rfl rfl 2 (by decide) (hts _ fl_roots) (fun _ h => h) rfl hdg kk
theorem bg_newest (hx : p.tables.exec = Jvm.exec) (hb : c.code = cc) (hown : s.vm.findClass RB = some m.cls) (hts : ∀ w ∈ lw_g, w.before args s = true) (hK : va_K D vwCl (tysB ca) s) (hP : va_P D vwCl (wB gm ca st) H) (hdg : decode cc pc = .ok (.getfield 52, 3)) (kk : W p l e R s m args below meth c H locs cells slots Q (F0 m (pc + 3) ls (.int (bs_newest st) :: rest))) : W p l e R s m args below meth c H locs cells slots Q (F0 m pc ls (.ref (gm 0) :: rest)) :=
  va_get (D := D) (ci := 0) (v := .int (bs_newest st)) (C := RB) (T := TB) (N := 13) hx hb hts in_TB hown hK hP 0 rfl rfl 3 (by decide) (hts _ fl_newest) (fun _ h => h) rfl hdg kk
theorem bp_newest (hx : p.tables.exec = Jvm.exec) (hb : c.code = cc) (hown : s.vm.findClass RB = some m.cls) (hts : ∀ w ∈ lw_g, w.before args s = true) (hK : va_K D vwCl (tysB ca) s) (hB : BWd D gm ca A s.heap st H locs) {v : Int32} (hdg : decode cc pc = .ok (.putfield 52, 3)) (kk : ∀ (H : Heap) (locs : List Loc), BWd D gm ca A s.heap (bs_put_newest v st) H locs → W p l e R s m args below meth c H locs cells slots Q (F0 m (pc + 3) ls (rest))) : W p l e R s m args below meth c H locs cells slots Q (F0 m pc ls (.int v :: .ref (gm 0) :: rest)) :=
  va_put (D := D) (ci := 0) (v := .int v) (ty := .int) (C := RB) (T := TB) (N := 13) hx hb hts in_TB tB tB_ok nB hown hK hB.1 hB.2.1 hB.2.2 0 rfl rfl 3 (by decide) (hts _ fl_newest) (fun _ h => h) rfl (by decide +kernel) rfl rfl (Nat.le_of_ble_eq_true rfl) hdg (fun H locs hP hD hS => kk H locs ⟨hP, hD, hS⟩)
theorem bg_closed (hx : p.tables.exec = Jvm.exec) (hb : c.code = cc) (hown : s.vm.findClass RB = some m.cls) (hts : ∀ w ∈ lw_g, w.before args s = true) (hK : va_K D vwCl (tysB ca) s) (hP : va_P D vwCl (wB gm ca st) H) (hdg : decode cc pc = .ok (.getfield 135, 3)) (kk : W p l e R s m args below meth c H locs cells slots Q (F0 m (pc + 3) ls (.int (bs_closed st) :: rest))) : W p l e R s m args below meth c H locs cells slots Q (F0 m pc ls (.ref (gm 0) :: rest)) :=
  va_get (D := D) (ci := 0) (v := .int (bs_closed st)) (C := RB) (T := TB) (N := 13) hx hb hts in_TB hown hK hP 0 rfl rfl 4 (by decide) (hts _ fl_closed) (fun _ h => h) rfl hdg kk
theorem bp_closed (hx : p.tables.exec = Jvm.exec) (hb : c.code = cc) (hown : s.vm.findClass RB = some m.cls) (hts : ∀ w ∈ lw_g, w.before args s = true) (hK : va_K D vwCl (tysB ca) s) (hB : BWd D gm ca A s.heap st H locs) {v : Int32} (hn : narrow .boolean (.int v) = .int v) (hfit : fits .boolean (.int v) = true) (hdg : decode cc pc = .ok (.putfield 135, 3)) (kk : ∀ (H : Heap) (locs : List Loc), BWd D gm ca A s.heap (bs_put_closed v st) H locs → W p l e R s m args below meth c H locs cells slots Q (F0 m (pc + 3) ls (rest))) : W p l e R s m args below meth c H locs cells slots Q (F0 m pc ls (.int v :: .ref (gm 0) :: rest)) :=
  va_put (D := D) (ci := 0) (v := .int v) (ty := .boolean) (C := RB) (T := TB) (N := 13) hx hb hts in_TB tB tB_ok nB hown hK hB.1 hB.2.1 hB.2.2 0 rfl rfl 4 (by decide) (hts _ fl_closed) (fun _ h => h) rfl (by decide +kernel) hn hfit (Nat.le_of_ble_eq_true rfl) hdg (fun H locs hP hD hS => kk H locs ⟨hP, hD, hS⟩)
theorem bg_canBeCut (hx : p.tables.exec = Jvm.exec) (hb : c.code = cc) (hown : s.vm.findClass RB = some m.cls) (hts : ∀ w ∈ lw_g, w.before args s = true) (hK : va_K D vwCl (tysB ca) s) (hP : va_P D vwCl (wB gm ca st) H) (hdg : decode cc pc = .ok (.getfield 121, 3)) (kk : W p l e R s m args below meth c H locs cells slots Q (F0 m (pc + 3) ls (.int (bs_canBeCut st) :: rest))) : W p l e R s m args below meth c H locs cells slots Q (F0 m pc ls (.ref (gm 0) :: rest)) :=
  va_get (D := D) (ci := 0) (v := .int (bs_canBeCut st)) (C := RB) (T := TB) (N := 13) hx hb hts in_TB hown hK hP 0 rfl rfl 5 (by decide) (hts _ fl_canBeCut) (fun _ h => h) rfl hdg kk
theorem bp_canBeCut (hx : p.tables.exec = Jvm.exec) (hb : c.code = cc) (hown : s.vm.findClass RB = some m.cls) (hts : ∀ w ∈ lw_g, w.before args s = true) (hK : va_K D vwCl (tysB ca) s) (hB : BWd D gm ca A s.heap st H locs) {v : Int32} (hn : narrow .boolean (.int v) = .int v) (hfit : fits .boolean (.int v) = true) (hdg : decode cc pc = .ok (.putfield 121, 3)) (kk : ∀ (H : Heap) (locs : List Loc), BWd D gm ca A s.heap (bs_put_canBeCut v st) H locs → W p l e R s m args below meth c H locs cells slots Q (F0 m (pc + 3) ls (rest))) : W p l e R s m args below meth c H locs cells slots Q (F0 m pc ls (.int v :: .ref (gm 0) :: rest)) :=
  va_put (D := D) (ci := 0) (v := .int v) (ty := .boolean) (C := RB) (T := TB) (N := 13) hx hb hts in_TB tB tB_ok nB hown hK hB.1 hB.2.1 hB.2.2 0 rfl rfl 5 (by decide) (hts _ fl_canBeCut) (fun _ h => h) rfl (by decide +kernel) hn hfit (Nat.le_of_ble_eq_true rfl) hdg (fun H locs hP hD hS => kk H locs ⟨hP, hD, hS⟩)
theorem bg_takenPages (hx : p.tables.exec = Jvm.exec) (hb : c.code = cc) (hown : s.vm.findClass RB = some m.cls) (hts : ∀ w ∈ lw_g, w.before args s = true) (hK : va_K D vwCl (tysB ca) s) (hP : va_P D vwCl (wB gm ca st) H) (hdg : decode cc pc = .ok (.getfield 29, 3)) (kk : W p l e R s m args below meth c H locs cells slots Q (F0 m (pc + 3) ls (.ref (gm 3) :: rest))) : W p l e R s m args below meth c H locs cells slots Q (F0 m pc ls (.ref (gm 0) :: rest)) :=
  va_get (D := D) (ci := 0) (v := .ref (gm 3)) (C := RB) (T := TB) (N := 13) hx hb hts in_TB hown hK hP 0 rfl rfl 6 (by decide) (hts _ fl_takenPages) (fun _ h => h) rfl hdg kk
theorem bg_takenCount (hx : p.tables.exec = Jvm.exec) (hb : c.code = cc) (hown : s.vm.findClass RB = some m.cls) (hts : ∀ w ∈ lw_g, w.before args s = true) (hK : va_K D vwCl (tysB ca) s) (hP : va_P D vwCl (wB gm ca st) H) (hdg : decode cc pc = .ok (.getfield 250, 3)) (kk : W p l e R s m args below meth c H locs cells slots Q (F0 m (pc + 3) ls (.int (bs_takenCount st) :: rest))) : W p l e R s m args below meth c H locs cells slots Q (F0 m pc ls (.ref (gm 0) :: rest)) :=
  va_get (D := D) (ci := 0) (v := .int (bs_takenCount st)) (C := RB) (T := TB) (N := 13) hx hb hts in_TB hown hK hP 0 rfl rfl 7 (by decide) (hts _ fl_takenCount) (fun _ h => h) rfl hdg kk
theorem bp_takenCount (hx : p.tables.exec = Jvm.exec) (hb : c.code = cc) (hown : s.vm.findClass RB = some m.cls) (hts : ∀ w ∈ lw_g, w.before args s = true) (hK : va_K D vwCl (tysB ca) s) (hB : BWd D gm ca A s.heap st H locs) {v : Int32} (hdg : decode cc pc = .ok (.putfield 250, 3)) (kk : ∀ (H : Heap) (locs : List Loc), BWd D gm ca A s.heap (bs_put_takenCount v st) H locs → W p l e R s m args below meth c H locs cells slots Q (F0 m (pc + 3) ls (rest))) : W p l e R s m args below meth c H locs cells slots Q (F0 m pc ls (.int v :: .ref (gm 0) :: rest)) :=
  va_put (D := D) (ci := 0) (v := .int v) (ty := .int) (C := RB) (T := TB) (N := 13) hx hb hts in_TB tB tB_ok nB hown hK hB.1 hB.2.1 hB.2.2 0 rfl rfl 7 (by decide) (hts _ fl_takenCount) (fun _ h => h) rfl (by decide +kernel) rfl rfl (Nat.le_of_ble_eq_true rfl) hdg (fun H locs hP hD hS => kk H locs ⟨hP, hD, hS⟩)
theorem bg_writtenRoot (hx : p.tables.exec = Jvm.exec) (hb : c.code = cc) (hown : s.vm.findClass RB = some m.cls) (hts : ∀ w ∈ lw_g, w.before args s = true) (hK : va_K D vwCl (tysB ca) s) (hP : va_P D vwCl (wB gm ca st) H) (hdg : decode cc pc = .ok (.getfield 253, 3)) (kk : W p l e R s m args below meth c H locs cells slots Q (F0 m (pc + 3) ls (.int (bs_writtenRoot st) :: rest))) : W p l e R s m args below meth c H locs cells slots Q (F0 m pc ls (.ref (gm 0) :: rest)) :=
  va_get (D := D) (ci := 0) (v := .int (bs_writtenRoot st)) (C := RB) (T := TB) (N := 13) hx hb hts in_TB hown hK hP 0 rfl rfl 8 (by decide) (hts _ fl_writtenRoot) (fun _ h => h) rfl hdg kk
theorem bp_writtenRoot (hx : p.tables.exec = Jvm.exec) (hb : c.code = cc) (hown : s.vm.findClass RB = some m.cls) (hts : ∀ w ∈ lw_g, w.before args s = true) (hK : va_K D vwCl (tysB ca) s) (hB : BWd D gm ca A s.heap st H locs) {v : Int32} (hdg : decode cc pc = .ok (.putfield 253, 3)) (kk : ∀ (H : Heap) (locs : List Loc), BWd D gm ca A s.heap (bs_put_writtenRoot v st) H locs → W p l e R s m args below meth c H locs cells slots Q (F0 m (pc + 3) ls (rest))) : W p l e R s m args below meth c H locs cells slots Q (F0 m pc ls (.int v :: .ref (gm 0) :: rest)) :=
  va_put (D := D) (ci := 0) (v := .int v) (ty := .int) (C := RB) (T := TB) (N := 13) hx hb hts in_TB tB tB_ok nB hown hK hB.1 hB.2.1 hB.2.2 0 rfl rfl 8 (by decide) (hts _ fl_writtenRoot) (fun _ h => h) rfl (by decide +kernel) rfl rfl (Nat.le_of_ble_eq_true rfl) hdg (fun H locs hP hD hS => kk H locs ⟨hP, hD, hS⟩)
theorem bg_wordsBefore (hx : p.tables.exec = Jvm.exec) (hb : c.code = cc) (hown : s.vm.findClass RB = some m.cls) (hts : ∀ w ∈ lw_g, w.before args s = true) (hK : va_K D vwCl (tysB ca) s) (hP : va_P D vwCl (wB gm ca st) H) (hdg : decode cc pc = .ok (.getfield 33, 3)) (kk : W p l e R s m args below meth c H locs cells slots Q (F0 m (pc + 3) ls (.ref (gm 4) :: rest))) : W p l e R s m args below meth c H locs cells slots Q (F0 m pc ls (.ref (gm 0) :: rest)) :=
  va_get (D := D) (ci := 0) (v := .ref (gm 4)) (C := RB) (T := TB) (N := 13) hx hb hts in_TB hown hK hP 0 rfl rfl 9 (by decide) (hts _ fl_wordsBefore) (fun _ h => h) rfl hdg kk
theorem bg_draftKeys (hx : p.tables.exec = Jvm.exec) (hb : c.code = cc) (hown : s.vm.findClass RB = some m.cls) (hts : ∀ w ∈ lw_g, w.before args s = true) (hK : va_K D vwCl (tysB ca) s) (hP : va_P D vwCl (wB gm ca st) H) (hdg : decode cc pc = .ok (.getfield 36, 3)) (kk : W p l e R s m args below meth c H locs cells slots Q (F0 m (pc + 3) ls (.ref (gm 5) :: rest))) : W p l e R s m args below meth c H locs cells slots Q (F0 m pc ls (.ref (gm 0) :: rest)) :=
  va_get (D := D) (ci := 0) (v := .ref (gm 5)) (C := RB) (T := TB) (N := 13) hx hb hts in_TB hown hK hP 0 rfl rfl 10 (by decide) (hts _ fl_draftKeys) (fun _ h => h) rfl hdg kk
theorem bg_draftValues (hx : p.tables.exec = Jvm.exec) (hb : c.code = cc) (hown : s.vm.findClass RB = some m.cls) (hts : ∀ w ∈ lw_g, w.before args s = true) (hK : va_K D vwCl (tysB ca) s) (hP : va_P D vwCl (wB gm ca st) H) (hdg : decode cc pc = .ok (.getfield 39, 3)) (kk : W p l e R s m args below meth c H locs cells slots Q (F0 m (pc + 3) ls (.ref (gm 6) :: rest))) : W p l e R s m args below meth c H locs cells slots Q (F0 m pc ls (.ref (gm 0) :: rest)) :=
  va_get (D := D) (ci := 0) (v := .ref (gm 6)) (C := RB) (T := TB) (N := 13) hx hb hts in_TB hown hK hP 0 rfl rfl 11 (by decide) (hts _ fl_draftValues) (fun _ h => h) rfl hdg kk
theorem bg_draftCount (hx : p.tables.exec = Jvm.exec) (hb : c.code = cc) (hown : s.vm.findClass RB = some m.cls) (hts : ∀ w ∈ lw_g, w.before args s = true) (hK : va_K D vwCl (tysB ca) s) (hP : va_P D vwCl (wB gm ca st) H) (hdg : decode cc pc = .ok (.getfield 233, 3)) (kk : W p l e R s m args below meth c H locs cells slots Q (F0 m (pc + 3) ls (.int (bs_draftCount st) :: rest))) : W p l e R s m args below meth c H locs cells slots Q (F0 m pc ls (.ref (gm 0) :: rest)) :=
  va_get (D := D) (ci := 0) (v := .int (bs_draftCount st)) (C := RB) (T := TB) (N := 13) hx hb hts in_TB hown hK hP 0 rfl rfl 12 (by decide) (hts _ fl_draftCount) (fun _ h => h) rfl hdg kk
theorem bp_draftCount (hx : p.tables.exec = Jvm.exec) (hb : c.code = cc) (hown : s.vm.findClass RB = some m.cls) (hts : ∀ w ∈ lw_g, w.before args s = true) (hK : va_K D vwCl (tysB ca) s) (hB : BWd D gm ca A s.heap st H locs) {v : Int32} (hdg : decode cc pc = .ok (.putfield 233, 3)) (kk : ∀ (H : Heap) (locs : List Loc), BWd D gm ca A s.heap (bs_put_draftCount v st) H locs → W p l e R s m args below meth c H locs cells slots Q (F0 m (pc + 3) ls (rest))) : W p l e R s m args below meth c H locs cells slots Q (F0 m pc ls (.int v :: .ref (gm 0) :: rest)) :=
  va_put (D := D) (ci := 0) (v := .int v) (ty := .int) (C := RB) (T := TB) (N := 13) hx hb hts in_TB tB tB_ok nB hown hK hB.1 hB.2.1 hB.2.2 0 rfl rfl 12 (by decide) (hts _ fl_draftCount) (fun _ h => h) rfl (by decide +kernel) rfl rfl (Nat.le_of_ble_eq_true rfl) hdg (fun H locs hP hD hS => kk H locs ⟨hP, hD, hS⟩)
theorem bl_pages (hx : p.tables.exec = Jvm.exec) (hb : c.code = cc) (hK : va_K D vwCl (tysB ca) s) (hP : va_P D vwCl (wB gm ca st) H) {i : Int32} {v : Int64} (hin : vp_in i (16 * bs_P st)) (hv : bs_pages st i.toNatClampNeg = v) (hdg : decode cc pc = .ok (.laload, 1)) (kk : W p l e R s m args below meth c H locs cells slots Q (F0 m (pc + 1) ls (.long v :: rest))) : W p l e R s m args below meth c H locs cells slots Q (F0 m pc ls (.int i :: .ref (gm 1) :: rest)) := by
  subst hv
  exact va_lald hx hb hK hP 1 0 rfl rfl hin hdg kk
theorem bt_pages (hx : p.tables.exec = Jvm.exec) (hb : c.code = cc) (hK : va_K D vwCl (tysB ca) s) (hB : BWd D gm ca A s.heap st H locs) {i : Int32} {x : Int64} {v : Nat → Int64} (hin : vp_in i (16 * bs_P st)) (hv : vp_updL (bs_pages st) i.toNatClampNeg x = v) (hdg : decode cc pc = .ok (.lastore, 1)) (kk : ∀ (H : Heap) (locs : List Loc), BWd D gm ca A s.heap (bs_put_pages v st) H locs → W p l e R s m args below meth c H locs cells slots Q (F0 m (pc + 1) ls (rest))) : W p l e R s m args below meth c H locs cells slots Q (F0 m pc ls (.long x :: .int i :: .ref (gm 1) :: rest)) := by
  subst hv
  exact va_last hx hb hK hB.1 hB.2.1 hB.2.2 1 0 rfl rfl hin hdg (fun H locs hP hD hS => kk H locs ⟨hP, hD, hS⟩)
theorem bl_roots (hx : p.tables.exec = Jvm.exec) (hb : c.code = cc) (hK : va_K D vwCl (tysB ca) s) (hP : va_P D vwCl (wB gm ca st) H) {i : Int32} {v : Int64} (hin : vp_in i 160) (hv : bs_roots st i.toNatClampNeg = v) (hdg : decode cc pc = .ok (.laload, 1)) (kk : W p l e R s m args below meth c H locs cells slots Q (F0 m (pc + 1) ls (.long v :: rest))) : W p l e R s m args below meth c H locs cells slots Q (F0 m pc ls (.int i :: .ref (gm 2) :: rest)) := by
  subst hv
  exact va_lald hx hb hK hP 2 1 rfl rfl hin hdg kk
theorem bt_roots (hx : p.tables.exec = Jvm.exec) (hb : c.code = cc) (hK : va_K D vwCl (tysB ca) s) (hB : BWd D gm ca A s.heap st H locs) {i : Int32} {x : Int64} {v : Nat → Int64} (hin : vp_in i 160) (hv : vp_updL (bs_roots st) i.toNatClampNeg x = v) (hdg : decode cc pc = .ok (.lastore, 1)) (kk : ∀ (H : Heap) (locs : List Loc), BWd D gm ca A s.heap (bs_put_roots v st) H locs → W p l e R s m args below meth c H locs cells slots Q (F0 m (pc + 1) ls (rest))) : W p l e R s m args below meth c H locs cells slots Q (F0 m pc ls (.long x :: .int i :: .ref (gm 2) :: rest)) := by
  subst hv
  exact va_last hx hb hK hB.1 hB.2.1 hB.2.2 2 1 rfl rfl hin hdg (fun H locs hP hD hS => kk H locs ⟨hP, hD, hS⟩)
theorem bl_takenPages (hx : p.tables.exec = Jvm.exec) (hb : c.code = cc) (hK : va_K D vwCl (tysB ca) s) (hP : va_P D vwCl (wB gm ca st) H) {i : Int32} {v : Int32} (hin : vp_in i 2) (hv : bs_takenPages st i.toNatClampNeg = v) (hdg : decode cc pc = .ok (.iaload, 1)) (kk : W p l e R s m args below meth c H locs cells slots Q (F0 m (pc + 1) ls (.int v :: rest))) : W p l e R s m args below meth c H locs cells slots Q (F0 m pc ls (.int i :: .ref (gm 3) :: rest)) := by
  subst hv
  exact va_iald hx hb hK hP 3 2 rfl rfl hin hdg kk
theorem bt_takenPages (hx : p.tables.exec = Jvm.exec) (hb : c.code = cc) (hK : va_K D vwCl (tysB ca) s) (hB : BWd D gm ca A s.heap st H locs) {i : Int32} {x : Int32} {v : Nat → Int32} (hin : vp_in i 2) (hv : upd (bs_takenPages st) i.toNatClampNeg x = v) (hdg : decode cc pc = .ok (.iastore, 1)) (kk : ∀ (H : Heap) (locs : List Loc), BWd D gm ca A s.heap (bs_put_takenPages v st) H locs → W p l e R s m args below meth c H locs cells slots Q (F0 m (pc + 1) ls (rest))) : W p l e R s m args below meth c H locs cells slots Q (F0 m pc ls (.int x :: .int i :: .ref (gm 3) :: rest)) := by
  subst hv
  exact va_iast hx hb hK hB.1 hB.2.1 hB.2.2 3 2 rfl rfl hin hdg (fun H locs hP hD hS => kk H locs ⟨hP, hD, hS⟩)
theorem bl_wordsBefore (hx : p.tables.exec = Jvm.exec) (hb : c.code = cc) (hK : va_K D vwCl (tysB ca) s) (hP : va_P D vwCl (wB gm ca st) H) {i : Int32} {v : Int64} (hin : vp_in i 52) (hv : bs_wordsBefore st i.toNatClampNeg = v) (hdg : decode cc pc = .ok (.laload, 1)) (kk : W p l e R s m args below meth c H locs cells slots Q (F0 m (pc + 1) ls (.long v :: rest))) : W p l e R s m args below meth c H locs cells slots Q (F0 m pc ls (.int i :: .ref (gm 4) :: rest)) := by
  subst hv
  exact va_lald hx hb hK hP 4 3 rfl rfl hin hdg kk
theorem bt_wordsBefore (hx : p.tables.exec = Jvm.exec) (hb : c.code = cc) (hK : va_K D vwCl (tysB ca) s) (hB : BWd D gm ca A s.heap st H locs) {i : Int32} {x : Int64} {v : Nat → Int64} (hin : vp_in i 52) (hv : vp_updL (bs_wordsBefore st) i.toNatClampNeg x = v) (hdg : decode cc pc = .ok (.lastore, 1)) (kk : ∀ (H : Heap) (locs : List Loc), BWd D gm ca A s.heap (bs_put_wordsBefore v st) H locs → W p l e R s m args below meth c H locs cells slots Q (F0 m (pc + 1) ls (rest))) : W p l e R s m args below meth c H locs cells slots Q (F0 m pc ls (.long x :: .int i :: .ref (gm 4) :: rest)) := by
  subst hv
  exact va_last hx hb hK hB.1 hB.2.1 hB.2.2 4 3 rfl rfl hin hdg (fun H locs hP hD hS => kk H locs ⟨hP, hD, hS⟩)
theorem bl_draftKeys (hx : p.tables.exec = Jvm.exec) (hb : c.code = cc) (hK : va_K D vwCl (tysB ca) s) (hP : va_P D vwCl (wB gm ca st) H) {i : Int32} {v : Int64} (hin : vp_in i 8) (hv : bs_draftKeys st i.toNatClampNeg = v) (hdg : decode cc pc = .ok (.laload, 1)) (kk : W p l e R s m args below meth c H locs cells slots Q (F0 m (pc + 1) ls (.long v :: rest))) : W p l e R s m args below meth c H locs cells slots Q (F0 m pc ls (.int i :: .ref (gm 5) :: rest)) := by
  subst hv
  exact va_lald hx hb hK hP 5 4 rfl rfl hin hdg kk
theorem bt_draftKeys (hx : p.tables.exec = Jvm.exec) (hb : c.code = cc) (hK : va_K D vwCl (tysB ca) s) (hB : BWd D gm ca A s.heap st H locs) {i : Int32} {x : Int64} {v : Nat → Int64} (hin : vp_in i 8) (hv : vp_updL (bs_draftKeys st) i.toNatClampNeg x = v) (hdg : decode cc pc = .ok (.lastore, 1)) (kk : ∀ (H : Heap) (locs : List Loc), BWd D gm ca A s.heap (bs_put_draftKeys v st) H locs → W p l e R s m args below meth c H locs cells slots Q (F0 m (pc + 1) ls (rest))) : W p l e R s m args below meth c H locs cells slots Q (F0 m pc ls (.long x :: .int i :: .ref (gm 5) :: rest)) := by
  subst hv
  exact va_last hx hb hK hB.1 hB.2.1 hB.2.2 5 4 rfl rfl hin hdg (fun H locs hP hD hS => kk H locs ⟨hP, hD, hS⟩)
theorem bl_draftValues (hx : p.tables.exec = Jvm.exec) (hb : c.code = cc) (hK : va_K D vwCl (tysB ca) s) (hP : va_P D vwCl (wB gm ca st) H) {i : Int32} {v : Int64} (hin : vp_in i 8) (hv : bs_draftValues st i.toNatClampNeg = v) (hdg : decode cc pc = .ok (.laload, 1)) (kk : W p l e R s m args below meth c H locs cells slots Q (F0 m (pc + 1) ls (.long v :: rest))) : W p l e R s m args below meth c H locs cells slots Q (F0 m pc ls (.int i :: .ref (gm 6) :: rest)) := by
  subst hv
  exact va_lald hx hb hK hP 6 5 rfl rfl hin hdg kk
theorem bt_draftValues (hx : p.tables.exec = Jvm.exec) (hb : c.code = cc) (hK : va_K D vwCl (tysB ca) s) (hB : BWd D gm ca A s.heap st H locs) {i : Int32} {x : Int64} {v : Nat → Int64} (hin : vp_in i 8) (hv : vp_updL (bs_draftValues st) i.toNatClampNeg x = v) (hdg : decode cc pc = .ok (.lastore, 1)) (kk : ∀ (H : Heap) (locs : List Loc), BWd D gm ca A s.heap (bs_put_draftValues v st) H locs → W p l e R s m args below meth c H locs cells slots Q (F0 m (pc + 1) ls (rest))) : W p l e R s m args below meth c H locs cells slots Q (F0 m pc ls (.long x :: .int i :: .ref (gm 6) :: rest)) := by
  subst hv
  exact va_last hx hb hK hB.1 hB.2.1 hB.2.2 6 5 rfl rfl hin hdg (fun H locs hP hD hS => kk H locs ⟨hP, hD, hS⟩)
theorem ba_ld {a0 k0 : Nat} {cA : ClassId} {f0 : Nat → Int64} (hx : p.tables.exec = Jvm.exec) (hb : c.code = cc) (hK : va_K D vwCl [(cA, .long)] s) (hP : va_P D vwCl [(a0, .inl (cA, k0, .inr (.inl f0)))] H) {i : Int32} {v : Int64} (hin : vp_in i k0) (hv : f0 i.toNatClampNeg = v) (hdg : decode cc pc = .ok (.laload, 1)) (kk : W p l e R s m args below meth c H locs cells slots Q (F0 m (pc + 1) ls (.long v :: rest))) : W p l e R s m args below meth c H locs cells slots Q (F0 m pc ls (.int i :: .ref a0 :: rest)) := by
  subst hv
  exact va_lald hx hb hK hP 0 0 rfl rfl hin hdg kk
theorem bc_pages_wordsBefore (hx : p.tables.exec = Jvm.exec) (hb : c.code = cc) (hml : c.maxLocals = ls.size) (hown : s.vm.findClass RB = some m.cls) (hts : ∀ w ∈ lw_g, w.before args s = true) (hK : va_K D vwCl (tysB ca) s) (hB : BWd D gm ca A s.heap st H locs) {sp dp n : Int32} {v : Nat → Int64} (hin : cpIn sp dp n (16 * bs_P st) 52) (hv : va_cpy (bs_pages st) (bs_wordsBefore st) sp.toNatClampNeg dp.toNatClampNeg n.toNatClampNeg = v) (hR : 1 ≤ R.frames ∧ nativeFrameWords "java/lang/System" "arraycopy" 5 + 11 ≤ R.locals) (hdg : decode cc pc = .ok (.invokestatic 272, 3)) (kk : ∀ (H : Heap) (locs : List Loc), BWd D gm ca A s.heap (bs_put_wordsBefore v st) H locs → W p l e R s m args below meth c H locs cells slots Q (F0 m (pc + 3) ls [])) : W p l e R s m args below meth c H locs cells slots Q (F0 m pc ls (.int n :: .int dp :: .ref (gm 4) :: .int sp :: .ref (gm 1) :: [])) := by
  subst hv
  exact va_copyl hx hb hml hown (hts _ ac_link) (hts _ ac_native) (hts _ ac_static) (hts _ ac_init) hK hB.1 hB.2.1 hB.2.2 1 4 0 3 rfl rfl rfl rfl rfl hin.1 hin.2.1 hin.2.2.1 hin.2.2.2.1 hin.2.2.2.2 (fun _ _ => rfl) hR.1 (by show 0 + _ ≤ _; omega) hdg (fun H locs hP hD hS => kk H locs ⟨hP, hD, hS⟩)
theorem bc_roots_wordsBefore (hx : p.tables.exec = Jvm.exec) (hb : c.code = cc) (hml : c.maxLocals = ls.size) (hown : s.vm.findClass RB = some m.cls) (hts : ∀ w ∈ lw_g, w.before args s = true) (hK : va_K D vwCl (tysB ca) s) (hB : BWd D gm ca A s.heap st H locs) {sp dp n : Int32} {v : Nat → Int64} (hin : cpIn sp dp n 160 52) (hv : va_cpy (bs_roots st) (bs_wordsBefore st) sp.toNatClampNeg dp.toNatClampNeg n.toNatClampNeg = v) (hR : 1 ≤ R.frames ∧ nativeFrameWords "java/lang/System" "arraycopy" 5 + 11 ≤ R.locals) (hdg : decode cc pc = .ok (.invokestatic 272, 3)) (kk : ∀ (H : Heap) (locs : List Loc), BWd D gm ca A s.heap (bs_put_wordsBefore v st) H locs → W p l e R s m args below meth c H locs cells slots Q (F0 m (pc + 3) ls [])) : W p l e R s m args below meth c H locs cells slots Q (F0 m pc ls (.int n :: .int dp :: .ref (gm 4) :: .int sp :: .ref (gm 2) :: [])) := by
  subst hv
  exact va_copyl hx hb hml hown (hts _ ac_link) (hts _ ac_native) (hts _ ac_static) (hts _ ac_init) hK hB.1 hB.2.1 hB.2.2 2 4 1 3 rfl rfl rfl rfl rfl hin.1 hin.2.1 hin.2.2.1 hin.2.2.2.1 hin.2.2.2.2 (fun _ _ => rfl) hR.1 (by show 0 + _ ≤ _; omega) hdg (fun H locs hP hD hS => kk H locs ⟨hP, hD, hS⟩)
end BR
def wM (gm : Nat → Nat) (ca : Nat → ClassId) (st : MSt) : va_W := [(gm 0, .inr (1, [.int (qbs_thrown st), .int (qbs_pages st), .ref (gm 1), .int (qbs_newest st), .int (qbs_closed st), .int (qbs_written st), .ref (gm 2), .ref (gm 3), .int (qbs_altered st), .ref (gm 4), .ref (gm 5), .int (qbs_many st), .ref (gm 6), .int (qbs_leafCount st), .ref (gm 7)])), (gm 1, .inl (ca 1, 1184, .inr (.inl (qbs_words st)))), (gm 2, .inl (ca 2, 64, .inl (qbs_places st))), (gm 3, .inl (ca 3, 64, .inr (.inl (qbs_before st)))), (gm 4, .inl (ca 4, 8, .inr (.inl (qbs_keys st)))), (gm 5, .inl (ca 5, 8, .inr (.inl (qbs_values st)))), (gm 6, .inl (ca 6, 18, .inl (qbs_leaves st))), (gm 7, .inl (ca 7, 64, .inl (qbs_taken st)))]
def tysM (ca : Nat → ClassId) : List (ClassId × FieldType) := [(ca 1, .long), (ca 2, .int), (ca 3, .long), (ca 4, .long), (ca 5, .long), (ca 6, .int), (ca 7, .boolean)]
def MWd (D : va_G) (gm : Nat → Nat) (ca : Nat → ClassId) (A : Nat → Prop) (H0 : Heap) (st : MSt) (H : Heap) (locs : List Loc) : Prop := va_P D vwCl (wM gm ca st) H ∧ va_D A (wM gm ca st) ∧ va_S A H0 H locs
section BR
variable {p : Program} {l : Launch} {e : Env} {R : Room} {s : State} {m : MethodId} {args : Array Value} {below : List Frame} {meth : Method} {c : Code} {H : Heap} {locs : List Loc} {cells slots : Nat} {Q : State → Prop}
variable {cc : ByteArray} {pc : Nat} {ls : Array Slot} {rest : List Value} {D : va_G} {A : Nat → Prop} {gm : Nat → Nat} {ca : Nat → ClassId} {st : MSt}
theorem qbg_thrown (hx : p.tables.exec = Jvm.exec) (hb : c.code = cc) (hown : s.vm.findClass RMo = some m.cls) (hts : ∀ w ∈ lw_g, w.before args s = true) (hK : va_K D vwCl (tysM ca) s) (hP : va_P D vwCl (wM gm ca st) H) (hdg : decode cc pc = .ok (.getfield 44, 3)) (kk : W p l e R s m args below meth c H locs cells slots Q (F0 m (pc + 3) ls (.int (qbs_thrown st) :: rest))) : W p l e R s m args below meth c H locs cells slots Q (F0 m pc ls (.ref (gm 0) :: rest)) :=
  va_get (D := D) (ci := 1) (v := .int (qbs_thrown st)) (C := RMo) (T := TM) (N := 15) hx hb hts qin_TB hown hK hP 0 rfl rfl 0 (by decide) (hts _ qfl_thrown) (fun _ h => h) rfl hdg kk
theorem qbp_thrown (hx : p.tables.exec = Jvm.exec) (hb : c.code = cc) (hown : s.vm.findClass RMo = some m.cls) (hts : ∀ w ∈ lw_g, w.before args s = true) (hK : va_K D vwCl (tysM ca) s) (hB : MWd D gm ca A s.heap st H locs) {v : Int32} (hdg : decode cc pc = .ok (.putfield 44, 3)) (kk : ∀ (H : Heap) (locs : List Loc), MWd D gm ca A s.heap (qbs_put_thrown v st) H locs → W p l e R s m args below meth c H locs cells slots Q (F0 m (pc + 3) ls (rest))) : W p l e R s m args below meth c H locs cells slots Q (F0 m pc ls (.int v :: .ref (gm 0) :: rest)) :=
  va_put (D := D) (ci := 1) (v := .int v) (ty := .int) (C := RMo) (T := TM) (N := 15) hx hb hts qin_TB tM tM_ok nM hown hK hB.1 hB.2.1 hB.2.2 0 rfl rfl 0 (by decide) (hts _ qfl_thrown) (fun _ h => h) rfl (by decide +kernel) rfl rfl (Nat.le_of_ble_eq_true rfl) hdg (fun H locs hP hD hS => kk H locs ⟨hP, hD, hS⟩)
theorem qbg_pages (hx : p.tables.exec = Jvm.exec) (hb : c.code = cc) (hown : s.vm.findClass RMo = some m.cls) (hts : ∀ w ∈ lw_g, w.before args s = true) (hK : va_K D vwCl (tysM ca) s) (hP : va_P D vwCl (wM gm ca st) H) (hdg : decode cc pc = .ok (.getfield 33, 3)) (kk : W p l e R s m args below meth c H locs cells slots Q (F0 m (pc + 3) ls (.int (qbs_pages st) :: rest))) : W p l e R s m args below meth c H locs cells slots Q (F0 m pc ls (.ref (gm 0) :: rest)) :=
  va_get (D := D) (ci := 1) (v := .int (qbs_pages st)) (C := RMo) (T := TM) (N := 15) hx hb hts qin_TB hown hK hP 0 rfl rfl 1 (by decide) (hts _ qfl_pages) (fun _ h => h) rfl hdg kk
theorem qbp_pages (hx : p.tables.exec = Jvm.exec) (hb : c.code = cc) (hown : s.vm.findClass RMo = some m.cls) (hts : ∀ w ∈ lw_g, w.before args s = true) (hK : va_K D vwCl (tysM ca) s) (hB : MWd D gm ca A s.heap st H locs) {v : Int32} (hdg : decode cc pc = .ok (.putfield 33, 3)) (kk : ∀ (H : Heap) (locs : List Loc), MWd D gm ca A s.heap (qbs_put_pages v st) H locs → W p l e R s m args below meth c H locs cells slots Q (F0 m (pc + 3) ls (rest))) : W p l e R s m args below meth c H locs cells slots Q (F0 m pc ls (.int v :: .ref (gm 0) :: rest)) :=
  va_put (D := D) (ci := 1) (v := .int v) (ty := .int) (C := RMo) (T := TM) (N := 15) hx hb hts qin_TB tM tM_ok nM hown hK hB.1 hB.2.1 hB.2.2 0 rfl rfl 1 (by decide) (hts _ qfl_pages) (fun _ h => h) rfl (by decide +kernel) rfl rfl (Nat.le_of_ble_eq_true rfl) hdg (fun H locs hP hD hS => kk H locs ⟨hP, hD, hS⟩)
theorem qbg_words (hx : p.tables.exec = Jvm.exec) (hb : c.code = cc) (hown : s.vm.findClass RMo = some m.cls) (hts : ∀ w ∈ lw_g, w.before args s = true) (hK : va_K D vwCl (tysM ca) s) (hP : va_P D vwCl (wM gm ca st) H) (hdg : decode cc pc = .ok (.getfield 7, 3)) (kk : W p l e R s m args below meth c H locs cells slots Q (F0 m (pc + 3) ls (.ref (gm 1) :: rest))) : W p l e R s m args below meth c H locs cells slots Q (F0 m pc ls (.ref (gm 0) :: rest)) :=
  va_get (D := D) (ci := 1) (v := .ref (gm 1)) (C := RMo) (T := TM) (N := 15) hx hb hts qin_TB hown hK hP 0 rfl rfl 2 (by decide) (hts _ qfl_words) (fun _ h => h) rfl hdg kk
theorem qbg_newest (hx : p.tables.exec = Jvm.exec) (hb : c.code = cc) (hown : s.vm.findClass RMo = some m.cls) (hts : ∀ w ∈ lw_g, w.before args s = true) (hK : va_K D vwCl (tysM ca) s) (hP : va_P D vwCl (wM gm ca st) H) (hdg : decode cc pc = .ok (.getfield 68, 3)) (kk : W p l e R s m args below meth c H locs cells slots Q (F0 m (pc + 3) ls (.int (qbs_newest st) :: rest))) : W p l e R s m args below meth c H locs cells slots Q (F0 m pc ls (.ref (gm 0) :: rest)) :=
  va_get (D := D) (ci := 1) (v := .int (qbs_newest st)) (C := RMo) (T := TM) (N := 15) hx hb hts qin_TB hown hK hP 0 rfl rfl 3 (by decide) (hts _ qfl_newest) (fun _ h => h) rfl hdg kk
theorem qbp_newest (hx : p.tables.exec = Jvm.exec) (hb : c.code = cc) (hown : s.vm.findClass RMo = some m.cls) (hts : ∀ w ∈ lw_g, w.before args s = true) (hK : va_K D vwCl (tysM ca) s) (hB : MWd D gm ca A s.heap st H locs) {v : Int32} (hdg : decode cc pc = .ok (.putfield 68, 3)) (kk : ∀ (H : Heap) (locs : List Loc), MWd D gm ca A s.heap (qbs_put_newest v st) H locs → W p l e R s m args below meth c H locs cells slots Q (F0 m (pc + 3) ls (rest))) : W p l e R s m args below meth c H locs cells slots Q (F0 m pc ls (.int v :: .ref (gm 0) :: rest)) :=
  va_put (D := D) (ci := 1) (v := .int v) (ty := .int) (C := RMo) (T := TM) (N := 15) hx hb hts qin_TB tM tM_ok nM hown hK hB.1 hB.2.1 hB.2.2 0 rfl rfl 3 (by decide) (hts _ qfl_newest) (fun _ h => h) rfl (by decide +kernel) rfl rfl (Nat.le_of_ble_eq_true rfl) hdg (fun H locs hP hD hS => kk H locs ⟨hP, hD, hS⟩)
theorem qbg_closed (hx : p.tables.exec = Jvm.exec) (hb : c.code = cc) (hown : s.vm.findClass RMo = some m.cls) (hts : ∀ w ∈ lw_g, w.before args s = true) (hK : va_K D vwCl (tysM ca) s) (hP : va_P D vwCl (wM gm ca st) H) (hdg : decode cc pc = .ok (.getfield 85, 3)) (kk : W p l e R s m args below meth c H locs cells slots Q (F0 m (pc + 3) ls (.int (qbs_closed st) :: rest))) : W p l e R s m args below meth c H locs cells slots Q (F0 m pc ls (.ref (gm 0) :: rest)) :=
  va_get (D := D) (ci := 1) (v := .int (qbs_closed st)) (C := RMo) (T := TM) (N := 15) hx hb hts qin_TB hown hK hP 0 rfl rfl 4 (by decide) (hts _ qfl_closed) (fun _ h => h) rfl hdg kk
theorem qbp_closed (hx : p.tables.exec = Jvm.exec) (hb : c.code = cc) (hown : s.vm.findClass RMo = some m.cls) (hts : ∀ w ∈ lw_g, w.before args s = true) (hK : va_K D vwCl (tysM ca) s) (hB : MWd D gm ca A s.heap st H locs) {v : Int32} (hn : narrow .boolean (.int v) = .int v) (hfit : fits .boolean (.int v) = true) (hdg : decode cc pc = .ok (.putfield 85, 3)) (kk : ∀ (H : Heap) (locs : List Loc), MWd D gm ca A s.heap (qbs_put_closed v st) H locs → W p l e R s m args below meth c H locs cells slots Q (F0 m (pc + 3) ls (rest))) : W p l e R s m args below meth c H locs cells slots Q (F0 m pc ls (.int v :: .ref (gm 0) :: rest)) :=
  va_put (D := D) (ci := 1) (v := .int v) (ty := .boolean) (C := RMo) (T := TM) (N := 15) hx hb hts qin_TB tM tM_ok nM hown hK hB.1 hB.2.1 hB.2.2 0 rfl rfl 4 (by decide) (hts _ qfl_closed) (fun _ h => h) rfl (by decide +kernel) hn hfit (Nat.le_of_ble_eq_true rfl) hdg (fun H locs hP hD hS => kk H locs ⟨hP, hD, hS⟩)
theorem qbg_written (hx : p.tables.exec = Jvm.exec) (hb : c.code = cc) (hown : s.vm.findClass RMo = some m.cls) (hts : ∀ w ∈ lw_g, w.before args s = true) (hK : va_K D vwCl (tysM ca) s) (hP : va_P D vwCl (wM gm ca st) H) (hdg : decode cc pc = .ok (.getfield 41, 3)) (kk : W p l e R s m args below meth c H locs cells slots Q (F0 m (pc + 3) ls (.int (qbs_written st) :: rest))) : W p l e R s m args below meth c H locs cells slots Q (F0 m pc ls (.ref (gm 0) :: rest)) :=
  va_get (D := D) (ci := 1) (v := .int (qbs_written st)) (C := RMo) (T := TM) (N := 15) hx hb hts qin_TB hown hK hP 0 rfl rfl 5 (by decide) (hts _ qfl_written) (fun _ h => h) rfl hdg kk
theorem qbp_written (hx : p.tables.exec = Jvm.exec) (hb : c.code = cc) (hown : s.vm.findClass RMo = some m.cls) (hts : ∀ w ∈ lw_g, w.before args s = true) (hK : va_K D vwCl (tysM ca) s) (hB : MWd D gm ca A s.heap st H locs) {v : Int32} (hdg : decode cc pc = .ok (.putfield 41, 3)) (kk : ∀ (H : Heap) (locs : List Loc), MWd D gm ca A s.heap (qbs_put_written v st) H locs → W p l e R s m args below meth c H locs cells slots Q (F0 m (pc + 3) ls (rest))) : W p l e R s m args below meth c H locs cells slots Q (F0 m pc ls (.int v :: .ref (gm 0) :: rest)) :=
  va_put (D := D) (ci := 1) (v := .int v) (ty := .int) (C := RMo) (T := TM) (N := 15) hx hb hts qin_TB tM tM_ok nM hown hK hB.1 hB.2.1 hB.2.2 0 rfl rfl 5 (by decide) (hts _ qfl_written) (fun _ h => h) rfl (by decide +kernel) rfl rfl (Nat.le_of_ble_eq_true rfl) hdg (fun H locs hP hD hS => kk H locs ⟨hP, hD, hS⟩)
theorem qbg_places (hx : p.tables.exec = Jvm.exec) (hb : c.code = cc) (hown : s.vm.findClass RMo = some m.cls) (hts : ∀ w ∈ lw_g, w.before args s = true) (hK : va_K D vwCl (tysM ca) s) (hP : va_P D vwCl (wM gm ca st) H) (hdg : decode cc pc = .ok (.getfield 13, 3)) (kk : W p l e R s m args below meth c H locs cells slots Q (F0 m (pc + 3) ls (.ref (gm 2) :: rest))) : W p l e R s m args below meth c H locs cells slots Q (F0 m pc ls (.ref (gm 0) :: rest)) :=
  va_get (D := D) (ci := 1) (v := .ref (gm 2)) (C := RMo) (T := TM) (N := 15) hx hb hts qin_TB hown hK hP 0 rfl rfl 6 (by decide) (hts _ qfl_places) (fun _ h => h) rfl hdg kk
theorem qbg_before (hx : p.tables.exec = Jvm.exec) (hb : c.code = cc) (hown : s.vm.findClass RMo = some m.cls) (hts : ∀ w ∈ lw_g, w.before args s = true) (hK : va_K D vwCl (tysM ca) s) (hP : va_P D vwCl (wM gm ca st) H) (hdg : decode cc pc = .ok (.getfield 17, 3)) (kk : W p l e R s m args below meth c H locs cells slots Q (F0 m (pc + 3) ls (.ref (gm 3) :: rest))) : W p l e R s m args below meth c H locs cells slots Q (F0 m pc ls (.ref (gm 0) :: rest)) :=
  va_get (D := D) (ci := 1) (v := .ref (gm 3)) (C := RMo) (T := TM) (N := 15) hx hb hts qin_TB hown hK hP 0 rfl rfl 7 (by decide) (hts _ qfl_before) (fun _ h => h) rfl hdg kk
theorem qbg_altered (hx : p.tables.exec = Jvm.exec) (hb : c.code = cc) (hown : s.vm.findClass RMo = some m.cls) (hts : ∀ w ∈ lw_g, w.before args s = true) (hK : va_K D vwCl (tysM ca) s) (hP : va_P D vwCl (wM gm ca st) H) (hdg : decode cc pc = .ok (.getfield 123, 3)) (kk : W p l e R s m args below meth c H locs cells slots Q (F0 m (pc + 3) ls (.int (qbs_altered st) :: rest))) : W p l e R s m args below meth c H locs cells slots Q (F0 m pc ls (.ref (gm 0) :: rest)) :=
  va_get (D := D) (ci := 1) (v := .int (qbs_altered st)) (C := RMo) (T := TM) (N := 15) hx hb hts qin_TB hown hK hP 0 rfl rfl 8 (by decide) (hts _ qfl_altered) (fun _ h => h) rfl hdg kk
theorem qbp_altered (hx : p.tables.exec = Jvm.exec) (hb : c.code = cc) (hown : s.vm.findClass RMo = some m.cls) (hts : ∀ w ∈ lw_g, w.before args s = true) (hK : va_K D vwCl (tysM ca) s) (hB : MWd D gm ca A s.heap st H locs) {v : Int32} (hn : narrow .boolean (.int v) = .int v) (hfit : fits .boolean (.int v) = true) (hdg : decode cc pc = .ok (.putfield 123, 3)) (kk : ∀ (H : Heap) (locs : List Loc), MWd D gm ca A s.heap (qbs_put_altered v st) H locs → W p l e R s m args below meth c H locs cells slots Q (F0 m (pc + 3) ls (rest))) : W p l e R s m args below meth c H locs cells slots Q (F0 m pc ls (.int v :: .ref (gm 0) :: rest)) :=
  va_put (D := D) (ci := 1) (v := .int v) (ty := .boolean) (C := RMo) (T := TM) (N := 15) hx hb hts qin_TB tM tM_ok nM hown hK hB.1 hB.2.1 hB.2.2 0 rfl rfl 8 (by decide) (hts _ qfl_altered) (fun _ h => h) rfl (by decide +kernel) hn hfit (Nat.le_of_ble_eq_true rfl) hdg (fun H locs hP hD hS => kk H locs ⟨hP, hD, hS⟩)
theorem qbg_keys (hx : p.tables.exec = Jvm.exec) (hb : c.code = cc) (hown : s.vm.findClass RMo = some m.cls) (hts : ∀ w ∈ lw_g, w.before args s = true) (hK : va_K D vwCl (tysM ca) s) (hP : va_P D vwCl (wM gm ca st) H) (hdg : decode cc pc = .ok (.getfield 20, 3)) (kk : W p l e R s m args below meth c H locs cells slots Q (F0 m (pc + 3) ls (.ref (gm 4) :: rest))) : W p l e R s m args below meth c H locs cells slots Q (F0 m pc ls (.ref (gm 0) :: rest)) :=
  va_get (D := D) (ci := 1) (v := .ref (gm 4)) (C := RMo) (T := TM) (N := 15) hx hb hts qin_TB hown hK hP 0 rfl rfl 9 (by decide) (hts _ qfl_keys) (fun _ h => h) rfl hdg kk
theorem qbg_values (hx : p.tables.exec = Jvm.exec) (hb : c.code = cc) (hown : s.vm.findClass RMo = some m.cls) (hts : ∀ w ∈ lw_g, w.before args s = true) (hK : va_K D vwCl (tysM ca) s) (hP : va_P D vwCl (wM gm ca st) H) (hdg : decode cc pc = .ok (.getfield 23, 3)) (kk : W p l e R s m args below meth c H locs cells slots Q (F0 m (pc + 3) ls (.ref (gm 5) :: rest))) : W p l e R s m args below meth c H locs cells slots Q (F0 m pc ls (.ref (gm 0) :: rest)) :=
  va_get (D := D) (ci := 1) (v := .ref (gm 5)) (C := RMo) (T := TM) (N := 15) hx hb hts qin_TB hown hK hP 0 rfl rfl 10 (by decide) (hts _ qfl_values) (fun _ h => h) rfl hdg kk
theorem qbg_many (hx : p.tables.exec = Jvm.exec) (hb : c.code = cc) (hown : s.vm.findClass RMo = some m.cls) (hts : ∀ w ∈ lw_g, w.before args s = true) (hK : va_K D vwCl (tysM ca) s) (hP : va_P D vwCl (wM gm ca st) H) (hdg : decode cc pc = .ok (.getfield 105, 3)) (kk : W p l e R s m args below meth c H locs cells slots Q (F0 m (pc + 3) ls (.int (qbs_many st) :: rest))) : W p l e R s m args below meth c H locs cells slots Q (F0 m pc ls (.ref (gm 0) :: rest)) :=
  va_get (D := D) (ci := 1) (v := .int (qbs_many st)) (C := RMo) (T := TM) (N := 15) hx hb hts qin_TB hown hK hP 0 rfl rfl 11 (by decide) (hts _ qfl_many) (fun _ h => h) rfl hdg kk
theorem qbp_many (hx : p.tables.exec = Jvm.exec) (hb : c.code = cc) (hown : s.vm.findClass RMo = some m.cls) (hts : ∀ w ∈ lw_g, w.before args s = true) (hK : va_K D vwCl (tysM ca) s) (hB : MWd D gm ca A s.heap st H locs) {v : Int32} (hdg : decode cc pc = .ok (.putfield 105, 3)) (kk : ∀ (H : Heap) (locs : List Loc), MWd D gm ca A s.heap (qbs_put_many v st) H locs → W p l e R s m args below meth c H locs cells slots Q (F0 m (pc + 3) ls (rest))) : W p l e R s m args below meth c H locs cells slots Q (F0 m pc ls (.int v :: .ref (gm 0) :: rest)) :=
  va_put (D := D) (ci := 1) (v := .int v) (ty := .int) (C := RMo) (T := TM) (N := 15) hx hb hts qin_TB tM tM_ok nM hown hK hB.1 hB.2.1 hB.2.2 0 rfl rfl 11 (by decide) (hts _ qfl_many) (fun _ h => h) rfl (by decide +kernel) rfl rfl (Nat.le_of_ble_eq_true rfl) hdg (fun H locs hP hD hS => kk H locs ⟨hP, hD, hS⟩)
theorem qbg_leaves (hx : p.tables.exec = Jvm.exec) (hb : c.code = cc) (hown : s.vm.findClass RMo = some m.cls) (hts : ∀ w ∈ lw_g, w.before args s = true) (hK : va_K D vwCl (tysM ca) s) (hP : va_P D vwCl (wM gm ca st) H) (hdg : decode cc pc = .ok (.getfield 26, 3)) (kk : W p l e R s m args below meth c H locs cells slots Q (F0 m (pc + 3) ls (.ref (gm 6) :: rest))) : W p l e R s m args below meth c H locs cells slots Q (F0 m pc ls (.ref (gm 0) :: rest)) :=
  va_get (D := D) (ci := 1) (v := .ref (gm 6)) (C := RMo) (T := TM) (N := 15) hx hb hts qin_TB hown hK hP 0 rfl rfl 12 (by decide) (hts _ qfl_leaves) (fun _ h => h) rfl hdg kk
theorem qbg_leafCount (hx : p.tables.exec = Jvm.exec) (hb : c.code = cc) (hown : s.vm.findClass RMo = some m.cls) (hts : ∀ w ∈ lw_g, w.before args s = true) (hK : va_K D vwCl (tysM ca) s) (hP : va_P D vwCl (wM gm ca st) H) (hdg : decode cc pc = .ok (.getfield 108, 3)) (kk : W p l e R s m args below meth c H locs cells slots Q (F0 m (pc + 3) ls (.int (qbs_leafCount st) :: rest))) : W p l e R s m args below meth c H locs cells slots Q (F0 m pc ls (.ref (gm 0) :: rest)) :=
  va_get (D := D) (ci := 1) (v := .int (qbs_leafCount st)) (C := RMo) (T := TM) (N := 15) hx hb hts qin_TB hown hK hP 0 rfl rfl 13 (by decide) (hts _ qfl_leafCount) (fun _ h => h) rfl hdg kk
theorem qbp_leafCount (hx : p.tables.exec = Jvm.exec) (hb : c.code = cc) (hown : s.vm.findClass RMo = some m.cls) (hts : ∀ w ∈ lw_g, w.before args s = true) (hK : va_K D vwCl (tysM ca) s) (hB : MWd D gm ca A s.heap st H locs) {v : Int32} (hdg : decode cc pc = .ok (.putfield 108, 3)) (kk : ∀ (H : Heap) (locs : List Loc), MWd D gm ca A s.heap (qbs_put_leafCount v st) H locs → W p l e R s m args below meth c H locs cells slots Q (F0 m (pc + 3) ls (rest))) : W p l e R s m args below meth c H locs cells slots Q (F0 m pc ls (.int v :: .ref (gm 0) :: rest)) :=
  va_put (D := D) (ci := 1) (v := .int v) (ty := .int) (C := RMo) (T := TM) (N := 15) hx hb hts qin_TB tM tM_ok nM hown hK hB.1 hB.2.1 hB.2.2 0 rfl rfl 13 (by decide) (hts _ qfl_leafCount) (fun _ h => h) rfl (by decide +kernel) rfl rfl (Nat.le_of_ble_eq_true rfl) hdg (fun H locs hP hD hS => kk H locs ⟨hP, hD, hS⟩)
theorem qbg_taken (hx : p.tables.exec = Jvm.exec) (hb : c.code = cc) (hown : s.vm.findClass RMo = some m.cls) (hts : ∀ w ∈ lw_g, w.before args s = true) (hK : va_K D vwCl (tysM ca) s) (hP : va_P D vwCl (wM gm ca st) H) (hdg : decode cc pc = .ok (.getfield 29, 3)) (kk : W p l e R s m args below meth c H locs cells slots Q (F0 m (pc + 3) ls (.ref (gm 7) :: rest))) : W p l e R s m args below meth c H locs cells slots Q (F0 m pc ls (.ref (gm 0) :: rest)) :=
  va_get (D := D) (ci := 1) (v := .ref (gm 7)) (C := RMo) (T := TM) (N := 15) hx hb hts qin_TB hown hK hP 0 rfl rfl 14 (by decide) (hts _ qfl_taken) (fun _ h => h) rfl hdg kk
theorem qbl_words (hx : p.tables.exec = Jvm.exec) (hb : c.code = cc) (hK : va_K D vwCl (tysM ca) s) (hP : va_P D vwCl (wM gm ca st) H) {i : Int32} {v : Int64} (hin : vp_in i 1184) (hv : qbs_words st i.toNatClampNeg = v) (hdg : decode cc pc = .ok (.laload, 1)) (kk : W p l e R s m args below meth c H locs cells slots Q (F0 m (pc + 1) ls (.long v :: rest))) : W p l e R s m args below meth c H locs cells slots Q (F0 m pc ls (.int i :: .ref (gm 1) :: rest)) := by
  subst hv
  exact va_lald hx hb hK hP 1 0 rfl rfl hin hdg kk
theorem qbt_words (hx : p.tables.exec = Jvm.exec) (hb : c.code = cc) (hK : va_K D vwCl (tysM ca) s) (hB : MWd D gm ca A s.heap st H locs) {i : Int32} {x : Int64} {v : Nat → Int64} (hin : vp_in i 1184) (hv : vp_updL (qbs_words st) i.toNatClampNeg x = v) (hdg : decode cc pc = .ok (.lastore, 1)) (kk : ∀ (H : Heap) (locs : List Loc), MWd D gm ca A s.heap (qbs_put_words v st) H locs → W p l e R s m args below meth c H locs cells slots Q (F0 m (pc + 1) ls (rest))) : W p l e R s m args below meth c H locs cells slots Q (F0 m pc ls (.long x :: .int i :: .ref (gm 1) :: rest)) := by
  subst hv
  exact va_last hx hb hK hB.1 hB.2.1 hB.2.2 1 0 rfl rfl hin hdg (fun H locs hP hD hS => kk H locs ⟨hP, hD, hS⟩)
theorem qbl_places (hx : p.tables.exec = Jvm.exec) (hb : c.code = cc) (hK : va_K D vwCl (tysM ca) s) (hP : va_P D vwCl (wM gm ca st) H) {i : Int32} {v : Int32} (hin : vp_in i 64) (hv : qbs_places st i.toNatClampNeg = v) (hdg : decode cc pc = .ok (.iaload, 1)) (kk : W p l e R s m args below meth c H locs cells slots Q (F0 m (pc + 1) ls (.int v :: rest))) : W p l e R s m args below meth c H locs cells slots Q (F0 m pc ls (.int i :: .ref (gm 2) :: rest)) := by
  subst hv
  exact va_iald hx hb hK hP 2 1 rfl rfl hin hdg kk
theorem qbt_places (hx : p.tables.exec = Jvm.exec) (hb : c.code = cc) (hK : va_K D vwCl (tysM ca) s) (hB : MWd D gm ca A s.heap st H locs) {i : Int32} {x : Int32} {v : Nat → Int32} (hin : vp_in i 64) (hv : upd (qbs_places st) i.toNatClampNeg x = v) (hdg : decode cc pc = .ok (.iastore, 1)) (kk : ∀ (H : Heap) (locs : List Loc), MWd D gm ca A s.heap (qbs_put_places v st) H locs → W p l e R s m args below meth c H locs cells slots Q (F0 m (pc + 1) ls (rest))) : W p l e R s m args below meth c H locs cells slots Q (F0 m pc ls (.int x :: .int i :: .ref (gm 2) :: rest)) := by
  subst hv
  exact va_iast hx hb hK hB.1 hB.2.1 hB.2.2 2 1 rfl rfl hin hdg (fun H locs hP hD hS => kk H locs ⟨hP, hD, hS⟩)
theorem qbl_before (hx : p.tables.exec = Jvm.exec) (hb : c.code = cc) (hK : va_K D vwCl (tysM ca) s) (hP : va_P D vwCl (wM gm ca st) H) {i : Int32} {v : Int64} (hin : vp_in i 64) (hv : qbs_before st i.toNatClampNeg = v) (hdg : decode cc pc = .ok (.laload, 1)) (kk : W p l e R s m args below meth c H locs cells slots Q (F0 m (pc + 1) ls (.long v :: rest))) : W p l e R s m args below meth c H locs cells slots Q (F0 m pc ls (.int i :: .ref (gm 3) :: rest)) := by
  subst hv
  exact va_lald hx hb hK hP 3 2 rfl rfl hin hdg kk
theorem qbt_before (hx : p.tables.exec = Jvm.exec) (hb : c.code = cc) (hK : va_K D vwCl (tysM ca) s) (hB : MWd D gm ca A s.heap st H locs) {i : Int32} {x : Int64} {v : Nat → Int64} (hin : vp_in i 64) (hv : vp_updL (qbs_before st) i.toNatClampNeg x = v) (hdg : decode cc pc = .ok (.lastore, 1)) (kk : ∀ (H : Heap) (locs : List Loc), MWd D gm ca A s.heap (qbs_put_before v st) H locs → W p l e R s m args below meth c H locs cells slots Q (F0 m (pc + 1) ls (rest))) : W p l e R s m args below meth c H locs cells slots Q (F0 m pc ls (.long x :: .int i :: .ref (gm 3) :: rest)) := by
  subst hv
  exact va_last hx hb hK hB.1 hB.2.1 hB.2.2 3 2 rfl rfl hin hdg (fun H locs hP hD hS => kk H locs ⟨hP, hD, hS⟩)
theorem qbl_keys (hx : p.tables.exec = Jvm.exec) (hb : c.code = cc) (hK : va_K D vwCl (tysM ca) s) (hP : va_P D vwCl (wM gm ca st) H) {i : Int32} {v : Int64} (hin : vp_in i 8) (hv : qbs_keys st i.toNatClampNeg = v) (hdg : decode cc pc = .ok (.laload, 1)) (kk : W p l e R s m args below meth c H locs cells slots Q (F0 m (pc + 1) ls (.long v :: rest))) : W p l e R s m args below meth c H locs cells slots Q (F0 m pc ls (.int i :: .ref (gm 4) :: rest)) := by
  subst hv
  exact va_lald hx hb hK hP 4 3 rfl rfl hin hdg kk
theorem qbt_keys (hx : p.tables.exec = Jvm.exec) (hb : c.code = cc) (hK : va_K D vwCl (tysM ca) s) (hB : MWd D gm ca A s.heap st H locs) {i : Int32} {x : Int64} {v : Nat → Int64} (hin : vp_in i 8) (hv : vp_updL (qbs_keys st) i.toNatClampNeg x = v) (hdg : decode cc pc = .ok (.lastore, 1)) (kk : ∀ (H : Heap) (locs : List Loc), MWd D gm ca A s.heap (qbs_put_keys v st) H locs → W p l e R s m args below meth c H locs cells slots Q (F0 m (pc + 1) ls (rest))) : W p l e R s m args below meth c H locs cells slots Q (F0 m pc ls (.long x :: .int i :: .ref (gm 4) :: rest)) := by
  subst hv
  exact va_last hx hb hK hB.1 hB.2.1 hB.2.2 4 3 rfl rfl hin hdg (fun H locs hP hD hS => kk H locs ⟨hP, hD, hS⟩)
theorem qbl_values (hx : p.tables.exec = Jvm.exec) (hb : c.code = cc) (hK : va_K D vwCl (tysM ca) s) (hP : va_P D vwCl (wM gm ca st) H) {i : Int32} {v : Int64} (hin : vp_in i 8) (hv : qbs_values st i.toNatClampNeg = v) (hdg : decode cc pc = .ok (.laload, 1)) (kk : W p l e R s m args below meth c H locs cells slots Q (F0 m (pc + 1) ls (.long v :: rest))) : W p l e R s m args below meth c H locs cells slots Q (F0 m pc ls (.int i :: .ref (gm 5) :: rest)) := by
  subst hv
  exact va_lald hx hb hK hP 5 4 rfl rfl hin hdg kk
theorem qbt_values (hx : p.tables.exec = Jvm.exec) (hb : c.code = cc) (hK : va_K D vwCl (tysM ca) s) (hB : MWd D gm ca A s.heap st H locs) {i : Int32} {x : Int64} {v : Nat → Int64} (hin : vp_in i 8) (hv : vp_updL (qbs_values st) i.toNatClampNeg x = v) (hdg : decode cc pc = .ok (.lastore, 1)) (kk : ∀ (H : Heap) (locs : List Loc), MWd D gm ca A s.heap (qbs_put_values v st) H locs → W p l e R s m args below meth c H locs cells slots Q (F0 m (pc + 1) ls (rest))) : W p l e R s m args below meth c H locs cells slots Q (F0 m pc ls (.long x :: .int i :: .ref (gm 5) :: rest)) := by
  subst hv
  exact va_last hx hb hK hB.1 hB.2.1 hB.2.2 5 4 rfl rfl hin hdg (fun H locs hP hD hS => kk H locs ⟨hP, hD, hS⟩)
theorem qbl_leaves (hx : p.tables.exec = Jvm.exec) (hb : c.code = cc) (hK : va_K D vwCl (tysM ca) s) (hP : va_P D vwCl (wM gm ca st) H) {i : Int32} {v : Int32} (hin : vp_in i 18) (hv : qbs_leaves st i.toNatClampNeg = v) (hdg : decode cc pc = .ok (.iaload, 1)) (kk : W p l e R s m args below meth c H locs cells slots Q (F0 m (pc + 1) ls (.int v :: rest))) : W p l e R s m args below meth c H locs cells slots Q (F0 m pc ls (.int i :: .ref (gm 6) :: rest)) := by
  subst hv
  exact va_iald hx hb hK hP 6 5 rfl rfl hin hdg kk
theorem qbt_leaves (hx : p.tables.exec = Jvm.exec) (hb : c.code = cc) (hK : va_K D vwCl (tysM ca) s) (hB : MWd D gm ca A s.heap st H locs) {i : Int32} {x : Int32} {v : Nat → Int32} (hin : vp_in i 18) (hv : upd (qbs_leaves st) i.toNatClampNeg x = v) (hdg : decode cc pc = .ok (.iastore, 1)) (kk : ∀ (H : Heap) (locs : List Loc), MWd D gm ca A s.heap (qbs_put_leaves v st) H locs → W p l e R s m args below meth c H locs cells slots Q (F0 m (pc + 1) ls (rest))) : W p l e R s m args below meth c H locs cells slots Q (F0 m pc ls (.int x :: .int i :: .ref (gm 6) :: rest)) := by
  subst hv
  exact va_iast hx hb hK hB.1 hB.2.1 hB.2.2 6 5 rfl rfl hin hdg (fun H locs hP hD hS => kk H locs ⟨hP, hD, hS⟩)
theorem qbl_taken (hx : p.tables.exec = Jvm.exec) (hb : c.code = cc) (hK : va_K D vwCl (tysM ca) s) (hP : va_P D vwCl (wM gm ca st) H) {i : Int32} {v : Int32} (hin : vp_in i 64) (hv : qbs_taken st i.toNatClampNeg = v) (hdg : decode cc pc = .ok (.baload, 1)) (kk : W p l e R s m args below meth c H locs cells slots Q (F0 m (pc + 1) ls (.int v :: rest))) : W p l e R s m args below meth c H locs cells slots Q (F0 m pc ls (.int i :: .ref (gm 7) :: rest)) := by
  subst hv
  exact va_zald hx hb hK hP 7 6 rfl rfl hin hdg kk
theorem qbt_taken (hx : p.tables.exec = Jvm.exec) (hb : c.code = cc) (hK : va_K D vwCl (tysM ca) s) (hB : MWd D gm ca A s.heap st H locs) {i : Int32} {x : Int32} {v : Nat → Int32} (hin : vp_in i 64) (hv : upd (qbs_taken st) i.toNatClampNeg x = v) (hz : vp_nar .boolean x = x) (hdg : decode cc pc = .ok (.bastore, 1)) (kk : ∀ (H : Heap) (locs : List Loc), MWd D gm ca A s.heap (qbs_put_taken v st) H locs → W p l e R s m args below meth c H locs cells slots Q (F0 m (pc + 1) ls (rest))) : W p l e R s m args below meth c H locs cells slots Q (F0 m pc ls (.int x :: .int i :: .ref (gm 7) :: rest)) := by
  subst hv
  rw [← hz] at kk
  exact va_zast hx hb hK hB.1 hB.2.1 hB.2.2 7 6 rfl rfl hin hdg (fun H locs hP hD hS => kk H locs ⟨hP, hD, hS⟩)
end BR
