/-- the words that every method of ours is given: those of the tables that stay true while the tables get warmer -/
def lw_g : List Cond := lw_tbl.filter xgood
theorem lw_good {args : Array Value} {s : State} (hts : ∀ w ∈ lw_g, w.before args s = true) : ∀ w ∈ lw_g, ∀ (a' : Array Value) (U : State), s.WarmedH U.vm → w.before a' U = true :=
  fun w hw _ _ hW => xword hW (List.mem_filter.mp hw).2 (hts w hw)
theorem callB_x {R : Room} {s : State} {args : Array Value} {own : String} {index : Nat} {y : MethodName} {bytes : ByteArray} {maxL : Nat} {ret : Option FieldType} {rm : Room} (hts : ∀ w ∈ lw_g, w.before args s = true) (hc : Cond.code y bytes maxL ret ∈ lw_g) (n : Nat) (hi : Cond.initialized y.cls ∈ lw_g) (hl : Cond.methodLink own index y ∈ lw_g)
    (hd : y.cls ≠ "java/lang/invoke/MethodHandle" ∧ y.cls ≠ "java/lang/invoke/VarHandle" ∧ (parseMethodDescriptor y.desc).map (fun d => d.parameters.length) = some n) (hR : rm.frames + 1 ≤ R.frames ∧ 8 + (maxL + 11) + rm.locals ≤ R.locals) : CallB R s args own index y bytes maxL ret lw_g rm rm.cells rm.slots n := by
  refine ⟨rfl, rfl, hR.1, hR.2, lw_good hts, hc, hts _ hc, hts _ hi, ⟨hd.1, hd.2.1⟩, fun sig h => ?_, hts _ hl⟩
  have h2 := hd.2.2
  rw [h] at h2
  exact (Option.some.inj h2).symm
def RB : String := "LeafBook"
abbrev kb_put : ByteArray := prog_1_method_2_code
def yb_put : MethodName := ⟨"LeafBook", "put", "(IJ)I"⟩
theorem mcb_put : Cond.code yb_put kb_put 6 (some .int) ∈ lw_g := List.mem_filter.mpr ⟨List.mem_append_right _ (List.mem_of_getElem? (i := 172) (by decide +kernel)), rfl⟩
abbrev kb_drop : ByteArray := prog_1_method_3_code
def yb_drop : MethodName := ⟨"LeafBook", "drop", "(I)I"⟩
theorem mcb_drop : Cond.code yb_drop kb_drop 4 (some .int) ∈ lw_g := List.mem_filter.mpr ⟨List.mem_append_right _ (List.mem_of_getElem? (i := 334) (by decide +kernel)), rfl⟩
abbrev kb_version : ByteArray := prog_1_method_4_code
def yb_version : MethodName := ⟨"LeafBook", "version", "()I"⟩
theorem mcb_version : Cond.code yb_version kb_version 1 (some .int) ∈ lw_g := List.mem_filter.mpr ⟨List.mem_append_right _ (List.mem_of_getElem? (i := 345) (by decide +kernel)), rfl⟩
abbrev kb_has : ByteArray := prog_1_method_5_code
def yb_has : MethodName := ⟨"LeafBook", "has", "(II)Z"⟩
theorem mcb_has : Cond.code yb_has kb_has 3 (some .boolean) ∈ lw_g := List.mem_filter.mpr ⟨List.mem_append_right _ (List.mem_of_getElem? (i := 353) (by decide +kernel)), rfl⟩
abbrev kb_find : ByteArray := prog_1_method_6_code
def yb_find : MethodName := ⟨"LeafBook", "find", "(II)J"⟩
theorem mcb_find : Cond.code yb_find kb_find 4 (some .long) ∈ lw_g := List.mem_filter.mpr ⟨List.mem_append_right _ (List.mem_of_getElem? (i := 384) (by decide +kernel)), rfl⟩
abbrev kb_count : ByteArray := prog_1_method_7_code
def yb_count : MethodName := ⟨"LeafBook", "count", "(II)I"⟩
theorem mcb_count : Cond.code yb_count kb_count 4 (some .int) ∈ lw_g := List.mem_filter.mpr ⟨List.mem_append_right _ (List.mem_of_getElem? (i := 391) (by decide +kernel)), rfl⟩
abbrev kb_key : ByteArray := prog_1_method_8_code
def yb_key : MethodName := ⟨"LeafBook", "key", "(II)I"⟩
theorem mcb_key : Cond.code yb_key kb_key 4 (some .int) ∈ lw_g := List.mem_filter.mpr ⟨List.mem_append_right _ (List.mem_of_getElem? (i := 399) (by decide +kernel)), rfl⟩
abbrev kb_same : ByteArray := prog_1_method_9_code
def yb_same : MethodName := ⟨"LeafBook", "same", "(II)Z"⟩
theorem mcb_same : Cond.code yb_same kb_same 3 (some .boolean) ∈ lw_g := List.mem_filter.mpr ⟨List.mem_append_right _ (List.mem_of_getElem? (i := 411) (by decide +kernel)), rfl⟩
abbrev kb_free : ByteArray := prog_1_method_10_code
def yb_free : MethodName := ⟨"LeafBook", "free", "()I"⟩
theorem mcb_free : Cond.code yb_free kb_free 1 (some .int) ∈ lw_g := List.mem_filter.mpr ⟨List.mem_append_right _ (List.mem_of_getElem? (i := 422) (by decide +kernel)), rfl⟩
abbrev kb_crash : ByteArray := prog_1_method_11_code
def yb_crash : MethodName := ⟨"LeafBook", "crash", "(I)I"⟩
theorem mcb_crash : Cond.code yb_crash kb_crash 2 (some .int) ∈ lw_g := List.mem_filter.mpr ⟨List.mem_append_right _ (List.mem_of_getElem? (i := 435) (by decide +kernel)), rfl⟩
abbrev kb_reopen : ByteArray := prog_1_method_12_code
def yb_reopen : MethodName := ⟨"LeafBook", "reopen", "()I"⟩
theorem mcb_reopen : Cond.code yb_reopen kb_reopen 2 (some .int) ∈ lw_g := List.mem_filter.mpr ⟨List.mem_append_right _ (List.mem_of_getElem? (i := 83) (by decide +kernel)), rfl⟩
abbrev kb_wordAt : ByteArray := prog_1_method_13_code
def yb_wordAt : MethodName := ⟨"LeafBook", "wordAt", "(II)J"⟩
theorem mcb_wordAt : Cond.code yb_wordAt kb_wordAt 3 (some .long) ∈ lw_g := List.mem_filter.mpr ⟨List.mem_append_right _ (List.mem_of_getElem? (i := 452) (by decide +kernel)), rfl⟩
abbrev kb_rootAt : ByteArray := prog_1_method_14_code
def yb_rootAt : MethodName := ⟨"LeafBook", "rootAt", "(II)J"⟩
theorem mcb_rootAt : Cond.code yb_rootAt kb_rootAt 3 (some .long) ∈ lw_g := List.mem_filter.mpr ⟨List.mem_append_right _ (List.mem_of_getElem? (i := 464) (by decide +kernel)), rfl⟩
abbrev kb_poke : ByteArray := prog_1_method_15_code
def yb_poke : MethodName := ⟨"LeafBook", "poke", "(IIJ)V"⟩
theorem mcb_poke : Cond.code yb_poke kb_poke 5 (none) ∈ lw_g := List.mem_filter.mpr ⟨List.mem_append_right _ (List.mem_of_getElem? (i := 476) (by decide +kernel)), rfl⟩
abbrev kb_pokeRoot : ByteArray := prog_1_method_16_code
def yb_pokeRoot : MethodName := ⟨"LeafBook", "pokeRoot", "(IIJ)V"⟩
theorem mcb_pokeRoot : Cond.code yb_pokeRoot kb_pokeRoot 5 (none) ∈ lw_g := List.mem_filter.mpr ⟨List.mem_append_right _ (List.mem_of_getElem? (i := 488) (by decide +kernel)), rfl⟩
abbrev kb_badAt : ByteArray := prog_1_method_17_code
def yb_badAt : MethodName := ⟨"LeafBook", "badAt", "()I"⟩
theorem mcb_badAt : Cond.code yb_badAt kb_badAt 4 (some .int) ∈ lw_g := List.mem_filter.mpr ⟨List.mem_append_right _ (List.mem_of_getElem? (i := 145) (by decide +kernel)), rfl⟩
abbrev kb_requireOpen : ByteArray := prog_1_method_18_code
def yb_requireOpen : MethodName := ⟨"LeafBook", "requireOpen", "()V"⟩
theorem mcb_requireOpen : Cond.code yb_requireOpen kb_requireOpen 1 (none) ∈ lw_g := List.mem_filter.mpr ⟨List.mem_append_right _ (List.mem_of_getElem? (i := 180) (by decide +kernel)), rfl⟩
abbrev kb_requireWritable : ByteArray := prog_1_method_19_code
def yb_requireWritable : MethodName := ⟨"LeafBook", "requireWritable", "()V"⟩
theorem mcb_requireWritable : Cond.code yb_requireWritable kb_requireWritable 1 (none) ∈ lw_g := List.mem_filter.mpr ⟨List.mem_append_right _ (List.mem_of_getElem? (i := 176) (by decide +kernel)), rfl⟩
abbrev kb_requireKey : ByteArray := prog_1_method_20_code
def yb_requireKey : MethodName := ⟨"LeafBook", "requireKey", "(I)V"⟩
theorem mcb_requireKey : Cond.code yb_requireKey kb_requireKey 2 (none) ∈ lw_g := List.mem_filter.mpr ⟨List.mem_append_right _ (List.mem_of_getElem? (i := 257) (by decide +kernel)), rfl⟩
abbrev kb_requireKept : ByteArray := prog_1_method_21_code
def yb_requireKept : MethodName := ⟨"LeafBook", "requireKept", "(I)V"⟩
theorem mcb_requireKept : Cond.code yb_requireKept kb_requireKept 2 (none) ∈ lw_g := List.mem_filter.mpr ⟨List.mem_append_right _ (List.mem_of_getElem? (i := 357) (by decide +kernel)), rfl⟩
abbrev kb_requirePageWord : ByteArray := prog_1_method_22_code
def yb_requirePageWord : MethodName := ⟨"LeafBook", "requirePageWord", "(II)V"⟩
theorem mcb_requirePageWord : Cond.code yb_requirePageWord kb_requirePageWord 3 (none) ∈ lw_g := List.mem_filter.mpr ⟨List.mem_append_right _ (List.mem_of_getElem? (i := 456) (by decide +kernel)), rfl⟩
abbrev kb_requireRootWord : ByteArray := prog_1_method_23_code
def yb_requireRootWord : MethodName := ⟨"LeafBook", "requireRootWord", "(II)V"⟩
theorem mcb_requireRootWord : Cond.code yb_requireRootWord kb_requireRootWord 3 (none) ∈ lw_g := List.mem_filter.mpr ⟨List.mem_append_right _ (List.mem_of_getElem? (i := 468) (by decide +kernel)), rfl⟩
abbrev kb_requireMask : ByteArray := prog_1_method_24_code
def yb_requireMask : MethodName := ⟨"LeafBook", "requireMask", "(J)V"⟩
theorem mcb_requireMask : Cond.code yb_requireMask kb_requireMask 3 (none) ∈ lw_g := List.mem_filter.mpr ⟨List.mem_append_right _ (List.mem_of_getElem? (i := 480) (by decide +kernel)), rfl⟩
abbrev kb_sumOf : ByteArray := prog_1_method_25_code
def yb_sumOf : MethodName := ⟨"LeafBook", "sumOf", "([JII)J"⟩
theorem mcb_sumOf : Cond.code yb_sumOf kb_sumOf 8 (some .long) ∈ lw_g := List.mem_filter.mpr ⟨List.mem_append_right _ (List.mem_of_getElem? (i := 36) (by decide +kernel)), rfl⟩
abbrev kb_isRightPage : ByteArray := prog_1_method_26_code
def yb_isRightPage : MethodName := ⟨"LeafBook", "isRightPage", "(I)Z"⟩
theorem mcb_isRightPage : Cond.code yb_isRightPage kb_isRightPage 10 (some .boolean) ∈ lw_g := List.mem_filter.mpr ⟨List.mem_append_right _ (List.mem_of_getElem? (i := 124) (by decide +kernel)), rfl⟩
abbrev kb_hasRootSum : ByteArray := prog_1_method_27_code
def yb_hasRootSum : MethodName := ⟨"LeafBook", "hasRootSum", "(I)Z"⟩
theorem mcb_hasRootSum : Cond.code yb_hasRootSum kb_hasRootSum 3 (some .boolean) ∈ lw_g := List.mem_filter.mpr ⟨List.mem_append_right _ (List.mem_of_getElem? (i := 103) (by decide +kernel)), rfl⟩
abbrev kb_isBlankRoot : ByteArray := prog_1_method_28_code
def yb_isBlankRoot : MethodName := ⟨"LeafBook", "isBlankRoot", "(I)Z"⟩
theorem mcb_isBlankRoot : Cond.code yb_isBlankRoot kb_isBlankRoot 4 (some .boolean) ∈ lw_g := List.mem_filter.mpr ⟨List.mem_append_right _ (List.mem_of_getElem? (i := 160) (by decide +kernel)), rfl⟩
abbrev kb_isSound : ByteArray := prog_1_method_29_code
def yb_isSound : MethodName := ⟨"LeafBook", "isSound", "(I)Z"⟩
theorem mcb_isSound : Cond.code yb_isSound kb_isSound 8 (some .boolean) ∈ lw_g := List.mem_filter.mpr ⟨List.mem_append_right _ (List.mem_of_getElem? (i := 107) (by decide +kernel)), rfl⟩
abbrev kb_isRightRoot : ByteArray := prog_1_method_30_code
def yb_isRightRoot : MethodName := ⟨"LeafBook", "isRightRoot", "(I)Z"⟩
theorem mcb_isRightRoot : Cond.code yb_isRightRoot kb_isRightRoot 2 (some .boolean) ∈ lw_g := List.mem_filter.mpr ⟨List.mem_append_right _ (List.mem_of_getElem? (i := 99) (by decide +kernel)), rfl⟩
abbrev kb_hasRightLeaves : ByteArray := prog_1_method_31_code
def yb_hasRightLeaves : MethodName := ⟨"LeafBook", "hasRightLeaves", "(I)Z"⟩
theorem mcb_hasRightLeaves : Cond.code yb_hasRightLeaves kb_hasRightLeaves 9 (some .boolean) ∈ lw_g := List.mem_filter.mpr ⟨List.mem_append_right _ (List.mem_of_getElem? (i := 112) (by decide +kernel)), rfl⟩
abbrev kb_isKept : ByteArray := prog_1_method_32_code
def yb_isKept : MethodName := ⟨"LeafBook", "isKept", "(I)Z"⟩
theorem mcb_isKept : Cond.code yb_isKept kb_isKept 3 (some .boolean) ∈ lw_g := List.mem_filter.mpr ⟨List.mem_append_right _ (List.mem_of_getElem? (i := 252) (by decide +kernel)), rfl⟩
abbrev kb_heldPages : ByteArray := prog_1_method_33_code
def yb_heldPages : MethodName := ⟨"LeafBook", "heldPages", "()J"⟩
theorem mcb_heldPages : Cond.code yb_heldPages kb_heldPages 4 (some .long) ∈ lw_g := List.mem_filter.mpr ⟨List.mem_append_right _ (List.mem_of_getElem? (i := 149) (by decide +kernel)), rfl⟩
abbrev kb_pagesOf : ByteArray := prog_1_method_34_code
def yb_pagesOf : MethodName := ⟨"LeafBook", "pagesOf", "(I)J"⟩
theorem mcb_pagesOf : Cond.code yb_pagesOf kb_pagesOf 6 (some .long) ∈ lw_g := List.mem_filter.mpr ⟨List.mem_append_right _ (List.mem_of_getElem? (i := 153) (by decide +kernel)), rfl⟩
abbrev kb_isIn : ByteArray := prog_1_method_35_code
def yb_isIn : MethodName := ⟨"LeafBook", "isIn", "(JI)Z"⟩
theorem mcb_isIn : Cond.code yb_isIn kb_isIn 3 (some .boolean) ∈ lw_g := List.mem_filter.mpr ⟨List.mem_append_right _ (List.mem_of_getElem? (i := 156) (by decide +kernel)), rfl⟩
abbrev kb_greatestWhole : ByteArray := prog_1_method_36_code
def yb_greatestWhole : MethodName := ⟨"LeafBook", "greatestWhole", "()I"⟩
theorem mcb_greatestWhole : Cond.code yb_greatestWhole kb_greatestWhole 7 (some .int) ∈ lw_g := List.mem_filter.mpr ⟨List.mem_append_right _ (List.mem_of_getElem? (i := 87) (by decide +kernel)), rfl⟩
abbrev kb_rootOf : ByteArray := prog_1_method_37_code
def yb_rootOf : MethodName := ⟨"LeafBook", "rootOf", "(I)I"⟩
theorem mcb_rootOf : Cond.code yb_rootOf kb_rootOf 1 (some .int) ∈ lw_g := List.mem_filter.mpr ⟨List.mem_append_right _ (List.mem_of_getElem? (i := 92) (by decide +kernel)), rfl⟩
abbrev kb_leavesOf : ByteArray := prog_1_method_38_code
def yb_leavesOf : MethodName := ⟨"LeafBook", "leavesOf", "(I)I"⟩
theorem mcb_leavesOf : Cond.code yb_leavesOf kb_leavesOf 2 (some .int) ∈ lw_g := List.mem_filter.mpr ⟨List.mem_append_right _ (List.mem_of_getElem? (i := 116) (by decide +kernel)), rfl⟩
abbrev kb_pageOf : ByteArray := prog_1_method_39_code
def yb_pageOf : MethodName := ⟨"LeafBook", "pageOf", "(II)I"⟩
theorem mcb_pageOf : Cond.code yb_pageOf kb_pageOf 3 (some .int) ∈ lw_g := List.mem_filter.mpr ⟨List.mem_append_right _ (List.mem_of_getElem? (i := 120) (by decide +kernel)), rfl⟩
abbrev kb_entriesOfRoot : ByteArray := prog_1_method_40_code
def yb_entriesOfRoot : MethodName := ⟨"LeafBook", "entriesOfRoot", "(I)I"⟩
theorem mcb_entriesOfRoot : Cond.code yb_entriesOfRoot kb_entriesOfRoot 2 (some .int) ∈ lw_g := List.mem_filter.mpr ⟨List.mem_append_right _ (List.mem_of_getElem? (i := 327) (by decide +kernel)), rfl⟩
abbrev kb_entriesOf : ByteArray := prog_1_method_41_code
def yb_entriesOf : MethodName := ⟨"LeafBook", "entriesOf", "(I)I"⟩
theorem mcb_entriesOf : Cond.code yb_entriesOf kb_entriesOf 2 (some .int) ∈ lw_g := List.mem_filter.mpr ⟨List.mem_append_right _ (List.mem_of_getElem? (i := 130) (by decide +kernel)), rfl⟩
abbrev kb_entryAt : ByteArray := prog_1_method_42_code
def yb_entryAt : MethodName := ⟨"LeafBook", "entryAt", "(II)I"⟩
theorem mcb_entryAt : Cond.code yb_entryAt kb_entryAt 2 (some .int) ∈ lw_g := List.mem_filter.mpr ⟨List.mem_append_right _ (List.mem_of_getElem? (i := 137) (by decide +kernel)), rfl⟩
abbrev kb_firstKey : ByteArray := prog_1_method_43_code
def yb_firstKey : MethodName := ⟨"LeafBook", "firstKey", "(I)J"⟩
theorem mcb_firstKey : Cond.code yb_firstKey kb_firstKey 2 (some .long) ∈ lw_g := List.mem_filter.mpr ⟨List.mem_append_right _ (List.mem_of_getElem? (i := 134) (by decide +kernel)), rfl⟩
abbrev kb_lastKey : ByteArray := prog_1_method_44_code
def yb_lastKey : MethodName := ⟨"LeafBook", "lastKey", "(I)J"⟩
theorem mcb_lastKey : Cond.code yb_lastKey kb_lastKey 2 (some .long) ∈ lw_g := List.mem_filter.mpr ⟨List.mem_append_right _ (List.mem_of_getElem? (i := 141) (by decide +kernel)), rfl⟩
abbrev kb_leafFor : ByteArray := prog_1_method_45_code
def yb_leafFor : MethodName := ⟨"LeafBook", "leafFor", "(II)I"⟩
theorem mcb_leafFor : Cond.code yb_leafFor kb_leafFor 6 (some .int) ∈ lw_g := List.mem_filter.mpr ⟨List.mem_append_right _ (List.mem_of_getElem? (i := 278) (by decide +kernel)), rfl⟩
abbrev kb_entryWithKey : ByteArray := prog_1_method_46_code
def yb_entryWithKey : MethodName := ⟨"LeafBook", "entryWithKey", "(II)I"⟩
theorem mcb_entryWithKey : Cond.code yb_entryWithKey kb_entryWithKey 7 (some .int) ∈ lw_g := List.mem_filter.mpr ⟨List.mem_append_right _ (List.mem_of_getElem? (i := 377) (by decide +kernel)), rfl⟩
abbrev kb_entryByNumber : ByteArray := prog_1_method_47_code
def yb_entryByNumber : MethodName := ⟨"LeafBook", "entryByNumber", "(II)I"⟩
theorem mcb_entryByNumber : Cond.code yb_entryByNumber kb_entryByNumber 8 (some .int) ∈ lw_g := List.mem_filter.mpr ⟨List.mem_append_right _ (List.mem_of_getElem? (i := 403) (by decide +kernel)), rfl⟩
abbrev kb_haveSameEntries : ByteArray := prog_1_method_48_code
def yb_haveSameEntries : MethodName := ⟨"LeafBook", "haveSameEntries", "(II)Z"⟩
theorem mcb_haveSameEntries : Cond.code yb_haveSameEntries kb_haveSameEntries 7 (some .boolean) ∈ lw_g := List.mem_filter.mpr ⟨List.mem_append_right _ (List.mem_of_getElem? (i := 415) (by decide +kernel)), rfl⟩
abbrev kb_loadDraft : ByteArray := prog_1_method_49_code
def yb_loadDraft : MethodName := ⟨"LeafBook", "loadDraft", "(II)V"⟩
theorem mcb_loadDraft : Cond.code yb_loadDraft kb_loadDraft 6 (none) ∈ lw_g := List.mem_filter.mpr ⟨List.mem_append_right _ (List.mem_of_getElem? (i := 282) (by decide +kernel)), rfl⟩
abbrev kb_placeInDraft : ByteArray := prog_1_method_50_code
def yb_placeInDraft : MethodName := ⟨"LeafBook", "placeInDraft", "(I)I"⟩
theorem mcb_placeInDraft : Cond.code yb_placeInDraft kb_placeInDraft 3 (some .int) ∈ lw_g := List.mem_filter.mpr ⟨List.mem_append_right _ (List.mem_of_getElem? (i := 290) (by decide +kernel)), rfl⟩
abbrev kb_draftHasAt : ByteArray := prog_1_method_51_code
def yb_draftHasAt : MethodName := ⟨"LeafBook", "draftHasAt", "(II)Z"⟩
theorem mcb_draftHasAt : Cond.code yb_draftHasAt kb_draftHasAt 3 (some .boolean) ∈ lw_g := List.mem_filter.mpr ⟨List.mem_append_right _ (List.mem_of_getElem? (i := 294) (by decide +kernel)), rfl⟩
abbrev kb_putInDraft : ByteArray := prog_1_method_52_code
def yb_putInDraft : MethodName := ⟨"LeafBook", "putInDraft", "(IJ)V"⟩
theorem mcb_putInDraft : Cond.code yb_putInDraft kb_putInDraft 6 (none) ∈ lw_g := List.mem_filter.mpr ⟨List.mem_append_right _ (List.mem_of_getElem? (i := 286) (by decide +kernel)), rfl⟩
abbrev kb_dropFromDraft : ByteArray := prog_1_method_53_code
def yb_dropFromDraft : MethodName := ⟨"LeafBook", "dropFromDraft", "(I)Z"⟩
theorem mcb_dropFromDraft : Cond.code yb_dropFromDraft kb_dropFromDraft 4 (some .boolean) ∈ lw_g := List.mem_filter.mpr ⟨List.mem_append_right _ (List.mem_of_getElem? (i := 338) (by decide +kernel)), rfl⟩
abbrev kb_act : ByteArray := prog_1_method_54_code
def yb_act : MethodName := ⟨"LeafBook", "act", "(II)I"⟩
theorem mcb_act : Cond.code yb_act kb_act 9 (some .int) ∈ lw_g := List.mem_filter.mpr ⟨List.mem_append_right _ (List.mem_of_getElem? (i := 298) (by decide +kernel)), rfl⟩
abbrev kb_pageNotIn : ByteArray := prog_1_method_55_code
def yb_pageNotIn : MethodName := ⟨"LeafBook", "pageNotIn", "(JI)I"⟩
theorem mcb_pageNotIn : Cond.code yb_pageNotIn kb_pageNotIn 5 (some .int) ∈ lw_g := List.mem_filter.mpr ⟨List.mem_append_right _ (List.mem_of_getElem? (i := 303) (by decide +kernel)), rfl⟩
abbrev kb_writeLeaves : ByteArray := prog_1_method_56_code
def yb_writeLeaves : MethodName := ⟨"LeafBook", "writeLeaves", "()V"⟩
theorem mcb_writeLeaves : Cond.code yb_writeLeaves kb_writeLeaves 1 (none) ∈ lw_g := List.mem_filter.mpr ⟨List.mem_append_right _ (List.mem_of_getElem? (i := 315) (by decide +kernel)), rfl⟩
abbrev kb_writeLeaf : ByteArray := prog_1_method_57_code
def yb_writeLeaf : MethodName := ⟨"LeafBook", "writeLeaf", "(III)V"⟩
theorem mcb_writeLeaf : Cond.code yb_writeLeaf kb_writeLeaf 6 (none) ∈ lw_g := List.mem_filter.mpr ⟨List.mem_append_right _ (List.mem_of_getElem? (i := 319) (by decide +kernel)), rfl⟩
abbrev kb_writeRoot : ByteArray := prog_1_method_58_code
def yb_writeRoot : MethodName := ⟨"LeafBook", "writeRoot", "(II)V"⟩
theorem mcb_writeRoot : Cond.code yb_writeRoot kb_writeRoot 9 (none) ∈ lw_g := List.mem_filter.mpr ⟨List.mem_append_right _ (List.mem_of_getElem? (i := 323) (by decide +kernel)), rfl⟩
abbrev kb_clearRoot : ByteArray := prog_1_method_59_code
def yb_clearRoot : MethodName := ⟨"LeafBook", "clearRoot", "(I)V"⟩
theorem mcb_clearRoot : Cond.code yb_clearRoot kb_clearRoot 4 (none) ∈ lw_g := List.mem_filter.mpr ⟨List.mem_append_right _ (List.mem_of_getElem? (i := 33) (by decide +kernel)), rfl⟩
abbrev kb_makeRootZeroAnew : ByteArray := prog_1_method_60_code
def yb_makeRootZeroAnew : MethodName := ⟨"LeafBook", "makeRootZeroAnew", "()V"⟩
theorem mcb_makeRootZeroAnew : Cond.code yb_makeRootZeroAnew kb_makeRootZeroAnew 1 (none) ∈ lw_g := List.mem_filter.mpr ⟨List.mem_append_right _ (List.mem_of_getElem? (i := 29) (by decide +kernel)), rfl⟩
abbrev kb_writtenWords : ByteArray := prog_1_method_61_code
def yb_writtenWords : MethodName := ⟨"LeafBook", "writtenWords", "()I"⟩
theorem mcb_writtenWords : Cond.code yb_writtenWords kb_writtenWords 1 (some .int) ∈ lw_g := List.mem_filter.mpr ⟨List.mem_append_right _ (List.mem_of_getElem? (i := 445) (by decide +kernel)), rfl⟩
abbrev kb_saveWordsBefore : ByteArray := prog_1_method_62_code
def yb_saveWordsBefore : MethodName := ⟨"LeafBook", "saveWordsBefore", "()V"⟩
theorem mcb_saveWordsBefore : Cond.code yb_saveWordsBefore kb_saveWordsBefore 2 (none) ∈ lw_g := List.mem_filter.mpr ⟨List.mem_append_right _ (List.mem_of_getElem? (i := 308) (by decide +kernel)), rfl⟩
abbrev kb_restoreFrom : ByteArray := prog_1_method_63_code
def yb_restoreFrom : MethodName := ⟨"LeafBook", "restoreFrom", "(I)V"⟩
theorem mcb_restoreFrom : Cond.code yb_restoreFrom kb_restoreFrom 5 (none) ∈ lw_g := List.mem_filter.mpr ⟨List.mem_append_right _ (List.mem_of_getElem? (i := 441) (by decide +kernel)), rfl⟩
abbrev kj_floorMod : ByteArray := prog_9_method_50_code
def yj_floorMod : MethodName := ⟨"java/lang/Math", "floorMod", "(II)I"⟩
theorem mcj_floorMod : Cond.code yj_floorMod kj_floorMod 3 (some .int) ∈ lw_g := List.mem_filter.mpr ⟨List.mem_append_right _ (List.mem_of_getElem? (i := 95) (by decide +kernel)), rfl⟩
abbrev kj_max : ByteArray := prog_9_method_65_code
def yj_max : MethodName := ⟨"java/lang/Math", "max", "(II)I"⟩
theorem mcj_max : Cond.code yj_max kj_max 2 (some .int) ∈ lw_g := List.mem_filter.mpr ⟨List.mem_append_right _ (List.mem_of_getElem? (i := 25) (by decide +kernel)), rfl⟩
abbrev kj_min : ByteArray := prog_9_method_69_code
def yj_min : MethodName := ⟨"java/lang/Math", "min", "(II)I"⟩
theorem mcj_min : Cond.code yj_min kj_min 2 (some .int) ∈ lw_g := List.mem_filter.mpr ⟨List.mem_append_right _ (List.mem_of_getElem? (i := 22) (by decide +kernel)), rfl⟩
theorem dj_floorMod_0 : decode kj_floorMod 0 = .ok (.iload_n 0, 1) := by decide +kernel
theorem dj_floorMod_1 : decode kj_floorMod 1 = .ok (.iload_n 1, 1) := by decide +kernel
theorem dj_floorMod_2 : decode kj_floorMod 2 = .ok (.irem, 1) := by decide +kernel
theorem dj_floorMod_3 : decode kj_floorMod 3 = .ok (.istore_n 2, 1) := by decide +kernel
theorem dj_floorMod_4 : decode kj_floorMod 4 = .ok (.iload_n 0, 1) := by decide +kernel
theorem dj_floorMod_5 : decode kj_floorMod 5 = .ok (.iload_n 1, 1) := by decide +kernel
theorem dj_floorMod_6 : decode kj_floorMod 6 = .ok (.ixor, 1) := by decide +kernel
theorem dj_floorMod_7 : decode kj_floorMod 7 = .ok (.ifCond .ge 11, 3) := by decide +kernel
theorem dj_floorMod_10 : decode kj_floorMod 10 = .ok (.iload_n 2, 1) := by decide +kernel
theorem dj_floorMod_11 : decode kj_floorMod 11 = .ok (.ifCond .eq 7, 3) := by decide +kernel
theorem dj_floorMod_14 : decode kj_floorMod 14 = .ok (.iload_n 2, 1) := by decide +kernel
theorem dj_floorMod_15 : decode kj_floorMod 15 = .ok (.iload_n 1, 1) := by decide +kernel
theorem dj_floorMod_16 : decode kj_floorMod 16 = .ok (.iadd, 1) := by decide +kernel
theorem dj_floorMod_17 : decode kj_floorMod 17 = .ok (.ireturn, 1) := by decide +kernel
theorem dj_floorMod_18 : decode kj_floorMod 18 = .ok (.iload_n 2, 1) := by decide +kernel
theorem dj_floorMod_19 : decode kj_floorMod 19 = .ok (.ireturn, 1) := by decide +kernel
theorem dj_max_0 : decode kj_max 0 = .ok (.iload_n 0, 1) := by decide +kernel
theorem dj_max_1 : decode kj_max 1 = .ok (.iload_n 1, 1) := by decide +kernel
theorem dj_max_2 : decode kj_max 2 = .ok (.if_icmp .lt 7, 3) := by decide +kernel
theorem dj_max_5 : decode kj_max 5 = .ok (.iload_n 0, 1) := by decide +kernel
theorem dj_max_6 : decode kj_max 6 = .ok (.goto 4, 3) := by decide +kernel
theorem dj_max_9 : decode kj_max 9 = .ok (.iload_n 1, 1) := by decide +kernel
theorem dj_max_10 : decode kj_max 10 = .ok (.ireturn, 1) := by decide +kernel
theorem dj_min_0 : decode kj_min 0 = .ok (.iload_n 0, 1) := by decide +kernel
theorem dj_min_1 : decode kj_min 1 = .ok (.iload_n 1, 1) := by decide +kernel
theorem dj_min_2 : decode kj_min 2 = .ok (.if_icmp .gt 7, 3) := by decide +kernel
theorem dj_min_5 : decode kj_min 5 = .ok (.iload_n 0, 1) := by decide +kernel
theorem dj_min_6 : decode kj_min 6 = .ok (.goto 4, 3) := by decide +kernel
theorem dj_min_9 : decode kj_min 9 = .ok (.iload_n 1, 1) := by decide +kernel
theorem dj_min_10 : decode kj_min 10 = .ok (.ireturn, 1) := by decide +kernel
abbrev kj_bitCount : ByteArray := prog_8_method_50_code
def yj_bitCount : MethodName := ⟨"java/lang/Long", "bitCount", "(J)I"⟩
theorem mcj_bitCount : Cond.code yj_bitCount kj_bitCount 2 (some .int) ∈ lw_g := List.mem_filter.mpr ⟨List.mem_append_right _ (List.mem_of_getElem? (i := 425) (by decide +kernel)), rfl⟩
theorem dj_bitCount_0 : decode kj_bitCount 0 = .ok (.lload_n 0, 1) := by decide +kernel
theorem dj_bitCount_1 : decode kj_bitCount 1 = .ok (.lload_n 0, 1) := by decide +kernel
theorem dj_bitCount_2 : decode kj_bitCount 2 = .ok (.iconst 1, 1) := by decide +kernel
theorem dj_bitCount_3 : decode kj_bitCount 3 = .ok (.lushr, 1) := by decide +kernel
theorem dj_bitCount_4 : decode kj_bitCount 4 = .ok (.ldc2_w 314, 3) := by decide +kernel
theorem dj_bitCount_7 : decode kj_bitCount 7 = .ok (.land, 1) := by decide +kernel
theorem dj_bitCount_8 : decode kj_bitCount 8 = .ok (.lsub, 1) := by decide +kernel
theorem dj_bitCount_9 : decode kj_bitCount 9 = .ok (.lstore_n 0, 1) := by decide +kernel
theorem dj_bitCount_10 : decode kj_bitCount 10 = .ok (.lload_n 0, 1) := by decide +kernel
theorem dj_bitCount_11 : decode kj_bitCount 11 = .ok (.ldc2_w 316, 3) := by decide +kernel
theorem dj_bitCount_14 : decode kj_bitCount 14 = .ok (.land, 1) := by decide +kernel
theorem dj_bitCount_15 : decode kj_bitCount 15 = .ok (.lload_n 0, 1) := by decide +kernel
theorem dj_bitCount_16 : decode kj_bitCount 16 = .ok (.iconst 2, 1) := by decide +kernel
theorem dj_bitCount_17 : decode kj_bitCount 17 = .ok (.lushr, 1) := by decide +kernel
theorem dj_bitCount_18 : decode kj_bitCount 18 = .ok (.ldc2_w 316, 3) := by decide +kernel
theorem dj_bitCount_21 : decode kj_bitCount 21 = .ok (.land, 1) := by decide +kernel
theorem dj_bitCount_22 : decode kj_bitCount 22 = .ok (.ladd, 1) := by decide +kernel
theorem dj_bitCount_23 : decode kj_bitCount 23 = .ok (.lstore_n 0, 1) := by decide +kernel
theorem dj_bitCount_24 : decode kj_bitCount 24 = .ok (.lload_n 0, 1) := by decide +kernel
theorem dj_bitCount_25 : decode kj_bitCount 25 = .ok (.lload_n 0, 1) := by decide +kernel
theorem dj_bitCount_26 : decode kj_bitCount 26 = .ok (.iconst 4, 1) := by decide +kernel
theorem dj_bitCount_27 : decode kj_bitCount 27 = .ok (.lushr, 1) := by decide +kernel
theorem dj_bitCount_28 : decode kj_bitCount 28 = .ok (.ladd, 1) := by decide +kernel
theorem dj_bitCount_29 : decode kj_bitCount 29 = .ok (.ldc2_w 318, 3) := by decide +kernel
theorem dj_bitCount_32 : decode kj_bitCount 32 = .ok (.land, 1) := by decide +kernel
theorem dj_bitCount_33 : decode kj_bitCount 33 = .ok (.lstore_n 0, 1) := by decide +kernel
theorem dj_bitCount_34 : decode kj_bitCount 34 = .ok (.lload_n 0, 1) := by decide +kernel
theorem dj_bitCount_35 : decode kj_bitCount 35 = .ok (.lload_n 0, 1) := by decide +kernel
theorem dj_bitCount_36 : decode kj_bitCount 36 = .ok (.bipush 8, 2) := by decide +kernel
theorem dj_bitCount_38 : decode kj_bitCount 38 = .ok (.lushr, 1) := by decide +kernel
theorem dj_bitCount_39 : decode kj_bitCount 39 = .ok (.ladd, 1) := by decide +kernel
theorem dj_bitCount_40 : decode kj_bitCount 40 = .ok (.lstore_n 0, 1) := by decide +kernel
theorem dj_bitCount_41 : decode kj_bitCount 41 = .ok (.lload_n 0, 1) := by decide +kernel
theorem dj_bitCount_42 : decode kj_bitCount 42 = .ok (.lload_n 0, 1) := by decide +kernel
theorem dj_bitCount_43 : decode kj_bitCount 43 = .ok (.bipush 16, 2) := by decide +kernel
theorem dj_bitCount_45 : decode kj_bitCount 45 = .ok (.lushr, 1) := by decide +kernel
theorem dj_bitCount_46 : decode kj_bitCount 46 = .ok (.ladd, 1) := by decide +kernel
theorem dj_bitCount_47 : decode kj_bitCount 47 = .ok (.lstore_n 0, 1) := by decide +kernel
theorem dj_bitCount_48 : decode kj_bitCount 48 = .ok (.lload_n 0, 1) := by decide +kernel
theorem dj_bitCount_49 : decode kj_bitCount 49 = .ok (.lload_n 0, 1) := by decide +kernel
theorem dj_bitCount_50 : decode kj_bitCount 50 = .ok (.bipush 32, 2) := by decide +kernel
theorem dj_bitCount_52 : decode kj_bitCount 52 = .ok (.lushr, 1) := by decide +kernel
theorem dj_bitCount_53 : decode kj_bitCount 53 = .ok (.ladd, 1) := by decide +kernel
theorem dj_bitCount_54 : decode kj_bitCount 54 = .ok (.lstore_n 0, 1) := by decide +kernel
theorem dj_bitCount_55 : decode kj_bitCount 55 = .ok (.lload_n 0, 1) := by decide +kernel
theorem dj_bitCount_56 : decode kj_bitCount 56 = .ok (.l2i, 1) := by decide +kernel
theorem dj_bitCount_57 : decode kj_bitCount 57 = .ok (.bipush 127, 2) := by decide +kernel
theorem dj_bitCount_59 : decode kj_bitCount 59 = .ok (.iand, 1) := by decide +kernel
theorem dj_bitCount_60 : decode kj_bitCount 60 = .ok (.ireturn, 1) := by decide +kernel
theorem fl_pageCount : Cond.fieldLink RB 18 "LeafBook" "pageCount" "I" ∈ lw_g := List.mem_filter.mpr ⟨List.mem_append_right _ (List.mem_of_getElem? (i := 38) (by decide +kernel)), rfl⟩
theorem fl_pages : Cond.fieldLink RB 22 "LeafBook" "pages" "[J" ∈ lw_g := List.mem_filter.mpr ⟨List.mem_append_right _ (List.mem_of_getElem? (i := 39) (by decide +kernel)), rfl⟩
theorem fl_roots : Cond.fieldLink RB 26 "LeafBook" "roots" "[J" ∈ lw_g := List.mem_filter.mpr ⟨List.mem_append_right _ (List.mem_of_getElem? (i := 40) (by decide +kernel)), rfl⟩
theorem fl_newest : Cond.fieldLink RB 52 "LeafBook" "newest" "I" ∈ lw_g := List.mem_filter.mpr ⟨List.mem_append_right _ (List.mem_of_getElem? (i := 41) (by decide +kernel)), rfl⟩
theorem fl_closed : Cond.fieldLink RB 135 "LeafBook" "closed" "Z" ∈ lw_g := List.mem_filter.mpr ⟨List.mem_append_right _ (List.mem_of_getElem? (i := 42) (by decide +kernel)), rfl⟩
theorem fl_canBeCut : Cond.fieldLink RB 121 "LeafBook" "canBeCut" "Z" ∈ lw_g := List.mem_filter.mpr ⟨List.mem_append_right _ (List.mem_of_getElem? (i := 43) (by decide +kernel)), rfl⟩
theorem fl_takenPages : Cond.fieldLink RB 29 "LeafBook" "takenPages" "[I" ∈ lw_g := List.mem_filter.mpr ⟨List.mem_append_right _ (List.mem_of_getElem? (i := 44) (by decide +kernel)), rfl⟩
theorem fl_takenCount : Cond.fieldLink RB 250 "LeafBook" "takenCount" "I" ∈ lw_g := List.mem_filter.mpr ⟨List.mem_append_right _ (List.mem_of_getElem? (i := 45) (by decide +kernel)), rfl⟩
theorem fl_writtenRoot : Cond.fieldLink RB 253 "LeafBook" "writtenRoot" "I" ∈ lw_g := List.mem_filter.mpr ⟨List.mem_append_right _ (List.mem_of_getElem? (i := 46) (by decide +kernel)), rfl⟩
theorem fl_wordsBefore : Cond.fieldLink RB 33 "LeafBook" "wordsBefore" "[J" ∈ lw_g := List.mem_filter.mpr ⟨List.mem_append_right _ (List.mem_of_getElem? (i := 47) (by decide +kernel)), rfl⟩
theorem fl_draftKeys : Cond.fieldLink RB 36 "LeafBook" "draftKeys" "[J" ∈ lw_g := List.mem_filter.mpr ⟨List.mem_append_right _ (List.mem_of_getElem? (i := 48) (by decide +kernel)), rfl⟩
theorem fl_draftValues : Cond.fieldLink RB 39 "LeafBook" "draftValues" "[J" ∈ lw_g := List.mem_filter.mpr ⟨List.mem_append_right _ (List.mem_of_getElem? (i := 49) (by decide +kernel)), rfl⟩
theorem fl_draftCount : Cond.fieldLink RB 233 "LeafBook" "draftCount" "I" ∈ lw_g := List.mem_filter.mpr ⟨List.mem_append_right _ (List.mem_of_getElem? (i := 50) (by decide +kernel)), rfl⟩
theorem ac_link : Cond.methodLink RB 272 arraycopyName ∈ lw_g := List.mem_filter.mpr ⟨List.mem_append_right _ (List.mem_of_getElem? (i := 309) (by decide +kernel)), rfl⟩
theorem ac_static : Cond.static arraycopyName ∈ lw_g := List.mem_filter.mpr ⟨List.mem_append_right _ (List.mem_of_getElem? (i := 310) (by decide +kernel)), rfl⟩
theorem ac_native : Cond.native arraycopyName ∈ lw_g := List.mem_filter.mpr ⟨List.mem_append_right _ (List.mem_of_getElem? (i := 311) (by decide +kernel)), rfl⟩
theorem ac_init : Cond.initialized "java/lang/System" ∈ lw_g := List.mem_filter.mpr ⟨List.mem_append_right _ (List.mem_of_getElem? (i := 9) (by decide +kernel)), rfl⟩
