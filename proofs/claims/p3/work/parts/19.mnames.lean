abbrev km_thrown : ByteArray := prog_3_method_2_code
def ym_thrown : MethodName := ⟨"LeafBookModel", "thrown", "()I"⟩
theorem mcm_thrown : Cond.code ym_thrown km_thrown 1 (some .int) ∈ lw_g := List.mem_filter.mpr ⟨List.mem_append_right _ (List.mem_of_getElem? (i := 550) (by decide +kernel)), rfl⟩
abbrev km_sum : ByteArray := prog_3_method_3_code
def ym_sum : MethodName := ⟨"LeafBookModel", "sum", "(II)J"⟩
theorem mcm_sum : Cond.code ym_sum km_sum 8 (some .long) ∈ lw_g := List.mem_filter.mpr ⟨List.mem_append_right _ (List.mem_of_getElem? (i := 498) (by decide +kernel)), rfl⟩
abbrev km_isIn : ByteArray := prog_3_method_4_code
def ym_isIn : MethodName := ⟨"LeafBookModel", "isIn", "(JJJ)Z"⟩
theorem mcm_isIn : Cond.code ym_isIn km_isIn 6 (some .boolean) ∈ lw_g := List.mem_filter.mpr ⟨List.mem_append_right _ (List.mem_of_getElem? (i := 574) (by decide +kernel)), rfl⟩
abbrev km_isRight : ByteArray := prog_3_method_5_code
def ym_isRight : MethodName := ⟨"LeafBookModel", "isRight", "(I)Z"⟩
theorem mcm_isRight : Cond.code ym_isRight km_isRight 9 (some .boolean) ∈ lw_g := List.mem_filter.mpr ⟨List.mem_append_right _ (List.mem_of_getElem? (i := 579) (by decide +kernel)), rfl⟩
abbrev km_isSound : ByteArray := prog_3_method_6_code
def ym_isSound : MethodName := ⟨"LeafBookModel", "isSound", "(I)Z"⟩
theorem mcm_isSound : Cond.code ym_isSound km_isSound 5 (some .boolean) ∈ lw_g := List.mem_filter.mpr ⟨List.mem_append_right _ (List.mem_of_getElem? (i := 570) (by decide +kernel)), rfl⟩
abbrev km_isRightRoot : ByteArray := prog_3_method_7_code
def ym_isRightRoot : MethodName := ⟨"LeafBookModel", "isRightRoot", "(I)Z"⟩
theorem mcm_isRightRoot : Cond.code ym_isRightRoot km_isRightRoot 11 (some .boolean) ∈ lw_g := List.mem_filter.mpr ⟨List.mem_append_right _ (List.mem_of_getElem? (i := 566) (by decide +kernel)), rfl⟩
abbrev km_isKept : ByteArray := prog_3_method_8_code
def ym_isKept : MethodName := ⟨"LeafBookModel", "isKept", "(I)Z"⟩
theorem mcm_isKept : Cond.code ym_isKept km_isKept 2 (some .boolean) ∈ lw_g := List.mem_filter.mpr ⟨List.mem_append_right _ (List.mem_of_getElem? (i := 562) (by decide +kernel)), rfl⟩
abbrev km_isFree : ByteArray := prog_3_method_9_code
def ym_isFree : MethodName := ⟨"LeafBookModel", "isFree", "(I)Z"⟩
theorem mcm_isFree : Cond.code ym_isFree km_isFree 7 (some .boolean) ∈ lw_g := List.mem_filter.mpr ⟨List.mem_append_right _ (List.mem_of_getElem? (i := 629) (by decide +kernel)), rfl⟩
abbrev km_leafOf : ByteArray := prog_3_method_10_code
def ym_leafOf : MethodName := ⟨"LeafBookModel", "leafOf", "(II)I"⟩
theorem mcm_leafOf : Cond.code ym_leafOf km_leafOf 3 (some .int) ∈ lw_g := List.mem_filter.mpr ⟨List.mem_append_right _ (List.mem_of_getElem? (i := 601) (by decide +kernel)), rfl⟩
abbrev km_leavesOf : ByteArray := prog_3_method_11_code
def ym_leavesOf : MethodName := ⟨"LeafBookModel", "leavesOf", "(I)I"⟩
theorem mcm_leavesOf : Cond.code ym_leavesOf km_leavesOf 2 (some .int) ∈ lw_g := List.mem_filter.mpr ⟨List.mem_append_right _ (List.mem_of_getElem? (i := 613) (by decide +kernel)), rfl⟩
abbrev km_entriesOf : ByteArray := prog_3_method_12_code
def ym_entriesOf : MethodName := ⟨"LeafBookModel", "entriesOf", "(I)I"⟩
theorem mcm_entriesOf : Cond.code ym_entriesOf km_entriesOf 2 (some .int) ∈ lw_g := List.mem_filter.mpr ⟨List.mem_append_right _ (List.mem_of_getElem? (i := 593) (by decide +kernel)), rfl⟩
abbrev km_entry : ByteArray := prog_3_method_13_code
def ym_entry : MethodName := ⟨"LeafBookModel", "entry", "(II)I"⟩
theorem mcm_entry : Cond.code ym_entry km_entry 5 (some .int) ∈ lw_g := List.mem_filter.mpr ⟨List.mem_append_right _ (List.mem_of_getElem? (i := 597) (by decide +kernel)), rfl⟩
abbrev km_place : ByteArray := prog_3_method_14_code
def ym_place : MethodName := ⟨"LeafBookModel", "place", "(II)I"⟩
theorem mcm_place : Cond.code ym_place km_place 6 (some .int) ∈ lw_g := List.mem_filter.mpr ⟨List.mem_append_right _ (List.mem_of_getElem? (i := 589) (by decide +kernel)), rfl⟩
abbrev km_check : ByteArray := prog_3_method_15_code
def ym_check : MethodName := ⟨"LeafBookModel", "check", "(Z)I"⟩
theorem mcm_check : Cond.code ym_check km_check 2 (some .int) ∈ lw_g := List.mem_filter.mpr ⟨List.mem_append_right _ (List.mem_of_getElem? (i := 585) (by decide +kernel)), rfl⟩
abbrev km_version : ByteArray := prog_3_method_16_code
def ym_version : MethodName := ⟨"LeafBookModel", "version", "()I"⟩
theorem mcm_version : Cond.code ym_version km_version 1 (some .int) ∈ lw_g := List.mem_filter.mpr ⟨List.mem_append_right _ (List.mem_of_getElem? (i := 554) (by decide +kernel)), rfl⟩
abbrev km_has : ByteArray := prog_3_method_17_code
def ym_has : MethodName := ⟨"LeafBookModel", "has", "(II)Z"⟩
theorem mcm_has : Cond.code ym_has km_has 3 (some .boolean) ∈ lw_g := List.mem_filter.mpr ⟨List.mem_append_right _ (List.mem_of_getElem? (i := 558) (by decide +kernel)), rfl⟩
abbrev km_find : ByteArray := prog_3_method_18_code
def ym_find : MethodName := ⟨"LeafBookModel", "find", "(II)J"⟩
theorem mcm_find : Cond.code ym_find km_find 4 (some .long) ∈ lw_g := List.mem_filter.mpr ⟨List.mem_append_right _ (List.mem_of_getElem? (i := 605) (by decide +kernel)), rfl⟩
abbrev km_count : ByteArray := prog_3_method_19_code
def ym_count : MethodName := ⟨"LeafBookModel", "count", "(II)I"⟩
theorem mcm_count : Cond.code ym_count km_count 3 (some .int) ∈ lw_g := List.mem_filter.mpr ⟨List.mem_append_right _ (List.mem_of_getElem? (i := 609) (by decide +kernel)), rfl⟩
abbrev km_key : ByteArray := prog_3_method_20_code
def ym_key : MethodName := ⟨"LeafBookModel", "key", "(II)I"⟩
theorem mcm_key : Cond.code ym_key km_key 4 (some .int) ∈ lw_g := List.mem_filter.mpr ⟨List.mem_append_right _ (List.mem_of_getElem? (i := 617) (by decide +kernel)), rfl⟩
abbrev km_same : ByteArray := prog_3_method_21_code
def ym_same : MethodName := ⟨"LeafBookModel", "same", "(II)Z"⟩
theorem mcm_same : Cond.code ym_same km_same 7 (some .boolean) ∈ lw_g := List.mem_filter.mpr ⟨List.mem_append_right _ (List.mem_of_getElem? (i := 621) (by decide +kernel)), rfl⟩
abbrev km_free : ByteArray := prog_3_method_22_code
def ym_free : MethodName := ⟨"LeafBookModel", "free", "()I"⟩
theorem mcm_free : Cond.code ym_free km_free 3 (some .int) ∈ lw_g := List.mem_filter.mpr ⟨List.mem_append_right _ (List.mem_of_getElem? (i := 625) (by decide +kernel)), rfl⟩
abbrev km_write : ByteArray := prog_3_method_23_code
def ym_write : MethodName := ⟨"LeafBookModel", "write", "(IJ)V"⟩
theorem mcm_write : Cond.code ym_write km_write 4 (none) ∈ lw_g := List.mem_filter.mpr ⟨List.mem_append_right _ (List.mem_of_getElem? (i := 666) (by decide +kernel)), rfl⟩
abbrev km_leafFor : ByteArray := prog_3_method_24_code
def ym_leafFor : MethodName := ⟨"LeafBookModel", "leafFor", "(I)I"⟩
theorem mcm_leafFor : Cond.code ym_leafFor km_leafFor 4 (some .int) ∈ lw_g := List.mem_filter.mpr ⟨List.mem_append_right _ (List.mem_of_getElem? (i := 642) (by decide +kernel)), rfl⟩
abbrev km_load : ByteArray := prog_3_method_25_code
def ym_load : MethodName := ⟨"LeafBookModel", "load", "(I)V"⟩
theorem mcm_load : Cond.code ym_load km_load 3 (none) ∈ lw_g := List.mem_filter.mpr ⟨List.mem_append_right _ (List.mem_of_getElem? (i := 646) (by decide +kernel)), rfl⟩
abbrev km_enter : ByteArray := prog_3_method_26_code
def ym_enter : MethodName := ⟨"LeafBookModel", "enter", "(IJ)V"⟩
theorem mcm_enter : Cond.code ym_enter km_enter 6 (none) ∈ lw_g := List.mem_filter.mpr ⟨List.mem_append_right _ (List.mem_of_getElem? (i := 650) (by decide +kernel)), rfl⟩
abbrev km_remove : ByteArray := prog_3_method_27_code
def ym_remove : MethodName := ⟨"LeafBookModel", "remove", "(I)V"⟩
theorem mcm_remove : Cond.code ym_remove km_remove 4 (none) ∈ lw_g := List.mem_filter.mpr ⟨List.mem_append_right _ (List.mem_of_getElem? (i := 678) (by decide +kernel)), rfl⟩
abbrev km_nextFree : ByteArray := prog_3_method_28_code
def ym_nextFree : MethodName := ⟨"LeafBookModel", "nextFree", "()I"⟩
theorem mcm_nextFree : Cond.code ym_nextFree km_nextFree 3 (some .int) ∈ lw_g := List.mem_filter.mpr ⟨List.mem_append_right _ (List.mem_of_getElem? (i := 658) (by decide +kernel)), rfl⟩
abbrev km_act : ByteArray := prog_3_method_29_code
def ym_act : MethodName := ⟨"LeafBookModel", "act", "(II)Z"⟩
theorem mcm_act : Cond.code ym_act km_act 11 (some .boolean) ∈ lw_g := List.mem_filter.mpr ⟨List.mem_append_right _ (List.mem_of_getElem? (i := 654) (by decide +kernel)), rfl⟩
abbrev km_writeLeaf : ByteArray := prog_3_method_30_code
def ym_writeLeaf : MethodName := ⟨"LeafBookModel", "writeLeaf", "(III)V"⟩
theorem mcm_writeLeaf : Cond.code ym_writeLeaf km_writeLeaf 6 (none) ∈ lw_g := List.mem_filter.mpr ⟨List.mem_append_right _ (List.mem_of_getElem? (i := 662) (by decide +kernel)), rfl⟩
abbrev km_writeRoot : ByteArray := prog_3_method_31_code
def ym_writeRoot : MethodName := ⟨"LeafBookModel", "writeRoot", "(IJ)V"⟩
theorem mcm_writeRoot : Cond.code ym_writeRoot km_writeRoot 6 (none) ∈ lw_g := List.mem_filter.mpr ⟨List.mem_append_right _ (List.mem_of_getElem? (i := 670) (by decide +kernel)), rfl⟩
abbrev km_may : ByteArray := prog_3_method_32_code
def ym_may : MethodName := ⟨"LeafBookModel", "may", "(I)I"⟩
theorem mcm_may : Cond.code ym_may km_may 2 (some .int) ∈ lw_g := List.mem_filter.mpr ⟨List.mem_append_right _ (List.mem_of_getElem? (i := 637) (by decide +kernel)), rfl⟩
abbrev km_put : ByteArray := prog_3_method_33_code
def ym_put : MethodName := ⟨"LeafBookModel", "put", "(IJ)I"⟩
theorem mcm_put : Cond.code ym_put km_put 6 (some .int) ∈ lw_g := List.mem_filter.mpr ⟨List.mem_append_right _ (List.mem_of_getElem? (i := 633) (by decide +kernel)), rfl⟩
abbrev km_drop : ByteArray := prog_3_method_34_code
def ym_drop : MethodName := ⟨"LeafBookModel", "drop", "(I)I"⟩
theorem mcm_drop : Cond.code ym_drop km_drop 3 (some .int) ∈ lw_g := List.mem_filter.mpr ⟨List.mem_append_right _ (List.mem_of_getElem? (i := 674) (by decide +kernel)), rfl⟩
abbrev km_crash : ByteArray := prog_3_method_35_code
def ym_crash : MethodName := ⟨"LeafBookModel", "crash", "(I)I"⟩
theorem mcm_crash : Cond.code ym_crash km_crash 4 (some .int) ∈ lw_g := List.mem_filter.mpr ⟨List.mem_append_right _ (List.mem_of_getElem? (i := 682) (by decide +kernel)), rfl⟩
abbrev km_reopen : ByteArray := prog_3_method_36_code
def ym_reopen : MethodName := ⟨"LeafBookModel", "reopen", "()I"⟩
theorem mcm_reopen : Cond.code ym_reopen km_reopen 4 (some .int) ∈ lw_g := List.mem_filter.mpr ⟨List.mem_append_right _ (List.mem_of_getElem? (i := 686) (by decide +kernel)), rfl⟩
abbrev km_noWord : ByteArray := prog_3_method_37_code
def ym_noWord : MethodName := ⟨"LeafBookModel", "noWord", "(II)Z"⟩
theorem mcm_noWord : Cond.code ym_noWord km_noWord 3 (some .boolean) ∈ lw_g := List.mem_filter.mpr ⟨List.mem_append_right _ (List.mem_of_getElem? (i := 696) (by decide +kernel)), rfl⟩
abbrev km_noRoot : ByteArray := prog_3_method_38_code
def ym_noRoot : MethodName := ⟨"LeafBookModel", "noRoot", "(II)Z"⟩
theorem mcm_noRoot : Cond.code ym_noRoot km_noRoot 2 (some .boolean) ∈ lw_g := List.mem_filter.mpr ⟨List.mem_append_right _ (List.mem_of_getElem? (i := 703) (by decide +kernel)), rfl⟩
abbrev km_wordAt : ByteArray := prog_3_method_39_code
def ym_wordAt : MethodName := ⟨"LeafBookModel", "wordAt", "(II)J"⟩
theorem mcm_wordAt : Cond.code ym_wordAt km_wordAt 3 (some .long) ∈ lw_g := List.mem_filter.mpr ⟨List.mem_append_right _ (List.mem_of_getElem? (i := 692) (by decide +kernel)), rfl⟩
abbrev km_rootAt : ByteArray := prog_3_method_40_code
def ym_rootAt : MethodName := ⟨"LeafBookModel", "rootAt", "(II)J"⟩
theorem mcm_rootAt : Cond.code ym_rootAt km_rootAt 3 (some .long) ∈ lw_g := List.mem_filter.mpr ⟨List.mem_append_right _ (List.mem_of_getElem? (i := 700) (by decide +kernel)), rfl⟩
abbrev km_poke : ByteArray := prog_3_method_41_code
def ym_poke : MethodName := ⟨"LeafBookModel", "poke", "(IIJ)V"⟩
theorem mcm_poke : Cond.code ym_poke km_poke 5 (none) ∈ lw_g := List.mem_filter.mpr ⟨List.mem_append_right _ (List.mem_of_getElem? (i := 707) (by decide +kernel)), rfl⟩
abbrev km_pokeRoot : ByteArray := prog_3_method_42_code
def ym_pokeRoot : MethodName := ⟨"LeafBookModel", "pokeRoot", "(IIJ)V"⟩
theorem mcm_pokeRoot : Cond.code ym_pokeRoot km_pokeRoot 5 (none) ∈ lw_g := List.mem_filter.mpr ⟨List.mem_append_right _ (List.mem_of_getElem? (i := 711) (by decide +kernel)), rfl⟩
abbrev km_badAt : ByteArray := prog_3_method_43_code
def ym_badAt : MethodName := ⟨"LeafBookModel", "badAt", "()I"⟩
theorem mcm_badAt : Cond.code ym_badAt km_badAt 5 (some .int) ∈ lw_g := List.mem_filter.mpr ⟨List.mem_append_right _ (List.mem_of_getElem? (i := 715) (by decide +kernel)), rfl⟩
theorem dm_thrown_0 : decode km_thrown 0 = .ok (.aload_n 0, 1) := by decide +kernel
theorem dm_thrown_1 : decode km_thrown 1 = .ok (.getfield 44, 3) := by decide +kernel
theorem dm_thrown_4 : decode km_thrown 4 = .ok (.ireturn, 1) := by decide +kernel
theorem dm_sum_0 : decode km_sum 0 = .ok (.lconst 0, 1) := by decide +kernel
theorem dm_sum_1 : decode km_sum 1 = .ok (.lstore_n 3, 1) := by decide +kernel
theorem dm_sum_2 : decode km_sum 2 = .ok (.iconst 0, 1) := by decide +kernel
theorem dm_sum_3 : decode km_sum 3 = .ok (.istore 5, 2) := by decide +kernel
theorem dm_sum_5 : decode km_sum 5 = .ok (.iload 5, 2) := by decide +kernel
theorem dm_sum_7 : decode km_sum 7 = .ok (.iload_n 2, 1) := by decide +kernel
theorem dm_sum_8 : decode km_sum 8 = .ok (.if_icmp .ge 37, 3) := by decide +kernel
theorem dm_sum_11 : decode km_sum 11 = .ok (.lload_n 3, 1) := by decide +kernel
theorem dm_sum_12 : decode km_sum 12 = .ok (.aload_n 0, 1) := by decide +kernel
theorem dm_sum_13 : decode km_sum 13 = .ok (.getfield 7, 3) := by decide +kernel
theorem dm_sum_16 : decode km_sum 16 = .ok (.iload_n 1, 1) := by decide +kernel
theorem dm_sum_17 : decode km_sum 17 = .ok (.iload 5, 2) := by decide +kernel
theorem dm_sum_19 : decode km_sum 19 = .ok (.iadd, 1) := by decide +kernel
theorem dm_sum_20 : decode km_sum 20 = .ok (.laload, 1) := by decide +kernel
theorem dm_sum_21 : decode km_sum 21 = .ok (.lxor, 1) := by decide +kernel
theorem dm_sum_22 : decode km_sum 22 = .ok (.lstore 6, 2) := by decide +kernel
theorem dm_sum_24 : decode km_sum 24 = .ok (.lload 6, 2) := by decide +kernel
theorem dm_sum_26 : decode km_sum 26 = .ok (.iconst 5, 1) := by decide +kernel
theorem dm_sum_27 : decode km_sum 27 = .ok (.lshl, 1) := by decide +kernel
theorem dm_sum_28 : decode km_sum 28 = .ok (.lload 6, 2) := by decide +kernel
theorem dm_sum_30 : decode km_sum 30 = .ok (.bipush 59, 2) := by decide +kernel
theorem dm_sum_32 : decode km_sum 32 = .ok (.lushr, 1) := by decide +kernel
theorem dm_sum_33 : decode km_sum 33 = .ok (.lor, 1) := by decide +kernel
theorem dm_sum_34 : decode km_sum 34 = .ok (.ldc2_w 47, 3) := by decide +kernel
theorem dm_sum_37 : decode km_sum 37 = .ok (.lmul, 1) := by decide +kernel
theorem dm_sum_38 : decode km_sum 38 = .ok (.lstore_n 3, 1) := by decide +kernel
theorem dm_sum_39 : decode km_sum 39 = .ok (.iinc 5 1, 3) := by decide +kernel
theorem dm_sum_42 : decode km_sum 42 = .ok (.goto (-37), 3) := by decide +kernel
theorem dm_sum_45 : decode km_sum 45 = .ok (.lload_n 3, 1) := by decide +kernel
theorem dm_sum_46 : decode km_sum 46 = .ok (.lconst 1, 1) := by decide +kernel
theorem dm_sum_47 : decode km_sum 47 = .ok (.lxor, 1) := by decide +kernel
theorem dm_sum_48 : decode km_sum 48 = .ok (.lreturn, 1) := by decide +kernel
theorem dm_isIn_0 : decode km_isIn 0 = .ok (.lload_n 0, 1) := by decide +kernel
theorem dm_isIn_1 : decode km_isIn 1 = .ok (.lload_n 2, 1) := by decide +kernel
theorem dm_isIn_2 : decode km_isIn 2 = .ok (.lcmp, 1) := by decide +kernel
theorem dm_isIn_3 : decode km_isIn 3 = .ok (.ifCond .lt 14, 3) := by decide +kernel
theorem dm_isIn_6 : decode km_isIn 6 = .ok (.lload_n 0, 1) := by decide +kernel
theorem dm_isIn_7 : decode km_isIn 7 = .ok (.lload 4, 2) := by decide +kernel
theorem dm_isIn_9 : decode km_isIn 9 = .ok (.lcmp, 1) := by decide +kernel
theorem dm_isIn_10 : decode km_isIn 10 = .ok (.ifCond .gt 7, 3) := by decide +kernel
theorem dm_isIn_13 : decode km_isIn 13 = .ok (.iconst 1, 1) := by decide +kernel
theorem dm_isIn_14 : decode km_isIn 14 = .ok (.goto 4, 3) := by decide +kernel
theorem dm_isIn_17 : decode km_isIn 17 = .ok (.iconst 0, 1) := by decide +kernel
theorem dm_isIn_18 : decode km_isIn 18 = .ok (.ireturn, 1) := by decide +kernel
theorem dm_isRight_0 : decode km_isRight 0 = .ok (.bipush 16, 2) := by decide +kernel
theorem dm_isRight_2 : decode km_isRight 2 = .ok (.iload_n 1, 1) := by decide +kernel
theorem dm_isRight_3 : decode km_isRight 3 = .ok (.imul, 1) := by decide +kernel
theorem dm_isRight_4 : decode km_isRight 4 = .ok (.istore_n 2, 1) := by decide +kernel
theorem dm_isRight_5 : decode km_isRight 5 = .ok (.aload_n 0, 1) := by decide +kernel
theorem dm_isRight_6 : decode km_isRight 6 = .ok (.getfield 7, 3) := by decide +kernel
theorem dm_isRight_9 : decode km_isRight 9 = .ok (.iload_n 2, 1) := by decide +kernel
theorem dm_isRight_10 : decode km_isRight 10 = .ok (.bipush 15, 2) := by decide +kernel
theorem dm_isRight_12 : decode km_isRight 12 = .ok (.iadd, 1) := by decide +kernel
theorem dm_isRight_13 : decode km_isRight 13 = .ok (.laload, 1) := by decide +kernel
theorem dm_isRight_14 : decode km_isRight 14 = .ok (.aload_n 0, 1) := by decide +kernel
theorem dm_isRight_15 : decode km_isRight 15 = .ok (.iload_n 2, 1) := by decide +kernel
theorem dm_isRight_16 : decode km_isRight 16 = .ok (.bipush 15, 2) := by decide +kernel
theorem dm_isRight_18 : decode km_isRight 18 = .ok (.invokevirtual 37, 3) := by decide +kernel
theorem dm_isRight_21 : decode km_isRight 21 = .ok (.lcmp, 1) := by decide +kernel
theorem dm_isRight_22 : decode km_isRight 22 = .ok (.ifCond .ne 23, 3) := by decide +kernel
theorem dm_isRight_25 : decode km_isRight 25 = .ok (.aload_n 0, 1) := by decide +kernel
theorem dm_isRight_26 : decode km_isRight 26 = .ok (.getfield 7, 3) := by decide +kernel
theorem dm_isRight_29 : decode km_isRight 29 = .ok (.iload_n 2, 1) := by decide +kernel
theorem dm_isRight_30 : decode km_isRight 30 = .ok (.laload, 1) := by decide +kernel
theorem dm_isRight_31 : decode km_isRight 31 = .ok (.lconst 0, 1) := by decide +kernel
theorem dm_isRight_32 : decode km_isRight 32 = .ok (.ldc2_w 49, 3) := by decide +kernel
theorem dm_isRight_35 : decode km_isRight 35 = .ok (.invokestatic 51, 3) := by decide +kernel
theorem dm_isRight_38 : decode km_isRight 38 = .ok (.ifCond .eq 7, 3) := by decide +kernel
theorem dm_isRight_41 : decode km_isRight 41 = .ok (.iconst 1, 1) := by decide +kernel
theorem dm_isRight_42 : decode km_isRight 42 = .ok (.goto 4, 3) := by decide +kernel
theorem dm_isRight_45 : decode km_isRight 45 = .ok (.iconst 0, 1) := by decide +kernel
theorem dm_isRight_46 : decode km_isRight 46 = .ok (.istore_n 3, 1) := by decide +kernel
theorem dm_isRight_47 : decode km_isRight 47 = .ok (.ldc2_w 55, 3) := by decide +kernel
theorem dm_isRight_50 : decode km_isRight 50 = .ok (.lstore 4, 2) := by decide +kernel
theorem dm_isRight_52 : decode km_isRight 52 = .ok (.iconst 0, 1) := by decide +kernel
theorem dm_isRight_53 : decode km_isRight 53 = .ok (.istore 6, 2) := by decide +kernel
theorem dm_isRight_55 : decode km_isRight 55 = .ok (.iload_n 3, 1) := by decide +kernel
theorem dm_isRight_56 : decode km_isRight 56 = .ok (.ifCond .eq 64, 3) := by decide +kernel
theorem dm_isRight_59 : decode km_isRight 59 = .ok (.iload 6, 2) := by decide +kernel
theorem dm_isRight_61 : decode km_isRight 61 = .ok (.i2l, 1) := by decide +kernel
theorem dm_isRight_62 : decode km_isRight 62 = .ok (.aload_n 0, 1) := by decide +kernel
theorem dm_isRight_63 : decode km_isRight 63 = .ok (.getfield 7, 3) := by decide +kernel
theorem dm_isRight_66 : decode km_isRight 66 = .ok (.iload_n 2, 1) := by decide +kernel
theorem dm_isRight_67 : decode km_isRight 67 = .ok (.laload, 1) := by decide +kernel
theorem dm_isRight_68 : decode km_isRight 68 = .ok (.lcmp, 1) := by decide +kernel
theorem dm_isRight_69 : decode km_isRight 69 = .ok (.ifCond .ge 51, 3) := by decide +kernel
theorem dm_isRight_72 : decode km_isRight 72 = .ok (.aload_n 0, 1) := by decide +kernel
theorem dm_isRight_73 : decode km_isRight 73 = .ok (.getfield 7, 3) := by decide +kernel
theorem dm_isRight_76 : decode km_isRight 76 = .ok (.iload_n 2, 1) := by decide +kernel
theorem dm_isRight_77 : decode km_isRight 77 = .ok (.iconst 1, 1) := by decide +kernel
theorem dm_isRight_78 : decode km_isRight 78 = .ok (.iadd, 1) := by decide +kernel
theorem dm_isRight_79 : decode km_isRight 79 = .ok (.iconst 2, 1) := by decide +kernel
theorem dm_isRight_80 : decode km_isRight 80 = .ok (.iload 6, 2) := by decide +kernel
theorem dm_isRight_82 : decode km_isRight 82 = .ok (.imul, 1) := by decide +kernel
theorem dm_isRight_83 : decode km_isRight 83 = .ok (.iadd, 1) := by decide +kernel
theorem dm_isRight_84 : decode km_isRight 84 = .ok (.laload, 1) := by decide +kernel
theorem dm_isRight_85 : decode km_isRight 85 = .ok (.lstore 7, 2) := by decide +kernel
theorem dm_isRight_87 : decode km_isRight 87 = .ok (.lload 7, 2) := by decide +kernel
theorem dm_isRight_89 : decode km_isRight 89 = .ok (.lload 4, 2) := by decide +kernel
theorem dm_isRight_91 : decode km_isRight 91 = .ok (.lcmp, 1) := by decide +kernel
theorem dm_isRight_92 : decode km_isRight 92 = .ok (.ifCond .le 16, 3) := by decide +kernel
theorem dm_isRight_95 : decode km_isRight 95 = .ok (.lload 7, 2) := by decide +kernel
theorem dm_isRight_97 : decode km_isRight 97 = .ok (.ldc2_w 57, 3) := by decide +kernel
theorem dm_isRight_100 : decode km_isRight 100 = .ok (.lcmp, 1) := by decide +kernel
theorem dm_isRight_101 : decode km_isRight 101 = .ok (.ifCond .gt 7, 3) := by decide +kernel
theorem dm_isRight_104 : decode km_isRight 104 = .ok (.iconst 1, 1) := by decide +kernel
theorem dm_isRight_105 : decode km_isRight 105 = .ok (.goto 4, 3) := by decide +kernel
theorem dm_isRight_108 : decode km_isRight 108 = .ok (.iconst 0, 1) := by decide +kernel
theorem dm_isRight_109 : decode km_isRight 109 = .ok (.istore_n 3, 1) := by decide +kernel
theorem dm_isRight_110 : decode km_isRight 110 = .ok (.lload 7, 2) := by decide +kernel
theorem dm_isRight_112 : decode km_isRight 112 = .ok (.lstore 4, 2) := by decide +kernel
theorem dm_isRight_114 : decode km_isRight 114 = .ok (.iinc 6 1, 3) := by decide +kernel
theorem dm_isRight_117 : decode km_isRight 117 = .ok (.goto (-62), 3) := by decide +kernel
theorem dm_isRight_120 : decode km_isRight 120 = .ok (.iload_n 3, 1) := by decide +kernel
theorem dm_isRight_121 : decode km_isRight 121 = .ok (.ireturn, 1) := by decide +kernel
theorem dm_isSound_0 : decode km_isSound 0 = .ok (.sipush 1024, 3) := by decide +kernel
theorem dm_isSound_3 : decode km_isSound 3 = .ok (.bipush 20, 2) := by decide +kernel
theorem dm_isSound_5 : decode km_isSound 5 = .ok (.iload_n 1, 1) := by decide +kernel
theorem dm_isSound_6 : decode km_isSound 6 = .ok (.imul, 1) := by decide +kernel
theorem dm_isSound_7 : decode km_isSound 7 = .ok (.iadd, 1) := by decide +kernel
theorem dm_isSound_8 : decode km_isSound 8 = .ok (.istore_n 2, 1) := by decide +kernel
theorem dm_isSound_9 : decode km_isSound 9 = .ok (.aload_n 0, 1) := by decide +kernel
theorem dm_isSound_10 : decode km_isSound 10 = .ok (.getfield 7, 3) := by decide +kernel
theorem dm_isSound_13 : decode km_isSound 13 = .ok (.iload_n 2, 1) := by decide +kernel
theorem dm_isSound_14 : decode km_isSound 14 = .ok (.iconst 1, 1) := by decide +kernel
theorem dm_isSound_15 : decode km_isSound 15 = .ok (.iadd, 1) := by decide +kernel
theorem dm_isSound_16 : decode km_isSound 16 = .ok (.laload, 1) := by decide +kernel
theorem dm_isSound_17 : decode km_isSound 17 = .ok (.lconst 0, 1) := by decide +kernel
theorem dm_isSound_18 : decode km_isSound 18 = .ok (.ldc2_w 59, 3) := by decide +kernel
theorem dm_isSound_21 : decode km_isSound 21 = .ok (.invokestatic 51, 3) := by decide +kernel
theorem dm_isSound_24 : decode km_isSound 24 = .ok (.istore_n 3, 1) := by decide +kernel
theorem dm_isSound_25 : decode km_isSound 25 = .ok (.iconst 0, 1) := by decide +kernel
theorem dm_isSound_26 : decode km_isSound 26 = .ok (.istore 4, 2) := by decide +kernel
theorem dm_isSound_28 : decode km_isSound 28 = .ok (.iload_n 3, 1) := by decide +kernel
theorem dm_isSound_29 : decode km_isSound 29 = .ok (.ifCond .eq 47, 3) := by decide +kernel
theorem dm_isSound_32 : decode km_isSound 32 = .ok (.iload 4, 2) := by decide +kernel
theorem dm_isSound_34 : decode km_isSound 34 = .ok (.i2l, 1) := by decide +kernel
theorem dm_isSound_35 : decode km_isSound 35 = .ok (.aload_n 0, 1) := by decide +kernel
theorem dm_isSound_36 : decode km_isSound 36 = .ok (.getfield 7, 3) := by decide +kernel
theorem dm_isSound_39 : decode km_isSound 39 = .ok (.iload_n 2, 1) := by decide +kernel
theorem dm_isSound_40 : decode km_isSound 40 = .ok (.iconst 1, 1) := by decide +kernel
theorem dm_isSound_41 : decode km_isSound 41 = .ok (.iadd, 1) := by decide +kernel
theorem dm_isSound_42 : decode km_isSound 42 = .ok (.laload, 1) := by decide +kernel
theorem dm_isSound_43 : decode km_isSound 43 = .ok (.lcmp, 1) := by decide +kernel
theorem dm_isSound_44 : decode km_isSound 44 = .ok (.ifCond .ge 32, 3) := by decide +kernel
theorem dm_isSound_47 : decode km_isSound 47 = .ok (.aload_n 0, 1) := by decide +kernel
theorem dm_isSound_48 : decode km_isSound 48 = .ok (.getfield 7, 3) := by decide +kernel
theorem dm_isSound_51 : decode km_isSound 51 = .ok (.iload_n 2, 1) := by decide +kernel
theorem dm_isSound_52 : decode km_isSound 52 = .ok (.iconst 2, 1) := by decide +kernel
theorem dm_isSound_53 : decode km_isSound 53 = .ok (.iadd, 1) := by decide +kernel
theorem dm_isSound_54 : decode km_isSound 54 = .ok (.iload 4, 2) := by decide +kernel
theorem dm_isSound_56 : decode km_isSound 56 = .ok (.iadd, 1) := by decide +kernel
theorem dm_isSound_57 : decode km_isSound 57 = .ok (.laload, 1) := by decide +kernel
theorem dm_isSound_58 : decode km_isSound 58 = .ok (.lconst 0, 1) := by decide +kernel
theorem dm_isSound_59 : decode km_isSound 59 = .ok (.aload_n 0, 1) := by decide +kernel
theorem dm_isSound_60 : decode km_isSound 60 = .ok (.getfield 33, 3) := by decide +kernel
theorem dm_isSound_63 : decode km_isSound 63 = .ok (.i2l, 1) := by decide +kernel
theorem dm_isSound_64 : decode km_isSound 64 = .ok (.lconst 1, 1) := by decide +kernel
theorem dm_isSound_65 : decode km_isSound 65 = .ok (.lsub, 1) := by decide +kernel
theorem dm_isSound_66 : decode km_isSound 66 = .ok (.invokestatic 51, 3) := by decide +kernel
theorem dm_isSound_69 : decode km_isSound 69 = .ok (.istore_n 3, 1) := by decide +kernel
theorem dm_isSound_70 : decode km_isSound 70 = .ok (.iinc 4 1, 3) := by decide +kernel
theorem dm_isSound_73 : decode km_isSound 73 = .ok (.goto (-45), 3) := by decide +kernel
theorem dm_isSound_76 : decode km_isSound 76 = .ok (.iload_n 3, 1) := by decide +kernel
theorem dm_isSound_77 : decode km_isSound 77 = .ok (.ireturn, 1) := by decide +kernel
theorem dm_isRightRoot_0 : decode km_isRightRoot 0 = .ok (.sipush 1024, 3) := by decide +kernel
theorem dm_isRightRoot_3 : decode km_isRightRoot 3 = .ok (.bipush 20, 2) := by decide +kernel
theorem dm_isRightRoot_5 : decode km_isRightRoot 5 = .ok (.iload_n 1, 1) := by decide +kernel
theorem dm_isRightRoot_6 : decode km_isRightRoot 6 = .ok (.imul, 1) := by decide +kernel
theorem dm_isRightRoot_7 : decode km_isRightRoot 7 = .ok (.iadd, 1) := by decide +kernel
theorem dm_isRightRoot_8 : decode km_isRightRoot 8 = .ok (.istore_n 2, 1) := by decide +kernel
theorem dm_isRightRoot_9 : decode km_isRightRoot 9 = .ok (.aload_n 0, 1) := by decide +kernel
theorem dm_isRightRoot_10 : decode km_isRightRoot 10 = .ok (.getfield 7, 3) := by decide +kernel
theorem dm_isRightRoot_13 : decode km_isRightRoot 13 = .ok (.iload_n 2, 1) := by decide +kernel
theorem dm_isRightRoot_14 : decode km_isRightRoot 14 = .ok (.bipush 19, 2) := by decide +kernel
theorem dm_isRightRoot_16 : decode km_isRightRoot 16 = .ok (.iadd, 1) := by decide +kernel
theorem dm_isRightRoot_17 : decode km_isRightRoot 17 = .ok (.laload, 1) := by decide +kernel
theorem dm_isRightRoot_18 : decode km_isRightRoot 18 = .ok (.aload_n 0, 1) := by decide +kernel
theorem dm_isRightRoot_19 : decode km_isRightRoot 19 = .ok (.iload_n 2, 1) := by decide +kernel
theorem dm_isRightRoot_20 : decode km_isRightRoot 20 = .ok (.bipush 19, 2) := by decide +kernel
theorem dm_isRightRoot_22 : decode km_isRightRoot 22 = .ok (.invokevirtual 37, 3) := by decide +kernel
theorem dm_isRightRoot_25 : decode km_isRightRoot 25 = .ok (.lcmp, 1) := by decide +kernel
theorem dm_isRightRoot_26 : decode km_isRightRoot 26 = .ok (.ifCond .ne 15, 3) := by decide +kernel
theorem dm_isRightRoot_29 : decode km_isRightRoot 29 = .ok (.aload_n 0, 1) := by decide +kernel
theorem dm_isRightRoot_30 : decode km_isRightRoot 30 = .ok (.iload_n 1, 1) := by decide +kernel
theorem dm_isRightRoot_31 : decode km_isRightRoot 31 = .ok (.invokevirtual 61, 3) := by decide +kernel
theorem dm_isRightRoot_34 : decode km_isRightRoot 34 = .ok (.ifCond .eq 7, 3) := by decide +kernel
theorem dm_isRightRoot_37 : decode km_isRightRoot 37 = .ok (.iconst 1, 1) := by decide +kernel
theorem dm_isRightRoot_38 : decode km_isRightRoot 38 = .ok (.goto 4, 3) := by decide +kernel
theorem dm_isRightRoot_41 : decode km_isRightRoot 41 = .ok (.iconst 0, 1) := by decide +kernel
theorem dm_isRightRoot_42 : decode km_isRightRoot 42 = .ok (.istore_n 3, 1) := by decide +kernel
theorem dm_isRightRoot_43 : decode km_isRightRoot 43 = .ok (.ldc2_w 55, 3) := by decide +kernel
theorem dm_isRightRoot_46 : decode km_isRightRoot 46 = .ok (.lstore 4, 2) := by decide +kernel
theorem dm_isRightRoot_48 : decode km_isRightRoot 48 = .ok (.lconst 0, 1) := by decide +kernel
theorem dm_isRightRoot_49 : decode km_isRightRoot 49 = .ok (.lstore 6, 2) := by decide +kernel
theorem dm_isRightRoot_51 : decode km_isRightRoot 51 = .ok (.iconst 0, 1) := by decide +kernel
theorem dm_isRightRoot_52 : decode km_isRightRoot 52 = .ok (.istore 8, 2) := by decide +kernel
theorem dm_isRightRoot_54 : decode km_isRightRoot 54 = .ok (.iload_n 3, 1) := by decide +kernel
theorem dm_isRightRoot_55 : decode km_isRightRoot 55 = .ok (.ifCond .eq 139, 3) := by decide +kernel
theorem dm_isRightRoot_58 : decode km_isRightRoot 58 = .ok (.iload 8, 2) := by decide +kernel
theorem dm_isRightRoot_60 : decode km_isRightRoot 60 = .ok (.i2l, 1) := by decide +kernel
theorem dm_isRightRoot_61 : decode km_isRightRoot 61 = .ok (.aload_n 0, 1) := by decide +kernel
theorem dm_isRightRoot_62 : decode km_isRightRoot 62 = .ok (.getfield 7, 3) := by decide +kernel
theorem dm_isRightRoot_65 : decode km_isRightRoot 65 = .ok (.iload_n 2, 1) := by decide +kernel
theorem dm_isRightRoot_66 : decode km_isRightRoot 66 = .ok (.iconst 1, 1) := by decide +kernel
theorem dm_isRightRoot_67 : decode km_isRightRoot 67 = .ok (.iadd, 1) := by decide +kernel
theorem dm_isRightRoot_68 : decode km_isRightRoot 68 = .ok (.laload, 1) := by decide +kernel
theorem dm_isRightRoot_69 : decode km_isRightRoot 69 = .ok (.lcmp, 1) := by decide +kernel
theorem dm_isRightRoot_70 : decode km_isRightRoot 70 = .ok (.ifCond .ge 124, 3) := by decide +kernel
theorem dm_isRightRoot_73 : decode km_isRightRoot 73 = .ok (.aload_n 0, 1) := by decide +kernel
theorem dm_isRightRoot_74 : decode km_isRightRoot 74 = .ok (.getfield 7, 3) := by decide +kernel
theorem dm_isRightRoot_77 : decode km_isRightRoot 77 = .ok (.iload_n 2, 1) := by decide +kernel
theorem dm_isRightRoot_78 : decode km_isRightRoot 78 = .ok (.iconst 2, 1) := by decide +kernel
theorem dm_isRightRoot_79 : decode km_isRightRoot 79 = .ok (.iadd, 1) := by decide +kernel
theorem dm_isRightRoot_80 : decode km_isRightRoot 80 = .ok (.iload 8, 2) := by decide +kernel
theorem dm_isRightRoot_82 : decode km_isRightRoot 82 = .ok (.iadd, 1) := by decide +kernel
theorem dm_isRightRoot_83 : decode km_isRightRoot 83 = .ok (.laload, 1) := by decide +kernel
theorem dm_isRightRoot_84 : decode km_isRightRoot 84 = .ok (.l2i, 1) := by decide +kernel
theorem dm_isRightRoot_85 : decode km_isRightRoot 85 = .ok (.istore 9, 2) := by decide +kernel
theorem dm_isRightRoot_87 : decode km_isRightRoot 87 = .ok (.bipush 16, 2) := by decide +kernel
theorem dm_isRightRoot_89 : decode km_isRightRoot 89 = .ok (.iload 9, 2) := by decide +kernel
theorem dm_isRightRoot_91 : decode km_isRightRoot 91 = .ok (.imul, 1) := by decide +kernel
theorem dm_isRightRoot_92 : decode km_isRightRoot 92 = .ok (.istore 10, 2) := by decide +kernel
theorem dm_isRightRoot_94 : decode km_isRightRoot 94 = .ok (.aload_n 0, 1) := by decide +kernel
theorem dm_isRightRoot_95 : decode km_isRightRoot 95 = .ok (.iload 9, 2) := by decide +kernel
theorem dm_isRightRoot_97 : decode km_isRightRoot 97 = .ok (.invokevirtual 65, 3) := by decide +kernel
theorem dm_isRightRoot_100 : decode km_isRightRoot 100 = .ok (.ifCond .eq 34, 3) := by decide +kernel
theorem dm_isRightRoot_103 : decode km_isRightRoot 103 = .ok (.aload_n 0, 1) := by decide +kernel
theorem dm_isRightRoot_104 : decode km_isRightRoot 104 = .ok (.getfield 7, 3) := by decide +kernel
theorem dm_isRightRoot_107 : decode km_isRightRoot 107 = .ok (.iload 10, 2) := by decide +kernel
theorem dm_isRightRoot_109 : decode km_isRightRoot 109 = .ok (.laload, 1) := by decide +kernel
theorem dm_isRightRoot_110 : decode km_isRightRoot 110 = .ok (.lconst 0, 1) := by decide +kernel
theorem dm_isRightRoot_111 : decode km_isRightRoot 111 = .ok (.lcmp, 1) := by decide +kernel
theorem dm_isRightRoot_112 : decode km_isRightRoot 112 = .ok (.ifCond .le 22, 3) := by decide +kernel
theorem dm_isRightRoot_115 : decode km_isRightRoot 115 = .ok (.aload_n 0, 1) := by decide +kernel
theorem dm_isRightRoot_116 : decode km_isRightRoot 116 = .ok (.getfield 7, 3) := by decide +kernel
theorem dm_isRightRoot_119 : decode km_isRightRoot 119 = .ok (.iload 10, 2) := by decide +kernel
theorem dm_isRightRoot_121 : decode km_isRightRoot 121 = .ok (.iconst 1, 1) := by decide +kernel
theorem dm_isRightRoot_122 : decode km_isRightRoot 122 = .ok (.iadd, 1) := by decide +kernel
theorem dm_isRightRoot_123 : decode km_isRightRoot 123 = .ok (.laload, 1) := by decide +kernel
theorem dm_isRightRoot_124 : decode km_isRightRoot 124 = .ok (.lload 4, 2) := by decide +kernel
theorem dm_isRightRoot_126 : decode km_isRightRoot 126 = .ok (.lcmp, 1) := by decide +kernel
theorem dm_isRightRoot_127 : decode km_isRightRoot 127 = .ok (.ifCond .le 7, 3) := by decide +kernel
theorem dm_isRightRoot_130 : decode km_isRightRoot 130 = .ok (.iconst 1, 1) := by decide +kernel
theorem dm_isRightRoot_131 : decode km_isRightRoot 131 = .ok (.goto 4, 3) := by decide +kernel
theorem dm_isRightRoot_134 : decode km_isRightRoot 134 = .ok (.iconst 0, 1) := by decide +kernel
theorem dm_isRightRoot_135 : decode km_isRightRoot 135 = .ok (.istore_n 3, 1) := by decide +kernel
theorem dm_isRightRoot_136 : decode km_isRightRoot 136 = .ok (.iload_n 3, 1) := by decide +kernel
theorem dm_isRightRoot_137 : decode km_isRightRoot 137 = .ok (.ifCond .eq 16, 3) := by decide +kernel
theorem dm_isRightRoot_140 : decode km_isRightRoot 140 = .ok (.lload 6, 2) := by decide +kernel
theorem dm_isRightRoot_142 : decode km_isRightRoot 142 = .ok (.aload_n 0, 1) := by decide +kernel
theorem dm_isRightRoot_143 : decode km_isRightRoot 143 = .ok (.getfield 7, 3) := by decide +kernel
theorem dm_isRightRoot_146 : decode km_isRightRoot 146 = .ok (.iload 10, 2) := by decide +kernel
theorem dm_isRightRoot_148 : decode km_isRightRoot 148 = .ok (.laload, 1) := by decide +kernel
theorem dm_isRightRoot_149 : decode km_isRightRoot 149 = .ok (.ladd, 1) := by decide +kernel
theorem dm_isRightRoot_150 : decode km_isRightRoot 150 = .ok (.goto 5, 3) := by decide +kernel
theorem dm_isRightRoot_153 : decode km_isRightRoot 153 = .ok (.lload 6, 2) := by decide +kernel
theorem dm_isRightRoot_155 : decode km_isRightRoot 155 = .ok (.lstore 6, 2) := by decide +kernel
theorem dm_isRightRoot_157 : decode km_isRightRoot 157 = .ok (.iload_n 3, 1) := by decide +kernel
theorem dm_isRightRoot_158 : decode km_isRightRoot 158 = .ok (.ifCond .eq 26, 3) := by decide +kernel
theorem dm_isRightRoot_161 : decode km_isRightRoot 161 = .ok (.aload_n 0, 1) := by decide +kernel
theorem dm_isRightRoot_162 : decode km_isRightRoot 162 = .ok (.getfield 7, 3) := by decide +kernel
theorem dm_isRightRoot_165 : decode km_isRightRoot 165 = .ok (.iload 10, 2) := by decide +kernel
theorem dm_isRightRoot_167 : decode km_isRightRoot 167 = .ok (.iconst 2, 1) := by decide +kernel
theorem dm_isRightRoot_168 : decode km_isRightRoot 168 = .ok (.aload_n 0, 1) := by decide +kernel
theorem dm_isRightRoot_169 : decode km_isRightRoot 169 = .ok (.getfield 7, 3) := by decide +kernel
theorem dm_isRightRoot_172 : decode km_isRightRoot 172 = .ok (.iload 10, 2) := by decide +kernel
theorem dm_isRightRoot_174 : decode km_isRightRoot 174 = .ok (.laload, 1) := by decide +kernel
theorem dm_isRightRoot_175 : decode km_isRightRoot 175 = .ok (.l2i, 1) := by decide +kernel
theorem dm_isRightRoot_176 : decode km_isRightRoot 176 = .ok (.imul, 1) := by decide +kernel
theorem dm_isRightRoot_177 : decode km_isRightRoot 177 = .ok (.iadd, 1) := by decide +kernel
theorem dm_isRightRoot_178 : decode km_isRightRoot 178 = .ok (.iconst 1, 1) := by decide +kernel
theorem dm_isRightRoot_179 : decode km_isRightRoot 179 = .ok (.isub, 1) := by decide +kernel
theorem dm_isRightRoot_180 : decode km_isRightRoot 180 = .ok (.laload, 1) := by decide +kernel
theorem dm_isRightRoot_181 : decode km_isRightRoot 181 = .ok (.goto 5, 3) := by decide +kernel
theorem dm_isRightRoot_184 : decode km_isRightRoot 184 = .ok (.lload 4, 2) := by decide +kernel
theorem dm_isRightRoot_186 : decode km_isRightRoot 186 = .ok (.lstore 4, 2) := by decide +kernel
theorem dm_isRightRoot_188 : decode km_isRightRoot 188 = .ok (.iinc 8 1, 3) := by decide +kernel
theorem dm_isRightRoot_191 : decode km_isRightRoot 191 = .ok (.goto (-137), 3) := by decide +kernel
theorem dm_isRightRoot_194 : decode km_isRightRoot 194 = .ok (.iload_n 3, 1) := by decide +kernel
theorem dm_isRightRoot_195 : decode km_isRightRoot 195 = .ok (.ifCond .eq 22, 3) := by decide +kernel
theorem dm_isRightRoot_198 : decode km_isRightRoot 198 = .ok (.aload_n 0, 1) := by decide +kernel
theorem dm_isRightRoot_199 : decode km_isRightRoot 199 = .ok (.getfield 7, 3) := by decide +kernel
theorem dm_isRightRoot_202 : decode km_isRightRoot 202 = .ok (.iload_n 2, 1) := by decide +kernel
theorem dm_isRightRoot_203 : decode km_isRightRoot 203 = .ok (.bipush 18, 2) := by decide +kernel
theorem dm_isRightRoot_205 : decode km_isRightRoot 205 = .ok (.iadd, 1) := by decide +kernel
theorem dm_isRightRoot_206 : decode km_isRightRoot 206 = .ok (.laload, 1) := by decide +kernel
theorem dm_isRightRoot_207 : decode km_isRightRoot 207 = .ok (.lload 6, 2) := by decide +kernel
theorem dm_isRightRoot_209 : decode km_isRightRoot 209 = .ok (.lcmp, 1) := by decide +kernel
theorem dm_isRightRoot_210 : decode km_isRightRoot 210 = .ok (.ifCond .ne 7, 3) := by decide +kernel
theorem dm_isRightRoot_213 : decode km_isRightRoot 213 = .ok (.iconst 1, 1) := by decide +kernel
theorem dm_isRightRoot_214 : decode km_isRightRoot 214 = .ok (.goto 4, 3) := by decide +kernel
theorem dm_isRightRoot_217 : decode km_isRightRoot 217 = .ok (.iconst 0, 1) := by decide +kernel
theorem dm_isRightRoot_218 : decode km_isRightRoot 218 = .ok (.ireturn, 1) := by decide +kernel
theorem dm_isKept_0 : decode km_isKept 0 = .ok (.iload_n 1, 1) := by decide +kernel
theorem dm_isKept_1 : decode km_isKept 1 = .ok (.ifCond .lt 48, 3) := by decide +kernel
theorem dm_isKept_4 : decode km_isKept 4 = .ok (.iload_n 1, 1) := by decide +kernel
theorem dm_isKept_5 : decode km_isKept 5 = .ok (.aload_n 0, 1) := by decide +kernel
theorem dm_isKept_6 : decode km_isKept 6 = .ok (.getfield 68, 3) := by decide +kernel
theorem dm_isKept_9 : decode km_isKept 9 = .ok (.if_icmp .gt 40, 3) := by decide +kernel
theorem dm_isKept_12 : decode km_isKept 12 = .ok (.aload_n 0, 1) := by decide +kernel
theorem dm_isKept_13 : decode km_isKept 13 = .ok (.getfield 7, 3) := by decide +kernel
theorem dm_isKept_16 : decode km_isKept 16 = .ok (.sipush 1024, 3) := by decide +kernel
theorem dm_isKept_19 : decode km_isKept 19 = .ok (.bipush 20, 2) := by decide +kernel
theorem dm_isKept_21 : decode km_isKept 21 = .ok (.iload_n 1, 1) := by decide +kernel
theorem dm_isKept_22 : decode km_isKept 22 = .ok (.bipush 8, 2) := by decide +kernel
theorem dm_isKept_24 : decode km_isKept 24 = .ok (.irem, 1) := by decide +kernel
theorem dm_isKept_25 : decode km_isKept 25 = .ok (.imul, 1) := by decide +kernel
theorem dm_isKept_26 : decode km_isKept 26 = .ok (.iadd, 1) := by decide +kernel
theorem dm_isKept_27 : decode km_isKept 27 = .ok (.laload, 1) := by decide +kernel
theorem dm_isKept_28 : decode km_isKept 28 = .ok (.iload_n 1, 1) := by decide +kernel
theorem dm_isKept_29 : decode km_isKept 29 = .ok (.i2l, 1) := by decide +kernel
theorem dm_isKept_30 : decode km_isKept 30 = .ok (.lcmp, 1) := by decide +kernel
theorem dm_isKept_31 : decode km_isKept 31 = .ok (.ifCond .ne 18, 3) := by decide +kernel
theorem dm_isKept_34 : decode km_isKept 34 = .ok (.aload_n 0, 1) := by decide +kernel
theorem dm_isKept_35 : decode km_isKept 35 = .ok (.iload_n 1, 1) := by decide +kernel
theorem dm_isKept_36 : decode km_isKept 36 = .ok (.bipush 8, 2) := by decide +kernel
theorem dm_isKept_38 : decode km_isKept 38 = .ok (.irem, 1) := by decide +kernel
theorem dm_isKept_39 : decode km_isKept 39 = .ok (.invokevirtual 71, 3) := by decide +kernel
theorem dm_isKept_42 : decode km_isKept 42 = .ok (.ifCond .eq 7, 3) := by decide +kernel
theorem dm_isKept_45 : decode km_isKept 45 = .ok (.iconst 1, 1) := by decide +kernel
theorem dm_isKept_46 : decode km_isKept 46 = .ok (.goto 4, 3) := by decide +kernel
theorem dm_isKept_49 : decode km_isKept 49 = .ok (.iconst 0, 1) := by decide +kernel
theorem dm_isKept_50 : decode km_isKept 50 = .ok (.ireturn, 1) := by decide +kernel
theorem dm_isFree_0 : decode km_isFree 0 = .ok (.iconst 1, 1) := by decide +kernel
theorem dm_isFree_1 : decode km_isFree 1 = .ok (.istore_n 2, 1) := by decide +kernel
theorem dm_isFree_2 : decode km_isFree 2 = .ok (.iconst 0, 1) := by decide +kernel
theorem dm_isFree_3 : decode km_isFree 3 = .ok (.istore_n 3, 1) := by decide +kernel
theorem dm_isFree_4 : decode km_isFree 4 = .ok (.iload_n 3, 1) := by decide +kernel
theorem dm_isFree_5 : decode km_isFree 5 = .ok (.bipush 8, 2) := by decide +kernel
theorem dm_isFree_7 : decode km_isFree 7 = .ok (.if_icmp .ge 108, 3) := by decide +kernel
theorem dm_isFree_10 : decode km_isFree 10 = .ok (.sipush 1024, 3) := by decide +kernel
theorem dm_isFree_13 : decode km_isFree 13 = .ok (.bipush 20, 2) := by decide +kernel
theorem dm_isFree_15 : decode km_isFree 15 = .ok (.iload_n 3, 1) := by decide +kernel
theorem dm_isFree_16 : decode km_isFree 16 = .ok (.imul, 1) := by decide +kernel
theorem dm_isFree_17 : decode km_isFree 17 = .ok (.iadd, 1) := by decide +kernel
theorem dm_isFree_18 : decode km_isFree 18 = .ok (.istore 4, 2) := by decide +kernel
theorem dm_isFree_20 : decode km_isFree 20 = .ok (.aload_n 0, 1) := by decide +kernel
theorem dm_isFree_21 : decode km_isFree 21 = .ok (.getfield 7, 3) := by decide +kernel
theorem dm_isFree_24 : decode km_isFree 24 = .ok (.iload 4, 2) := by decide +kernel
theorem dm_isFree_26 : decode km_isFree 26 = .ok (.laload, 1) := by decide +kernel
theorem dm_isFree_27 : decode km_isFree 27 = .ok (.aload_n 0, 1) := by decide +kernel
theorem dm_isFree_28 : decode km_isFree 28 = .ok (.getfield 68, 3) := by decide +kernel
theorem dm_isFree_31 : decode km_isFree 31 = .ok (.i2l, 1) := by decide +kernel
theorem dm_isFree_32 : decode km_isFree 32 = .ok (.lcmp, 1) := by decide +kernel
theorem dm_isFree_33 : decode km_isFree 33 = .ok (.ifCond .gt 15, 3) := by decide +kernel
theorem dm_isFree_36 : decode km_isFree 36 = .ok (.aload_n 0, 1) := by decide +kernel
theorem dm_isFree_37 : decode km_isFree 37 = .ok (.iload_n 3, 1) := by decide +kernel
theorem dm_isFree_38 : decode km_isFree 38 = .ok (.invokevirtual 61, 3) := by decide +kernel
theorem dm_isFree_41 : decode km_isFree 41 = .ok (.ifCond .eq 7, 3) := by decide +kernel
theorem dm_isFree_44 : decode km_isFree 44 = .ok (.iconst 1, 1) := by decide +kernel
theorem dm_isFree_45 : decode km_isFree 45 = .ok (.goto 4, 3) := by decide +kernel
theorem dm_isFree_48 : decode km_isFree 48 = .ok (.iconst 0, 1) := by decide +kernel
theorem dm_isFree_49 : decode km_isFree 49 = .ok (.istore 5, 2) := by decide +kernel
theorem dm_isFree_51 : decode km_isFree 51 = .ok (.iconst 0, 1) := by decide +kernel
theorem dm_isFree_52 : decode km_isFree 52 = .ok (.istore 6, 2) := by decide +kernel
theorem dm_isFree_54 : decode km_isFree 54 = .ok (.iload 5, 2) := by decide +kernel
theorem dm_isFree_56 : decode km_isFree 56 = .ok (.ifCond .eq 53, 3) := by decide +kernel
theorem dm_isFree_59 : decode km_isFree 59 = .ok (.iload 6, 2) := by decide +kernel
theorem dm_isFree_61 : decode km_isFree 61 = .ok (.i2l, 1) := by decide +kernel
theorem dm_isFree_62 : decode km_isFree 62 = .ok (.aload_n 0, 1) := by decide +kernel
theorem dm_isFree_63 : decode km_isFree 63 = .ok (.getfield 7, 3) := by decide +kernel
theorem dm_isFree_66 : decode km_isFree 66 = .ok (.iload 4, 2) := by decide +kernel
theorem dm_isFree_68 : decode km_isFree 68 = .ok (.iconst 1, 1) := by decide +kernel
theorem dm_isFree_69 : decode km_isFree 69 = .ok (.iadd, 1) := by decide +kernel
theorem dm_isFree_70 : decode km_isFree 70 = .ok (.laload, 1) := by decide +kernel
theorem dm_isFree_71 : decode km_isFree 71 = .ok (.lcmp, 1) := by decide +kernel
theorem dm_isFree_72 : decode km_isFree 72 = .ok (.ifCond .ge 37, 3) := by decide +kernel
theorem dm_isFree_75 : decode km_isFree 75 = .ok (.iload_n 2, 1) := by decide +kernel
theorem dm_isFree_76 : decode km_isFree 76 = .ok (.ifCond .eq 25, 3) := by decide +kernel
theorem dm_isFree_79 : decode km_isFree 79 = .ok (.aload_n 0, 1) := by decide +kernel
theorem dm_isFree_80 : decode km_isFree 80 = .ok (.getfield 7, 3) := by decide +kernel
theorem dm_isFree_83 : decode km_isFree 83 = .ok (.iload 4, 2) := by decide +kernel
theorem dm_isFree_85 : decode km_isFree 85 = .ok (.iconst 2, 1) := by decide +kernel
theorem dm_isFree_86 : decode km_isFree 86 = .ok (.iadd, 1) := by decide +kernel
theorem dm_isFree_87 : decode km_isFree 87 = .ok (.iload 6, 2) := by decide +kernel
theorem dm_isFree_89 : decode km_isFree 89 = .ok (.iadd, 1) := by decide +kernel
theorem dm_isFree_90 : decode km_isFree 90 = .ok (.laload, 1) := by decide +kernel
theorem dm_isFree_91 : decode km_isFree 91 = .ok (.iload_n 1, 1) := by decide +kernel
theorem dm_isFree_92 : decode km_isFree 92 = .ok (.i2l, 1) := by decide +kernel
theorem dm_isFree_93 : decode km_isFree 93 = .ok (.lcmp, 1) := by decide +kernel
theorem dm_isFree_94 : decode km_isFree 94 = .ok (.ifCond .eq 7, 3) := by decide +kernel
theorem dm_isFree_97 : decode km_isFree 97 = .ok (.iconst 1, 1) := by decide +kernel
theorem dm_isFree_98 : decode km_isFree 98 = .ok (.goto 4, 3) := by decide +kernel
theorem dm_isFree_101 : decode km_isFree 101 = .ok (.iconst 0, 1) := by decide +kernel
theorem dm_isFree_102 : decode km_isFree 102 = .ok (.istore_n 2, 1) := by decide +kernel
theorem dm_isFree_103 : decode km_isFree 103 = .ok (.iinc 6 1, 3) := by decide +kernel
theorem dm_isFree_106 : decode km_isFree 106 = .ok (.goto (-52), 3) := by decide +kernel
theorem dm_isFree_109 : decode km_isFree 109 = .ok (.iinc 3 1, 3) := by decide +kernel
theorem dm_isFree_112 : decode km_isFree 112 = .ok (.goto (-108), 3) := by decide +kernel
theorem dm_isFree_115 : decode km_isFree 115 = .ok (.iload_n 2, 1) := by decide +kernel
theorem dm_isFree_116 : decode km_isFree 116 = .ok (.ireturn, 1) := by decide +kernel
theorem dm_leafOf_0 : decode km_leafOf 0 = .ok (.aload_n 0, 1) := by decide +kernel
theorem dm_leafOf_1 : decode km_leafOf 1 = .ok (.getfield 7, 3) := by decide +kernel
theorem dm_leafOf_4 : decode km_leafOf 4 = .ok (.sipush 1024, 3) := by decide +kernel
theorem dm_leafOf_7 : decode km_leafOf 7 = .ok (.bipush 20, 2) := by decide +kernel
theorem dm_leafOf_9 : decode km_leafOf 9 = .ok (.iload_n 1, 1) := by decide +kernel
theorem dm_leafOf_10 : decode km_leafOf 10 = .ok (.bipush 8, 2) := by decide +kernel
theorem dm_leafOf_12 : decode km_leafOf 12 = .ok (.irem, 1) := by decide +kernel
theorem dm_leafOf_13 : decode km_leafOf 13 = .ok (.imul, 1) := by decide +kernel
theorem dm_leafOf_14 : decode km_leafOf 14 = .ok (.iadd, 1) := by decide +kernel
theorem dm_leafOf_15 : decode km_leafOf 15 = .ok (.iconst 2, 1) := by decide +kernel
theorem dm_leafOf_16 : decode km_leafOf 16 = .ok (.iadd, 1) := by decide +kernel
theorem dm_leafOf_17 : decode km_leafOf 17 = .ok (.iload_n 2, 1) := by decide +kernel
theorem dm_leafOf_18 : decode km_leafOf 18 = .ok (.iadd, 1) := by decide +kernel
theorem dm_leafOf_19 : decode km_leafOf 19 = .ok (.laload, 1) := by decide +kernel
theorem dm_leafOf_20 : decode km_leafOf 20 = .ok (.l2i, 1) := by decide +kernel
theorem dm_leafOf_21 : decode km_leafOf 21 = .ok (.ireturn, 1) := by decide +kernel
theorem dm_leavesOf_0 : decode km_leavesOf 0 = .ok (.aload_n 0, 1) := by decide +kernel
theorem dm_leavesOf_1 : decode km_leavesOf 1 = .ok (.getfield 7, 3) := by decide +kernel
theorem dm_leavesOf_4 : decode km_leavesOf 4 = .ok (.sipush 1024, 3) := by decide +kernel
theorem dm_leavesOf_7 : decode km_leavesOf 7 = .ok (.bipush 20, 2) := by decide +kernel
theorem dm_leavesOf_9 : decode km_leavesOf 9 = .ok (.iload_n 1, 1) := by decide +kernel
theorem dm_leavesOf_10 : decode km_leavesOf 10 = .ok (.bipush 8, 2) := by decide +kernel
theorem dm_leavesOf_12 : decode km_leavesOf 12 = .ok (.irem, 1) := by decide +kernel
theorem dm_leavesOf_13 : decode km_leavesOf 13 = .ok (.imul, 1) := by decide +kernel
theorem dm_leavesOf_14 : decode km_leavesOf 14 = .ok (.iadd, 1) := by decide +kernel
theorem dm_leavesOf_15 : decode km_leavesOf 15 = .ok (.iconst 1, 1) := by decide +kernel
theorem dm_leavesOf_16 : decode km_leavesOf 16 = .ok (.iadd, 1) := by decide +kernel
theorem dm_leavesOf_17 : decode km_leavesOf 17 = .ok (.laload, 1) := by decide +kernel
theorem dm_leavesOf_18 : decode km_leavesOf 18 = .ok (.l2i, 1) := by decide +kernel
theorem dm_leavesOf_19 : decode km_leavesOf 19 = .ok (.ireturn, 1) := by decide +kernel
theorem dm_entriesOf_0 : decode km_entriesOf 0 = .ok (.aload_n 0, 1) := by decide +kernel
theorem dm_entriesOf_1 : decode km_entriesOf 1 = .ok (.getfield 7, 3) := by decide +kernel
theorem dm_entriesOf_4 : decode km_entriesOf 4 = .ok (.sipush 1024, 3) := by decide +kernel
theorem dm_entriesOf_7 : decode km_entriesOf 7 = .ok (.bipush 20, 2) := by decide +kernel
theorem dm_entriesOf_9 : decode km_entriesOf 9 = .ok (.iload_n 1, 1) := by decide +kernel
theorem dm_entriesOf_10 : decode km_entriesOf 10 = .ok (.bipush 8, 2) := by decide +kernel
theorem dm_entriesOf_12 : decode km_entriesOf 12 = .ok (.irem, 1) := by decide +kernel
theorem dm_entriesOf_13 : decode km_entriesOf 13 = .ok (.imul, 1) := by decide +kernel
theorem dm_entriesOf_14 : decode km_entriesOf 14 = .ok (.iadd, 1) := by decide +kernel
theorem dm_entriesOf_15 : decode km_entriesOf 15 = .ok (.bipush 18, 2) := by decide +kernel
theorem dm_entriesOf_17 : decode km_entriesOf 17 = .ok (.iadd, 1) := by decide +kernel
theorem dm_entriesOf_18 : decode km_entriesOf 18 = .ok (.laload, 1) := by decide +kernel
theorem dm_entriesOf_19 : decode km_entriesOf 19 = .ok (.l2i, 1) := by decide +kernel
theorem dm_entriesOf_20 : decode km_entriesOf 20 = .ok (.ireturn, 1) := by decide +kernel
theorem dm_entry_0 : decode km_entry 0 = .ok (.iconst 0, 1) := by decide +kernel
theorem dm_entry_1 : decode km_entry 1 = .ok (.istore_n 3, 1) := by decide +kernel
theorem dm_entry_2 : decode km_entry 2 = .ok (.iload_n 2, 1) := by decide +kernel
theorem dm_entry_3 : decode km_entry 3 = .ok (.istore 4, 2) := by decide +kernel
theorem dm_entry_5 : decode km_entry 5 = .ok (.iload 4, 2) := by decide +kernel
theorem dm_entry_7 : decode km_entry 7 = .ok (.i2l, 1) := by decide +kernel
theorem dm_entry_8 : decode km_entry 8 = .ok (.aload_n 0, 1) := by decide +kernel
theorem dm_entry_9 : decode km_entry 9 = .ok (.getfield 7, 3) := by decide +kernel
theorem dm_entry_12 : decode km_entry 12 = .ok (.bipush 16, 2) := by decide +kernel
theorem dm_entry_14 : decode km_entry 14 = .ok (.aload_n 0, 1) := by decide +kernel
theorem dm_entry_15 : decode km_entry 15 = .ok (.iload_n 1, 1) := by decide +kernel
theorem dm_entry_16 : decode km_entry 16 = .ok (.iload_n 3, 1) := by decide +kernel
theorem dm_entry_17 : decode km_entry 17 = .ok (.invokevirtual 74, 3) := by decide +kernel
theorem dm_entry_20 : decode km_entry 20 = .ok (.imul, 1) := by decide +kernel
theorem dm_entry_21 : decode km_entry 21 = .ok (.laload, 1) := by decide +kernel
theorem dm_entry_22 : decode km_entry 22 = .ok (.lcmp, 1) := by decide +kernel
theorem dm_entry_23 : decode km_entry 23 = .ok (.ifCond .lt 29, 3) := by decide +kernel
theorem dm_entry_26 : decode km_entry 26 = .ok (.iload 4, 2) := by decide +kernel
theorem dm_entry_28 : decode km_entry 28 = .ok (.aload_n 0, 1) := by decide +kernel
theorem dm_entry_29 : decode km_entry 29 = .ok (.getfield 7, 3) := by decide +kernel
theorem dm_entry_32 : decode km_entry 32 = .ok (.bipush 16, 2) := by decide +kernel
theorem dm_entry_34 : decode km_entry 34 = .ok (.aload_n 0, 1) := by decide +kernel
theorem dm_entry_35 : decode km_entry 35 = .ok (.iload_n 1, 1) := by decide +kernel
theorem dm_entry_36 : decode km_entry 36 = .ok (.iload_n 3, 1) := by decide +kernel
theorem dm_entry_37 : decode km_entry 37 = .ok (.invokevirtual 74, 3) := by decide +kernel
theorem dm_entry_40 : decode km_entry 40 = .ok (.imul, 1) := by decide +kernel
theorem dm_entry_41 : decode km_entry 41 = .ok (.laload, 1) := by decide +kernel
theorem dm_entry_42 : decode km_entry 42 = .ok (.l2i, 1) := by decide +kernel
theorem dm_entry_43 : decode km_entry 43 = .ok (.isub, 1) := by decide +kernel
theorem dm_entry_44 : decode km_entry 44 = .ok (.istore 4, 2) := by decide +kernel
theorem dm_entry_46 : decode km_entry 46 = .ok (.iinc 3 1, 3) := by decide +kernel
theorem dm_entry_49 : decode km_entry 49 = .ok (.goto (-44), 3) := by decide +kernel
theorem dm_entry_52 : decode km_entry 52 = .ok (.bipush 16, 2) := by decide +kernel
theorem dm_entry_54 : decode km_entry 54 = .ok (.aload_n 0, 1) := by decide +kernel
theorem dm_entry_55 : decode km_entry 55 = .ok (.iload_n 1, 1) := by decide +kernel
theorem dm_entry_56 : decode km_entry 56 = .ok (.iload_n 3, 1) := by decide +kernel
theorem dm_entry_57 : decode km_entry 57 = .ok (.invokevirtual 74, 3) := by decide +kernel
theorem dm_entry_60 : decode km_entry 60 = .ok (.imul, 1) := by decide +kernel
theorem dm_entry_61 : decode km_entry 61 = .ok (.iconst 1, 1) := by decide +kernel
theorem dm_entry_62 : decode km_entry 62 = .ok (.iadd, 1) := by decide +kernel
theorem dm_entry_63 : decode km_entry 63 = .ok (.iconst 2, 1) := by decide +kernel
theorem dm_entry_64 : decode km_entry 64 = .ok (.iload 4, 2) := by decide +kernel
theorem dm_entry_66 : decode km_entry 66 = .ok (.imul, 1) := by decide +kernel
theorem dm_entry_67 : decode km_entry 67 = .ok (.iadd, 1) := by decide +kernel
theorem dm_entry_68 : decode km_entry 68 = .ok (.ireturn, 1) := by decide +kernel
theorem dm_place_0 : decode km_place 0 = .ok (.iconst (-1), 1) := by decide +kernel
theorem dm_place_1 : decode km_place 1 = .ok (.istore_n 3, 1) := by decide +kernel
theorem dm_place_2 : decode km_place 2 = .ok (.iconst 0, 1) := by decide +kernel
theorem dm_place_3 : decode km_place 3 = .ok (.istore 4, 2) := by decide +kernel
theorem dm_place_5 : decode km_place 5 = .ok (.iload 4, 2) := by decide +kernel
theorem dm_place_7 : decode km_place 7 = .ok (.aload_n 0, 1) := by decide +kernel
theorem dm_place_8 : decode km_place 8 = .ok (.iload_n 1, 1) := by decide +kernel
theorem dm_place_9 : decode km_place 9 = .ok (.invokevirtual 78, 3) := by decide +kernel
theorem dm_place_12 : decode km_place 12 = .ok (.if_icmp .ge 38, 3) := by decide +kernel
theorem dm_place_15 : decode km_place 15 = .ok (.aload_n 0, 1) := by decide +kernel
theorem dm_place_16 : decode km_place 16 = .ok (.iload_n 1, 1) := by decide +kernel
theorem dm_place_17 : decode km_place 17 = .ok (.iload 4, 2) := by decide +kernel
theorem dm_place_19 : decode km_place 19 = .ok (.invokevirtual 82, 3) := by decide +kernel
theorem dm_place_22 : decode km_place 22 = .ok (.istore 5, 2) := by decide +kernel
theorem dm_place_24 : decode km_place 24 = .ok (.aload_n 0, 1) := by decide +kernel
theorem dm_place_25 : decode km_place 25 = .ok (.getfield 7, 3) := by decide +kernel
theorem dm_place_28 : decode km_place 28 = .ok (.iload 5, 2) := by decide +kernel
theorem dm_place_30 : decode km_place 30 = .ok (.laload, 1) := by decide +kernel
theorem dm_place_31 : decode km_place 31 = .ok (.iload_n 2, 1) := by decide +kernel
theorem dm_place_32 : decode km_place 32 = .ok (.i2l, 1) := by decide +kernel
theorem dm_place_33 : decode km_place 33 = .ok (.lcmp, 1) := by decide +kernel
theorem dm_place_34 : decode km_place 34 = .ok (.ifCond .ne 8, 3) := by decide +kernel
theorem dm_place_37 : decode km_place 37 = .ok (.iload 5, 2) := by decide +kernel
theorem dm_place_39 : decode km_place 39 = .ok (.goto 4, 3) := by decide +kernel
theorem dm_place_42 : decode km_place 42 = .ok (.iload_n 3, 1) := by decide +kernel
theorem dm_place_43 : decode km_place 43 = .ok (.istore_n 3, 1) := by decide +kernel
theorem dm_place_44 : decode km_place 44 = .ok (.iinc 4 1, 3) := by decide +kernel
theorem dm_place_47 : decode km_place 47 = .ok (.goto (-42), 3) := by decide +kernel
theorem dm_place_50 : decode km_place 50 = .ok (.iload_n 3, 1) := by decide +kernel
theorem dm_place_51 : decode km_place 51 = .ok (.ireturn, 1) := by decide +kernel
theorem dm_check_0 : decode km_check 0 = .ok (.aload_n 0, 1) := by decide +kernel
theorem dm_check_1 : decode km_check 1 = .ok (.getfield 85, 3) := by decide +kernel
theorem dm_check_4 : decode km_check 4 = .ok (.ifCond .eq 7, 3) := by decide +kernel
theorem dm_check_7 : decode km_check 7 = .ok (.iconst 1, 1) := by decide +kernel
theorem dm_check_8 : decode km_check 8 = .ok (.goto 12, 3) := by decide +kernel
theorem dm_check_11 : decode km_check 11 = .ok (.iload_n 1, 1) := by decide +kernel
theorem dm_check_12 : decode km_check 12 = .ok (.ifCond .eq 7, 3) := by decide +kernel
theorem dm_check_15 : decode km_check 15 = .ok (.iconst 0, 1) := by decide +kernel
theorem dm_check_16 : decode km_check 16 = .ok (.goto 4, 3) := by decide +kernel
theorem dm_check_19 : decode km_check 19 = .ok (.iconst 2, 1) := by decide +kernel
theorem dm_check_20 : decode km_check 20 = .ok (.ireturn, 1) := by decide +kernel
theorem dm_version_0 : decode km_version 0 = .ok (.aload_n 0, 1) := by decide +kernel
theorem dm_version_1 : decode km_version 1 = .ok (.aload_n 0, 1) := by decide +kernel
theorem dm_version_2 : decode km_version 2 = .ok (.getfield 85, 3) := by decide +kernel
theorem dm_version_5 : decode km_version 5 = .ok (.ifCond .eq 7, 3) := by decide +kernel
theorem dm_version_8 : decode km_version 8 = .ok (.iconst 1, 1) := by decide +kernel
theorem dm_version_9 : decode km_version 9 = .ok (.goto 4, 3) := by decide +kernel
theorem dm_version_12 : decode km_version 12 = .ok (.iconst 0, 1) := by decide +kernel
theorem dm_version_13 : decode km_version 13 = .ok (.putfield 44, 3) := by decide +kernel
theorem dm_version_16 : decode km_version 16 = .ok (.aload_n 0, 1) := by decide +kernel
theorem dm_version_17 : decode km_version 17 = .ok (.getfield 44, 3) := by decide +kernel
theorem dm_version_20 : decode km_version 20 = .ok (.ifCond .le 7, 3) := by decide +kernel
theorem dm_version_23 : decode km_version 23 = .ok (.iconst 0, 1) := by decide +kernel
theorem dm_version_24 : decode km_version 24 = .ok (.goto 7, 3) := by decide +kernel
theorem dm_version_27 : decode km_version 27 = .ok (.aload_n 0, 1) := by decide +kernel
theorem dm_version_28 : decode km_version 28 = .ok (.getfield 68, 3) := by decide +kernel
theorem dm_version_31 : decode km_version 31 = .ok (.ireturn, 1) := by decide +kernel
theorem dm_has_0 : decode km_has 0 = .ok (.aload_n 0, 1) := by decide +kernel
theorem dm_has_1 : decode km_has 1 = .ok (.aload_n 0, 1) := by decide +kernel
theorem dm_has_2 : decode km_has 2 = .ok (.aload_n 0, 1) := by decide +kernel
theorem dm_has_3 : decode km_has 3 = .ok (.iload_n 1, 1) := by decide +kernel
theorem dm_has_4 : decode km_has 4 = .ok (.invokevirtual 89, 3) := by decide +kernel
theorem dm_has_7 : decode km_has 7 = .ok (.invokevirtual 92, 3) := by decide +kernel
theorem dm_has_10 : decode km_has 10 = .ok (.putfield 44, 3) := by decide +kernel
theorem dm_has_13 : decode km_has 13 = .ok (.aload_n 0, 1) := by decide +kernel
theorem dm_has_14 : decode km_has 14 = .ok (.getfield 44, 3) := by decide +kernel
theorem dm_has_17 : decode km_has 17 = .ok (.ifCond .ne 17, 3) := by decide +kernel
theorem dm_has_20 : decode km_has 20 = .ok (.aload_n 0, 1) := by decide +kernel
theorem dm_has_21 : decode km_has 21 = .ok (.iload_n 1, 1) := by decide +kernel
theorem dm_has_22 : decode km_has 22 = .ok (.iload_n 2, 1) := by decide +kernel
theorem dm_has_23 : decode km_has 23 = .ok (.invokevirtual 96, 3) := by decide +kernel
theorem dm_has_26 : decode km_has 26 = .ok (.iconst (-1), 1) := by decide +kernel
theorem dm_has_27 : decode km_has 27 = .ok (.if_icmp .eq 7, 3) := by decide +kernel
theorem dm_has_30 : decode km_has 30 = .ok (.iconst 1, 1) := by decide +kernel
theorem dm_has_31 : decode km_has 31 = .ok (.goto 4, 3) := by decide +kernel
theorem dm_has_34 : decode km_has 34 = .ok (.iconst 0, 1) := by decide +kernel
theorem dm_has_35 : decode km_has 35 = .ok (.ireturn, 1) := by decide +kernel
theorem dm_find_0 : decode km_find 0 = .ok (.aload_n 0, 1) := by decide +kernel
theorem dm_find_1 : decode km_find 1 = .ok (.aload_n 0, 1) := by decide +kernel
theorem dm_find_2 : decode km_find 2 = .ok (.aload_n 0, 1) := by decide +kernel
theorem dm_find_3 : decode km_find 3 = .ok (.iload_n 1, 1) := by decide +kernel
theorem dm_find_4 : decode km_find 4 = .ok (.invokevirtual 89, 3) := by decide +kernel
theorem dm_find_7 : decode km_find 7 = .ok (.invokevirtual 92, 3) := by decide +kernel
theorem dm_find_10 : decode km_find 10 = .ok (.putfield 44, 3) := by decide +kernel
theorem dm_find_13 : decode km_find 13 = .ok (.aload_n 0, 1) := by decide +kernel
theorem dm_find_14 : decode km_find 14 = .ok (.getfield 44, 3) := by decide +kernel
theorem dm_find_17 : decode km_find 17 = .ok (.ifCond .le 7, 3) := by decide +kernel
theorem dm_find_20 : decode km_find 20 = .ok (.iconst (-1), 1) := by decide +kernel
theorem dm_find_21 : decode km_find 21 = .ok (.goto 9, 3) := by decide +kernel
theorem dm_find_24 : decode km_find 24 = .ok (.aload_n 0, 1) := by decide +kernel
theorem dm_find_25 : decode km_find 25 = .ok (.iload_n 1, 1) := by decide +kernel
theorem dm_find_26 : decode km_find 26 = .ok (.iload_n 2, 1) := by decide +kernel
theorem dm_find_27 : decode km_find 27 = .ok (.invokevirtual 96, 3) := by decide +kernel
theorem dm_find_30 : decode km_find 30 = .ok (.istore_n 3, 1) := by decide +kernel
theorem dm_find_31 : decode km_find 31 = .ok (.iload_n 3, 1) := by decide +kernel
theorem dm_find_32 : decode km_find 32 = .ok (.iconst (-1), 1) := by decide +kernel
theorem dm_find_33 : decode km_find 33 = .ok (.if_icmp .ne 7, 3) := by decide +kernel
theorem dm_find_36 : decode km_find 36 = .ok (.lconst 0, 1) := by decide +kernel
theorem dm_find_37 : decode km_find 37 = .ok (.goto 11, 3) := by decide +kernel
theorem dm_find_40 : decode km_find 40 = .ok (.aload_n 0, 1) := by decide +kernel
theorem dm_find_41 : decode km_find 41 = .ok (.getfield 7, 3) := by decide +kernel
theorem dm_find_44 : decode km_find 44 = .ok (.iload_n 3, 1) := by decide +kernel
theorem dm_find_45 : decode km_find 45 = .ok (.iconst 1, 1) := by decide +kernel
theorem dm_find_46 : decode km_find 46 = .ok (.iadd, 1) := by decide +kernel
theorem dm_find_47 : decode km_find 47 = .ok (.laload, 1) := by decide +kernel
theorem dm_find_48 : decode km_find 48 = .ok (.lreturn, 1) := by decide +kernel
theorem dm_count_0 : decode km_count 0 = .ok (.aload_n 0, 1) := by decide +kernel
theorem dm_count_1 : decode km_count 1 = .ok (.aload_n 0, 1) := by decide +kernel
theorem dm_count_2 : decode km_count 2 = .ok (.aload_n 0, 1) := by decide +kernel
theorem dm_count_3 : decode km_count 3 = .ok (.iload_n 1, 1) := by decide +kernel
theorem dm_count_4 : decode km_count 4 = .ok (.invokevirtual 89, 3) := by decide +kernel
theorem dm_count_7 : decode km_count 7 = .ok (.invokevirtual 92, 3) := by decide +kernel
theorem dm_count_10 : decode km_count 10 = .ok (.putfield 44, 3) := by decide +kernel
theorem dm_count_13 : decode km_count 13 = .ok (.aload_n 0, 1) := by decide +kernel
theorem dm_count_14 : decode km_count 14 = .ok (.aload_n 0, 1) := by decide +kernel
theorem dm_count_15 : decode km_count 15 = .ok (.getfield 44, 3) := by decide +kernel
theorem dm_count_18 : decode km_count 18 = .ok (.ifCond .ne 16, 3) := by decide +kernel
theorem dm_count_21 : decode km_count 21 = .ok (.iload_n 2, 1) := by decide +kernel
theorem dm_count_22 : decode km_count 22 = .ok (.ifCond .eq 12, 3) := by decide +kernel
theorem dm_count_25 : decode km_count 25 = .ok (.iload_n 2, 1) := by decide +kernel
theorem dm_count_26 : decode km_count 26 = .ok (.iconst 1, 1) := by decide +kernel
theorem dm_count_27 : decode km_count 27 = .ok (.if_icmp .eq 7, 3) := by decide +kernel
theorem dm_count_30 : decode km_count 30 = .ok (.iconst 3, 1) := by decide +kernel
theorem dm_count_31 : decode km_count 31 = .ok (.goto 7, 3) := by decide +kernel
theorem dm_count_34 : decode km_count 34 = .ok (.aload_n 0, 1) := by decide +kernel
theorem dm_count_35 : decode km_count 35 = .ok (.getfield 44, 3) := by decide +kernel
theorem dm_count_38 : decode km_count 38 = .ok (.putfield 44, 3) := by decide +kernel
theorem dm_count_41 : decode km_count 41 = .ok (.aload_n 0, 1) := by decide +kernel
theorem dm_count_42 : decode km_count 42 = .ok (.getfield 44, 3) := by decide +kernel
theorem dm_count_45 : decode km_count 45 = .ok (.ifCond .le 7, 3) := by decide +kernel
theorem dm_count_48 : decode km_count 48 = .ok (.iconst 0, 1) := by decide +kernel
theorem dm_count_49 : decode km_count 49 = .ok (.goto 20, 3) := by decide +kernel
theorem dm_count_52 : decode km_count 52 = .ok (.iload_n 2, 1) := by decide +kernel
theorem dm_count_53 : decode km_count 53 = .ok (.ifCond .ne 11, 3) := by decide +kernel
theorem dm_count_56 : decode km_count 56 = .ok (.aload_n 0, 1) := by decide +kernel
theorem dm_count_57 : decode km_count 57 = .ok (.iload_n 1, 1) := by decide +kernel
theorem dm_count_58 : decode km_count 58 = .ok (.invokevirtual 78, 3) := by decide +kernel
theorem dm_count_61 : decode km_count 61 = .ok (.goto 8, 3) := by decide +kernel
theorem dm_count_64 : decode km_count 64 = .ok (.aload_n 0, 1) := by decide +kernel
theorem dm_count_65 : decode km_count 65 = .ok (.iload_n 1, 1) := by decide +kernel
theorem dm_count_66 : decode km_count 66 = .ok (.invokevirtual 99, 3) := by decide +kernel
theorem dm_count_69 : decode km_count 69 = .ok (.ireturn, 1) := by decide +kernel
theorem dm_key_0 : decode km_key 0 = .ok (.aload_n 0, 1) := by decide +kernel
theorem dm_key_1 : decode km_key 1 = .ok (.iload_n 1, 1) := by decide +kernel
theorem dm_key_2 : decode km_key 2 = .ok (.invokevirtual 89, 3) := by decide +kernel
theorem dm_key_5 : decode km_key 5 = .ok (.istore_n 3, 1) := by decide +kernel
theorem dm_key_6 : decode km_key 6 = .ok (.aload_n 0, 1) := by decide +kernel
theorem dm_key_7 : decode km_key 7 = .ok (.aload_n 0, 1) := by decide +kernel
theorem dm_key_8 : decode km_key 8 = .ok (.iload_n 3, 1) := by decide +kernel
theorem dm_key_9 : decode km_key 9 = .ok (.ifCond .eq 20, 3) := by decide +kernel
theorem dm_key_12 : decode km_key 12 = .ok (.iload_n 2, 1) := by decide +kernel
theorem dm_key_13 : decode km_key 13 = .ok (.ifCond .lt 16, 3) := by decide +kernel
theorem dm_key_16 : decode km_key 16 = .ok (.iload_n 2, 1) := by decide +kernel
theorem dm_key_17 : decode km_key 17 = .ok (.aload_n 0, 1) := by decide +kernel
theorem dm_key_18 : decode km_key 18 = .ok (.iload_n 1, 1) := by decide +kernel
theorem dm_key_19 : decode km_key 19 = .ok (.invokevirtual 78, 3) := by decide +kernel
theorem dm_key_22 : decode km_key 22 = .ok (.if_icmp .ge 7, 3) := by decide +kernel
theorem dm_key_25 : decode km_key 25 = .ok (.iconst 1, 1) := by decide +kernel
theorem dm_key_26 : decode km_key 26 = .ok (.goto 4, 3) := by decide +kernel
theorem dm_key_29 : decode km_key 29 = .ok (.iconst 0, 1) := by decide +kernel
theorem dm_key_30 : decode km_key 30 = .ok (.invokevirtual 92, 3) := by decide +kernel
theorem dm_key_33 : decode km_key 33 = .ok (.putfield 44, 3) := by decide +kernel
theorem dm_key_36 : decode km_key 36 = .ok (.aload_n 0, 1) := by decide +kernel
theorem dm_key_37 : decode km_key 37 = .ok (.getfield 44, 3) := by decide +kernel
theorem dm_key_40 : decode km_key 40 = .ok (.ifCond .le 7, 3) := by decide +kernel
theorem dm_key_43 : decode km_key 43 = .ok (.iconst 0, 1) := by decide +kernel
theorem dm_key_44 : decode km_key 44 = .ok (.goto 15, 3) := by decide +kernel
theorem dm_key_47 : decode km_key 47 = .ok (.aload_n 0, 1) := by decide +kernel
theorem dm_key_48 : decode km_key 48 = .ok (.getfield 7, 3) := by decide +kernel
theorem dm_key_51 : decode km_key 51 = .ok (.aload_n 0, 1) := by decide +kernel
theorem dm_key_52 : decode km_key 52 = .ok (.iload_n 1, 1) := by decide +kernel
theorem dm_key_53 : decode km_key 53 = .ok (.iload_n 2, 1) := by decide +kernel
theorem dm_key_54 : decode km_key 54 = .ok (.invokevirtual 82, 3) := by decide +kernel
theorem dm_key_57 : decode km_key 57 = .ok (.laload, 1) := by decide +kernel
theorem dm_key_58 : decode km_key 58 = .ok (.l2i, 1) := by decide +kernel
theorem dm_key_59 : decode km_key 59 = .ok (.ireturn, 1) := by decide +kernel
theorem dm_same_0 : decode km_same 0 = .ok (.aload_n 0, 1) := by decide +kernel
theorem dm_same_1 : decode km_same 1 = .ok (.aload_n 0, 1) := by decide +kernel
theorem dm_same_2 : decode km_same 2 = .ok (.aload_n 0, 1) := by decide +kernel
theorem dm_same_3 : decode km_same 3 = .ok (.iload_n 1, 1) := by decide +kernel
theorem dm_same_4 : decode km_same 4 = .ok (.invokevirtual 89, 3) := by decide +kernel
theorem dm_same_7 : decode km_same 7 = .ok (.ifCond .eq 15, 3) := by decide +kernel
theorem dm_same_10 : decode km_same 10 = .ok (.aload_n 0, 1) := by decide +kernel
theorem dm_same_11 : decode km_same 11 = .ok (.iload_n 2, 1) := by decide +kernel
theorem dm_same_12 : decode km_same 12 = .ok (.invokevirtual 89, 3) := by decide +kernel
theorem dm_same_15 : decode km_same 15 = .ok (.ifCond .eq 7, 3) := by decide +kernel
theorem dm_same_18 : decode km_same 18 = .ok (.iconst 1, 1) := by decide +kernel
theorem dm_same_19 : decode km_same 19 = .ok (.goto 4, 3) := by decide +kernel
theorem dm_same_22 : decode km_same 22 = .ok (.iconst 0, 1) := by decide +kernel
theorem dm_same_23 : decode km_same 23 = .ok (.invokevirtual 92, 3) := by decide +kernel
theorem dm_same_26 : decode km_same 26 = .ok (.putfield 44, 3) := by decide +kernel
theorem dm_same_29 : decode km_same 29 = .ok (.aload_n 0, 1) := by decide +kernel
theorem dm_same_30 : decode km_same 30 = .ok (.getfield 44, 3) := by decide +kernel
theorem dm_same_33 : decode km_same 33 = .ok (.ifCond .le 5, 3) := by decide +kernel
theorem dm_same_36 : decode km_same 36 = .ok (.iconst 0, 1) := by decide +kernel
theorem dm_same_37 : decode km_same 37 = .ok (.ireturn, 1) := by decide +kernel
theorem dm_same_38 : decode km_same 38 = .ok (.aload_n 0, 1) := by decide +kernel
theorem dm_same_39 : decode km_same 39 = .ok (.iload_n 1, 1) := by decide +kernel
theorem dm_same_40 : decode km_same 40 = .ok (.invokevirtual 78, 3) := by decide +kernel
theorem dm_same_43 : decode km_same 43 = .ok (.aload_n 0, 1) := by decide +kernel
theorem dm_same_44 : decode km_same 44 = .ok (.iload_n 2, 1) := by decide +kernel
theorem dm_same_45 : decode km_same 45 = .ok (.invokevirtual 78, 3) := by decide +kernel
theorem dm_same_48 : decode km_same 48 = .ok (.if_icmp .ne 7, 3) := by decide +kernel
theorem dm_same_51 : decode km_same 51 = .ok (.iconst 1, 1) := by decide +kernel
theorem dm_same_52 : decode km_same 52 = .ok (.goto 4, 3) := by decide +kernel
theorem dm_same_55 : decode km_same 55 = .ok (.iconst 0, 1) := by decide +kernel
theorem dm_same_56 : decode km_same 56 = .ok (.istore_n 3, 1) := by decide +kernel
theorem dm_same_57 : decode km_same 57 = .ok (.iconst 0, 1) := by decide +kernel
theorem dm_same_58 : decode km_same 58 = .ok (.istore 4, 2) := by decide +kernel
theorem dm_same_60 : decode km_same 60 = .ok (.iload_n 3, 1) := by decide +kernel
theorem dm_same_61 : decode km_same 61 = .ok (.ifCond .eq 83, 3) := by decide +kernel
theorem dm_same_64 : decode km_same 64 = .ok (.iload 4, 2) := by decide +kernel
theorem dm_same_66 : decode km_same 66 = .ok (.aload_n 0, 1) := by decide +kernel
theorem dm_same_67 : decode km_same 67 = .ok (.iload_n 1, 1) := by decide +kernel
theorem dm_same_68 : decode km_same 68 = .ok (.invokevirtual 78, 3) := by decide +kernel
theorem dm_same_71 : decode km_same 71 = .ok (.if_icmp .ge 73, 3) := by decide +kernel
theorem dm_same_74 : decode km_same 74 = .ok (.aload_n 0, 1) := by decide +kernel
theorem dm_same_75 : decode km_same 75 = .ok (.iload_n 1, 1) := by decide +kernel
theorem dm_same_76 : decode km_same 76 = .ok (.iload 4, 2) := by decide +kernel
theorem dm_same_78 : decode km_same 78 = .ok (.invokevirtual 82, 3) := by decide +kernel
theorem dm_same_81 : decode km_same 81 = .ok (.istore 5, 2) := by decide +kernel
theorem dm_same_83 : decode km_same 83 = .ok (.aload_n 0, 1) := by decide +kernel
theorem dm_same_84 : decode km_same 84 = .ok (.iload_n 2, 1) := by decide +kernel
theorem dm_same_85 : decode km_same 85 = .ok (.iload 4, 2) := by decide +kernel
theorem dm_same_87 : decode km_same 87 = .ok (.invokevirtual 82, 3) := by decide +kernel
theorem dm_same_90 : decode km_same 90 = .ok (.istore 6, 2) := by decide +kernel
theorem dm_same_92 : decode km_same 92 = .ok (.aload_n 0, 1) := by decide +kernel
theorem dm_same_93 : decode km_same 93 = .ok (.getfield 7, 3) := by decide +kernel
theorem dm_same_96 : decode km_same 96 = .ok (.iload 5, 2) := by decide +kernel
theorem dm_same_98 : decode km_same 98 = .ok (.laload, 1) := by decide +kernel
theorem dm_same_99 : decode km_same 99 = .ok (.aload_n 0, 1) := by decide +kernel
theorem dm_same_100 : decode km_same 100 = .ok (.getfield 7, 3) := by decide +kernel
theorem dm_same_103 : decode km_same 103 = .ok (.iload 6, 2) := by decide +kernel
theorem dm_same_105 : decode km_same 105 = .ok (.laload, 1) := by decide +kernel
theorem dm_same_106 : decode km_same 106 = .ok (.lcmp, 1) := by decide +kernel
theorem dm_same_107 : decode km_same 107 = .ok (.ifCond .ne 29, 3) := by decide +kernel
theorem dm_same_110 : decode km_same 110 = .ok (.aload_n 0, 1) := by decide +kernel
theorem dm_same_111 : decode km_same 111 = .ok (.getfield 7, 3) := by decide +kernel
theorem dm_same_114 : decode km_same 114 = .ok (.iload 5, 2) := by decide +kernel
theorem dm_same_116 : decode km_same 116 = .ok (.iconst 1, 1) := by decide +kernel
theorem dm_same_117 : decode km_same 117 = .ok (.iadd, 1) := by decide +kernel
theorem dm_same_118 : decode km_same 118 = .ok (.laload, 1) := by decide +kernel
theorem dm_same_119 : decode km_same 119 = .ok (.aload_n 0, 1) := by decide +kernel
theorem dm_same_120 : decode km_same 120 = .ok (.getfield 7, 3) := by decide +kernel
theorem dm_same_123 : decode km_same 123 = .ok (.iload 6, 2) := by decide +kernel
theorem dm_same_125 : decode km_same 125 = .ok (.iconst 1, 1) := by decide +kernel
theorem dm_same_126 : decode km_same 126 = .ok (.iadd, 1) := by decide +kernel
theorem dm_same_127 : decode km_same 127 = .ok (.laload, 1) := by decide +kernel
theorem dm_same_128 : decode km_same 128 = .ok (.lcmp, 1) := by decide +kernel
theorem dm_same_129 : decode km_same 129 = .ok (.ifCond .ne 7, 3) := by decide +kernel
theorem dm_same_132 : decode km_same 132 = .ok (.iconst 1, 1) := by decide +kernel
theorem dm_same_133 : decode km_same 133 = .ok (.goto 4, 3) := by decide +kernel
theorem dm_same_136 : decode km_same 136 = .ok (.iconst 0, 1) := by decide +kernel
theorem dm_same_137 : decode km_same 137 = .ok (.istore_n 3, 1) := by decide +kernel
theorem dm_same_138 : decode km_same 138 = .ok (.iinc 4 1, 3) := by decide +kernel
theorem dm_same_141 : decode km_same 141 = .ok (.goto (-81), 3) := by decide +kernel
theorem dm_same_144 : decode km_same 144 = .ok (.iload_n 3, 1) := by decide +kernel
theorem dm_same_145 : decode km_same 145 = .ok (.ireturn, 1) := by decide +kernel
theorem dm_free_0 : decode km_free 0 = .ok (.aload_n 0, 1) := by decide +kernel
theorem dm_free_1 : decode km_free 1 = .ok (.aload_n 0, 1) := by decide +kernel
theorem dm_free_2 : decode km_free 2 = .ok (.getfield 85, 3) := by decide +kernel
theorem dm_free_5 : decode km_free 5 = .ok (.ifCond .eq 7, 3) := by decide +kernel
theorem dm_free_8 : decode km_free 8 = .ok (.iconst 1, 1) := by decide +kernel
theorem dm_free_9 : decode km_free 9 = .ok (.goto 4, 3) := by decide +kernel
theorem dm_free_12 : decode km_free 12 = .ok (.iconst 0, 1) := by decide +kernel
theorem dm_free_13 : decode km_free 13 = .ok (.putfield 44, 3) := by decide +kernel
theorem dm_free_16 : decode km_free 16 = .ok (.iconst 0, 1) := by decide +kernel
theorem dm_free_17 : decode km_free 17 = .ok (.istore_n 1, 1) := by decide +kernel
theorem dm_free_18 : decode km_free 18 = .ok (.iconst 0, 1) := by decide +kernel
theorem dm_free_19 : decode km_free 19 = .ok (.istore_n 2, 1) := by decide +kernel
theorem dm_free_20 : decode km_free 20 = .ok (.iload_n 2, 1) := by decide +kernel
theorem dm_free_21 : decode km_free 21 = .ok (.aload_n 0, 1) := by decide +kernel
theorem dm_free_22 : decode km_free 22 = .ok (.getfield 33, 3) := by decide +kernel
theorem dm_free_25 : decode km_free 25 = .ok (.if_icmp .ge 32, 3) := by decide +kernel
theorem dm_free_28 : decode km_free 28 = .ok (.aload_n 0, 1) := by decide +kernel
theorem dm_free_29 : decode km_free 29 = .ok (.getfield 44, 3) := by decide +kernel
theorem dm_free_32 : decode km_free 32 = .ok (.ifCond .ne 25, 3) := by decide +kernel
theorem dm_free_35 : decode km_free 35 = .ok (.aload_n 0, 1) := by decide +kernel
theorem dm_free_36 : decode km_free 36 = .ok (.iload_n 2, 1) := by decide +kernel
theorem dm_free_37 : decode km_free 37 = .ok (.invokevirtual 102, 3) := by decide +kernel
theorem dm_free_40 : decode km_free 40 = .ok (.ifCond .eq 9, 3) := by decide +kernel
theorem dm_free_43 : decode km_free 43 = .ok (.iload_n 1, 1) := by decide +kernel
theorem dm_free_44 : decode km_free 44 = .ok (.iconst 1, 1) := by decide +kernel
theorem dm_free_45 : decode km_free 45 = .ok (.iadd, 1) := by decide +kernel
theorem dm_free_46 : decode km_free 46 = .ok (.goto 4, 3) := by decide +kernel
theorem dm_free_49 : decode km_free 49 = .ok (.iload_n 1, 1) := by decide +kernel
theorem dm_free_50 : decode km_free 50 = .ok (.istore_n 1, 1) := by decide +kernel
theorem dm_free_51 : decode km_free 51 = .ok (.iinc 2 1, 3) := by decide +kernel
theorem dm_free_54 : decode km_free 54 = .ok (.goto (-34), 3) := by decide +kernel
theorem dm_free_57 : decode km_free 57 = .ok (.iload_n 1, 1) := by decide +kernel
theorem dm_free_58 : decode km_free 58 = .ok (.ireturn, 1) := by decide +kernel
theorem dm_write_0 : decode km_write 0 = .ok (.aload_n 0, 1) := by decide +kernel
theorem dm_write_1 : decode km_write 1 = .ok (.getfield 13, 3) := by decide +kernel
theorem dm_write_4 : decode km_write 4 = .ok (.aload_n 0, 1) := by decide +kernel
theorem dm_write_5 : decode km_write 5 = .ok (.getfield 41, 3) := by decide +kernel
theorem dm_write_8 : decode km_write 8 = .ok (.iload_n 1, 1) := by decide +kernel
theorem dm_write_9 : decode km_write 9 = .ok (.iastore, 1) := by decide +kernel
theorem dm_write_10 : decode km_write 10 = .ok (.aload_n 0, 1) := by decide +kernel
theorem dm_write_11 : decode km_write 11 = .ok (.getfield 17, 3) := by decide +kernel
theorem dm_write_14 : decode km_write 14 = .ok (.aload_n 0, 1) := by decide +kernel
theorem dm_write_15 : decode km_write 15 = .ok (.getfield 41, 3) := by decide +kernel
theorem dm_write_18 : decode km_write 18 = .ok (.aload_n 0, 1) := by decide +kernel
theorem dm_write_19 : decode km_write 19 = .ok (.getfield 7, 3) := by decide +kernel
theorem dm_write_22 : decode km_write 22 = .ok (.iload_n 1, 1) := by decide +kernel
theorem dm_write_23 : decode km_write 23 = .ok (.laload, 1) := by decide +kernel
theorem dm_write_24 : decode km_write 24 = .ok (.lastore, 1) := by decide +kernel
theorem dm_write_25 : decode km_write 25 = .ok (.aload_n 0, 1) := by decide +kernel
theorem dm_write_26 : decode km_write 26 = .ok (.getfield 7, 3) := by decide +kernel
theorem dm_write_29 : decode km_write 29 = .ok (.iload_n 1, 1) := by decide +kernel
theorem dm_write_30 : decode km_write 30 = .ok (.lload_n 2, 1) := by decide +kernel
theorem dm_write_31 : decode km_write 31 = .ok (.lastore, 1) := by decide +kernel
theorem dm_write_32 : decode km_write 32 = .ok (.aload_n 0, 1) := by decide +kernel
theorem dm_write_33 : decode km_write 33 = .ok (.dup, 1) := by decide +kernel
theorem dm_write_34 : decode km_write 34 = .ok (.getfield 41, 3) := by decide +kernel
theorem dm_write_37 : decode km_write 37 = .ok (.iconst 1, 1) := by decide +kernel
theorem dm_write_38 : decode km_write 38 = .ok (.iadd, 1) := by decide +kernel
theorem dm_write_39 : decode km_write 39 = .ok (.putfield 41, 3) := by decide +kernel
theorem dm_write_42 : decode km_write 42 = .ok (.return_, 1) := by decide +kernel
theorem dm_leafFor_0 : decode km_leafFor 0 = .ok (.aload_n 0, 1) := by decide +kernel
theorem dm_leafFor_1 : decode km_leafFor 1 = .ok (.aload_n 0, 1) := by decide +kernel
theorem dm_leafFor_2 : decode km_leafFor 2 = .ok (.getfield 68, 3) := by decide +kernel
theorem dm_leafFor_5 : decode km_leafFor 5 = .ok (.invokevirtual 99, 3) := by decide +kernel
theorem dm_leafFor_8 : decode km_leafFor 8 = .ok (.ifCond .ne 7, 3) := by decide +kernel
theorem dm_leafFor_11 : decode km_leafFor 11 = .ok (.iconst (-1), 1) := by decide +kernel
theorem dm_leafFor_12 : decode km_leafFor 12 = .ok (.goto 4, 3) := by decide +kernel
theorem dm_leafFor_15 : decode km_leafFor 15 = .ok (.iconst 0, 1) := by decide +kernel
theorem dm_leafFor_16 : decode km_leafFor 16 = .ok (.istore_n 2, 1) := by decide +kernel
theorem dm_leafFor_17 : decode km_leafFor 17 = .ok (.iconst 1, 1) := by decide +kernel
theorem dm_leafFor_18 : decode km_leafFor 18 = .ok (.istore_n 3, 1) := by decide +kernel
theorem dm_leafFor_19 : decode km_leafFor 19 = .ok (.iload_n 3, 1) := by decide +kernel
theorem dm_leafFor_20 : decode km_leafFor 20 = .ok (.aload_n 0, 1) := by decide +kernel
theorem dm_leafFor_21 : decode km_leafFor 21 = .ok (.aload_n 0, 1) := by decide +kernel
theorem dm_leafFor_22 : decode km_leafFor 22 = .ok (.getfield 68, 3) := by decide +kernel
theorem dm_leafFor_25 : decode km_leafFor 25 = .ok (.invokevirtual 99, 3) := by decide +kernel
theorem dm_leafFor_28 : decode km_leafFor 28 = .ok (.if_icmp .ge 40, 3) := by decide +kernel
theorem dm_leafFor_31 : decode km_leafFor 31 = .ok (.aload_n 0, 1) := by decide +kernel
theorem dm_leafFor_32 : decode km_leafFor 32 = .ok (.getfield 7, 3) := by decide +kernel
theorem dm_leafFor_35 : decode km_leafFor 35 = .ok (.bipush 16, 2) := by decide +kernel
theorem dm_leafFor_37 : decode km_leafFor 37 = .ok (.aload_n 0, 1) := by decide +kernel
theorem dm_leafFor_38 : decode km_leafFor 38 = .ok (.aload_n 0, 1) := by decide +kernel
theorem dm_leafFor_39 : decode km_leafFor 39 = .ok (.getfield 68, 3) := by decide +kernel
theorem dm_leafFor_42 : decode km_leafFor 42 = .ok (.iload_n 3, 1) := by decide +kernel
theorem dm_leafFor_43 : decode km_leafFor 43 = .ok (.invokevirtual 74, 3) := by decide +kernel
theorem dm_leafFor_46 : decode km_leafFor 46 = .ok (.imul, 1) := by decide +kernel
theorem dm_leafFor_47 : decode km_leafFor 47 = .ok (.iconst 1, 1) := by decide +kernel
theorem dm_leafFor_48 : decode km_leafFor 48 = .ok (.iadd, 1) := by decide +kernel
theorem dm_leafFor_49 : decode km_leafFor 49 = .ok (.laload, 1) := by decide +kernel
theorem dm_leafFor_50 : decode km_leafFor 50 = .ok (.iload_n 1, 1) := by decide +kernel
theorem dm_leafFor_51 : decode km_leafFor 51 = .ok (.i2l, 1) := by decide +kernel
theorem dm_leafFor_52 : decode km_leafFor 52 = .ok (.lcmp, 1) := by decide +kernel
theorem dm_leafFor_53 : decode km_leafFor 53 = .ok (.ifCond .gt 7, 3) := by decide +kernel
theorem dm_leafFor_56 : decode km_leafFor 56 = .ok (.iload_n 3, 1) := by decide +kernel
theorem dm_leafFor_57 : decode km_leafFor 57 = .ok (.goto 4, 3) := by decide +kernel
theorem dm_leafFor_60 : decode km_leafFor 60 = .ok (.iload_n 2, 1) := by decide +kernel
theorem dm_leafFor_61 : decode km_leafFor 61 = .ok (.istore_n 2, 1) := by decide +kernel
theorem dm_leafFor_62 : decode km_leafFor 62 = .ok (.iinc 3 1, 3) := by decide +kernel
theorem dm_leafFor_65 : decode km_leafFor 65 = .ok (.goto (-46), 3) := by decide +kernel
theorem dm_leafFor_68 : decode km_leafFor 68 = .ok (.iload_n 2, 1) := by decide +kernel
theorem dm_leafFor_69 : decode km_leafFor 69 = .ok (.ireturn, 1) := by decide +kernel
theorem dm_load_0 : decode km_load 0 = .ok (.aload_n 0, 1) := by decide +kernel
theorem dm_load_1 : decode km_load 1 = .ok (.iload_n 1, 1) := by decide +kernel
theorem dm_load_2 : decode km_load 2 = .ok (.iconst (-1), 1) := by decide +kernel
theorem dm_load_3 : decode km_load 3 = .ok (.if_icmp .ne 7, 3) := by decide +kernel
theorem dm_load_6 : decode km_load 6 = .ok (.iconst 0, 1) := by decide +kernel
theorem dm_load_7 : decode km_load 7 = .ok (.goto 21, 3) := by decide +kernel
theorem dm_load_10 : decode km_load 10 = .ok (.aload_n 0, 1) := by decide +kernel
theorem dm_load_11 : decode km_load 11 = .ok (.getfield 7, 3) := by decide +kernel
theorem dm_load_14 : decode km_load 14 = .ok (.bipush 16, 2) := by decide +kernel
theorem dm_load_16 : decode km_load 16 = .ok (.aload_n 0, 1) := by decide +kernel
theorem dm_load_17 : decode km_load 17 = .ok (.aload_n 0, 1) := by decide +kernel
theorem dm_load_18 : decode km_load 18 = .ok (.getfield 68, 3) := by decide +kernel
theorem dm_load_21 : decode km_load 21 = .ok (.iload_n 1, 1) := by decide +kernel
theorem dm_load_22 : decode km_load 22 = .ok (.invokevirtual 74, 3) := by decide +kernel
theorem dm_load_25 : decode km_load 25 = .ok (.imul, 1) := by decide +kernel
theorem dm_load_26 : decode km_load 26 = .ok (.laload, 1) := by decide +kernel
theorem dm_load_27 : decode km_load 27 = .ok (.l2i, 1) := by decide +kernel
theorem dm_load_28 : decode km_load 28 = .ok (.putfield 105, 3) := by decide +kernel
theorem dm_load_31 : decode km_load 31 = .ok (.iconst 0, 1) := by decide +kernel
theorem dm_load_32 : decode km_load 32 = .ok (.istore_n 2, 1) := by decide +kernel
theorem dm_load_33 : decode km_load 33 = .ok (.iload_n 2, 1) := by decide +kernel
theorem dm_load_34 : decode km_load 34 = .ok (.aload_n 0, 1) := by decide +kernel
theorem dm_load_35 : decode km_load 35 = .ok (.getfield 105, 3) := by decide +kernel
theorem dm_load_38 : decode km_load 38 = .ok (.if_icmp .ge 67, 3) := by decide +kernel
theorem dm_load_41 : decode km_load 41 = .ok (.aload_n 0, 1) := by decide +kernel
theorem dm_load_42 : decode km_load 42 = .ok (.getfield 20, 3) := by decide +kernel
theorem dm_load_45 : decode km_load 45 = .ok (.iload_n 2, 1) := by decide +kernel
theorem dm_load_46 : decode km_load 46 = .ok (.aload_n 0, 1) := by decide +kernel
theorem dm_load_47 : decode km_load 47 = .ok (.getfield 7, 3) := by decide +kernel
theorem dm_load_50 : decode km_load 50 = .ok (.bipush 16, 2) := by decide +kernel
theorem dm_load_52 : decode km_load 52 = .ok (.aload_n 0, 1) := by decide +kernel
theorem dm_load_53 : decode km_load 53 = .ok (.aload_n 0, 1) := by decide +kernel
theorem dm_load_54 : decode km_load 54 = .ok (.getfield 68, 3) := by decide +kernel
theorem dm_load_57 : decode km_load 57 = .ok (.iload_n 1, 1) := by decide +kernel
theorem dm_load_58 : decode km_load 58 = .ok (.invokevirtual 74, 3) := by decide +kernel
theorem dm_load_61 : decode km_load 61 = .ok (.imul, 1) := by decide +kernel
theorem dm_load_62 : decode km_load 62 = .ok (.iconst 1, 1) := by decide +kernel
theorem dm_load_63 : decode km_load 63 = .ok (.iadd, 1) := by decide +kernel
theorem dm_load_64 : decode km_load 64 = .ok (.iconst 2, 1) := by decide +kernel
theorem dm_load_65 : decode km_load 65 = .ok (.iload_n 2, 1) := by decide +kernel
theorem dm_load_66 : decode km_load 66 = .ok (.imul, 1) := by decide +kernel
theorem dm_load_67 : decode km_load 67 = .ok (.iadd, 1) := by decide +kernel
theorem dm_load_68 : decode km_load 68 = .ok (.laload, 1) := by decide +kernel
theorem dm_load_69 : decode km_load 69 = .ok (.lastore, 1) := by decide +kernel
theorem dm_load_70 : decode km_load 70 = .ok (.aload_n 0, 1) := by decide +kernel
theorem dm_load_71 : decode km_load 71 = .ok (.getfield 23, 3) := by decide +kernel
theorem dm_load_74 : decode km_load 74 = .ok (.iload_n 2, 1) := by decide +kernel
theorem dm_load_75 : decode km_load 75 = .ok (.aload_n 0, 1) := by decide +kernel
theorem dm_load_76 : decode km_load 76 = .ok (.getfield 7, 3) := by decide +kernel
theorem dm_load_79 : decode km_load 79 = .ok (.bipush 16, 2) := by decide +kernel
theorem dm_load_81 : decode km_load 81 = .ok (.aload_n 0, 1) := by decide +kernel
theorem dm_load_82 : decode km_load 82 = .ok (.aload_n 0, 1) := by decide +kernel
theorem dm_load_83 : decode km_load 83 = .ok (.getfield 68, 3) := by decide +kernel
theorem dm_load_86 : decode km_load 86 = .ok (.iload_n 1, 1) := by decide +kernel
theorem dm_load_87 : decode km_load 87 = .ok (.invokevirtual 74, 3) := by decide +kernel
theorem dm_load_90 : decode km_load 90 = .ok (.imul, 1) := by decide +kernel
theorem dm_load_91 : decode km_load 91 = .ok (.iconst 2, 1) := by decide +kernel
theorem dm_load_92 : decode km_load 92 = .ok (.iadd, 1) := by decide +kernel
theorem dm_load_93 : decode km_load 93 = .ok (.iconst 2, 1) := by decide +kernel
theorem dm_load_94 : decode km_load 94 = .ok (.iload_n 2, 1) := by decide +kernel
theorem dm_load_95 : decode km_load 95 = .ok (.imul, 1) := by decide +kernel
theorem dm_load_96 : decode km_load 96 = .ok (.iadd, 1) := by decide +kernel
theorem dm_load_97 : decode km_load 97 = .ok (.laload, 1) := by decide +kernel
theorem dm_load_98 : decode km_load 98 = .ok (.lastore, 1) := by decide +kernel
theorem dm_load_99 : decode km_load 99 = .ok (.iinc 2 1, 3) := by decide +kernel
theorem dm_load_102 : decode km_load 102 = .ok (.goto (-69), 3) := by decide +kernel
theorem dm_load_105 : decode km_load 105 = .ok (.return_, 1) := by decide +kernel
theorem dm_enter_0 : decode km_enter 0 = .ok (.iconst 0, 1) := by decide +kernel
theorem dm_enter_1 : decode km_enter 1 = .ok (.istore 4, 2) := by decide +kernel
theorem dm_enter_3 : decode km_enter 3 = .ok (.iload 4, 2) := by decide +kernel
theorem dm_enter_5 : decode km_enter 5 = .ok (.aload_n 0, 1) := by decide +kernel
theorem dm_enter_6 : decode km_enter 6 = .ok (.getfield 105, 3) := by decide +kernel
theorem dm_enter_9 : decode km_enter 9 = .ok (.if_icmp .ge 22, 3) := by decide +kernel
theorem dm_enter_12 : decode km_enter 12 = .ok (.aload_n 0, 1) := by decide +kernel
theorem dm_enter_13 : decode km_enter 13 = .ok (.getfield 20, 3) := by decide +kernel
theorem dm_enter_16 : decode km_enter 16 = .ok (.iload 4, 2) := by decide +kernel
theorem dm_enter_18 : decode km_enter 18 = .ok (.laload, 1) := by decide +kernel
theorem dm_enter_19 : decode km_enter 19 = .ok (.iload_n 1, 1) := by decide +kernel
theorem dm_enter_20 : decode km_enter 20 = .ok (.i2l, 1) := by decide +kernel
theorem dm_enter_21 : decode km_enter 21 = .ok (.lcmp, 1) := by decide +kernel
theorem dm_enter_22 : decode km_enter 22 = .ok (.ifCond .ge 9, 3) := by decide +kernel
theorem dm_enter_25 : decode km_enter 25 = .ok (.iinc 4 1, 3) := by decide +kernel
theorem dm_enter_28 : decode km_enter 28 = .ok (.goto (-25), 3) := by decide +kernel
theorem dm_enter_31 : decode km_enter 31 = .ok (.iload 4, 2) := by decide +kernel
theorem dm_enter_33 : decode km_enter 33 = .ok (.aload_n 0, 1) := by decide +kernel
theorem dm_enter_34 : decode km_enter 34 = .ok (.getfield 105, 3) := by decide +kernel
theorem dm_enter_37 : decode km_enter 37 = .ok (.if_icmp .eq 16, 3) := by decide +kernel
theorem dm_enter_40 : decode km_enter 40 = .ok (.aload_n 0, 1) := by decide +kernel
theorem dm_enter_41 : decode km_enter 41 = .ok (.getfield 20, 3) := by decide +kernel
theorem dm_enter_44 : decode km_enter 44 = .ok (.iload 4, 2) := by decide +kernel
theorem dm_enter_46 : decode km_enter 46 = .ok (.laload, 1) := by decide +kernel
theorem dm_enter_47 : decode km_enter 47 = .ok (.iload_n 1, 1) := by decide +kernel
theorem dm_enter_48 : decode km_enter 48 = .ok (.i2l, 1) := by decide +kernel
theorem dm_enter_49 : decode km_enter 49 = .ok (.lcmp, 1) := by decide +kernel
theorem dm_enter_50 : decode km_enter 50 = .ok (.ifCond .eq 64, 3) := by decide +kernel
theorem dm_enter_53 : decode km_enter 53 = .ok (.aload_n 0, 1) := by decide +kernel
theorem dm_enter_54 : decode km_enter 54 = .ok (.getfield 105, 3) := by decide +kernel
theorem dm_enter_57 : decode km_enter 57 = .ok (.istore 5, 2) := by decide +kernel
theorem dm_enter_59 : decode km_enter 59 = .ok (.iload 5, 2) := by decide +kernel
theorem dm_enter_61 : decode km_enter 61 = .ok (.iload 4, 2) := by decide +kernel
theorem dm_enter_63 : decode km_enter 63 = .ok (.if_icmp .le 41, 3) := by decide +kernel
theorem dm_enter_66 : decode km_enter 66 = .ok (.aload_n 0, 1) := by decide +kernel
theorem dm_enter_67 : decode km_enter 67 = .ok (.getfield 20, 3) := by decide +kernel
theorem dm_enter_70 : decode km_enter 70 = .ok (.iload 5, 2) := by decide +kernel
theorem dm_enter_72 : decode km_enter 72 = .ok (.aload_n 0, 1) := by decide +kernel
theorem dm_enter_73 : decode km_enter 73 = .ok (.getfield 20, 3) := by decide +kernel
theorem dm_enter_76 : decode km_enter 76 = .ok (.iload 5, 2) := by decide +kernel
theorem dm_enter_78 : decode km_enter 78 = .ok (.iconst 1, 1) := by decide +kernel
theorem dm_enter_79 : decode km_enter 79 = .ok (.isub, 1) := by decide +kernel
theorem dm_enter_80 : decode km_enter 80 = .ok (.laload, 1) := by decide +kernel
theorem dm_enter_81 : decode km_enter 81 = .ok (.lastore, 1) := by decide +kernel
theorem dm_enter_82 : decode km_enter 82 = .ok (.aload_n 0, 1) := by decide +kernel
theorem dm_enter_83 : decode km_enter 83 = .ok (.getfield 23, 3) := by decide +kernel
theorem dm_enter_86 : decode km_enter 86 = .ok (.iload 5, 2) := by decide +kernel
theorem dm_enter_88 : decode km_enter 88 = .ok (.aload_n 0, 1) := by decide +kernel
theorem dm_enter_89 : decode km_enter 89 = .ok (.getfield 23, 3) := by decide +kernel
theorem dm_enter_92 : decode km_enter 92 = .ok (.iload 5, 2) := by decide +kernel
theorem dm_enter_94 : decode km_enter 94 = .ok (.iconst 1, 1) := by decide +kernel
theorem dm_enter_95 : decode km_enter 95 = .ok (.isub, 1) := by decide +kernel
theorem dm_enter_96 : decode km_enter 96 = .ok (.laload, 1) := by decide +kernel
theorem dm_enter_97 : decode km_enter 97 = .ok (.lastore, 1) := by decide +kernel
theorem dm_enter_98 : decode km_enter 98 = .ok (.iinc 5 (-1), 3) := by decide +kernel
theorem dm_enter_101 : decode km_enter 101 = .ok (.goto (-42), 3) := by decide +kernel
theorem dm_enter_104 : decode km_enter 104 = .ok (.aload_n 0, 1) := by decide +kernel
theorem dm_enter_105 : decode km_enter 105 = .ok (.dup, 1) := by decide +kernel
theorem dm_enter_106 : decode km_enter 106 = .ok (.getfield 105, 3) := by decide +kernel
theorem dm_enter_109 : decode km_enter 109 = .ok (.iconst 1, 1) := by decide +kernel
theorem dm_enter_110 : decode km_enter 110 = .ok (.iadd, 1) := by decide +kernel
theorem dm_enter_111 : decode km_enter 111 = .ok (.putfield 105, 3) := by decide +kernel
theorem dm_enter_114 : decode km_enter 114 = .ok (.aload_n 0, 1) := by decide +kernel
theorem dm_enter_115 : decode km_enter 115 = .ok (.getfield 20, 3) := by decide +kernel
theorem dm_enter_118 : decode km_enter 118 = .ok (.iload 4, 2) := by decide +kernel
theorem dm_enter_120 : decode km_enter 120 = .ok (.iload_n 1, 1) := by decide +kernel
theorem dm_enter_121 : decode km_enter 121 = .ok (.i2l, 1) := by decide +kernel
theorem dm_enter_122 : decode km_enter 122 = .ok (.lastore, 1) := by decide +kernel
theorem dm_enter_123 : decode km_enter 123 = .ok (.aload_n 0, 1) := by decide +kernel
theorem dm_enter_124 : decode km_enter 124 = .ok (.getfield 23, 3) := by decide +kernel
theorem dm_enter_127 : decode km_enter 127 = .ok (.iload 4, 2) := by decide +kernel
theorem dm_enter_129 : decode km_enter 129 = .ok (.lload_n 2, 1) := by decide +kernel
theorem dm_enter_130 : decode km_enter 130 = .ok (.lastore, 1) := by decide +kernel
theorem dm_enter_131 : decode km_enter 131 = .ok (.return_, 1) := by decide +kernel
theorem dm_remove_0 : decode km_remove 0 = .ok (.iconst 0, 1) := by decide +kernel
theorem dm_remove_1 : decode km_remove 1 = .ok (.istore_n 2, 1) := by decide +kernel
theorem dm_remove_2 : decode km_remove 2 = .ok (.iconst 0, 1) := by decide +kernel
theorem dm_remove_3 : decode km_remove 3 = .ok (.istore_n 3, 1) := by decide +kernel
theorem dm_remove_4 : decode km_remove 4 = .ok (.iload_n 3, 1) := by decide +kernel
theorem dm_remove_5 : decode km_remove 5 = .ok (.aload_n 0, 1) := by decide +kernel
theorem dm_remove_6 : decode km_remove 6 = .ok (.getfield 105, 3) := by decide +kernel
theorem dm_remove_9 : decode km_remove 9 = .ok (.if_icmp .ge 48, 3) := by decide +kernel
theorem dm_remove_12 : decode km_remove 12 = .ok (.aload_n 0, 1) := by decide +kernel
theorem dm_remove_13 : decode km_remove 13 = .ok (.getfield 20, 3) := by decide +kernel
theorem dm_remove_16 : decode km_remove 16 = .ok (.iload_n 3, 1) := by decide +kernel
theorem dm_remove_17 : decode km_remove 17 = .ok (.laload, 1) := by decide +kernel
theorem dm_remove_18 : decode km_remove 18 = .ok (.iload_n 1, 1) := by decide +kernel
theorem dm_remove_19 : decode km_remove 19 = .ok (.i2l, 1) := by decide +kernel
theorem dm_remove_20 : decode km_remove 20 = .ok (.lcmp, 1) := by decide +kernel
theorem dm_remove_21 : decode km_remove 21 = .ok (.ifCond .eq 30, 3) := by decide +kernel
theorem dm_remove_24 : decode km_remove 24 = .ok (.aload_n 0, 1) := by decide +kernel
theorem dm_remove_25 : decode km_remove 25 = .ok (.getfield 20, 3) := by decide +kernel
theorem dm_remove_28 : decode km_remove 28 = .ok (.iload_n 2, 1) := by decide +kernel
theorem dm_remove_29 : decode km_remove 29 = .ok (.aload_n 0, 1) := by decide +kernel
theorem dm_remove_30 : decode km_remove 30 = .ok (.getfield 20, 3) := by decide +kernel
theorem dm_remove_33 : decode km_remove 33 = .ok (.iload_n 3, 1) := by decide +kernel
theorem dm_remove_34 : decode km_remove 34 = .ok (.laload, 1) := by decide +kernel
theorem dm_remove_35 : decode km_remove 35 = .ok (.lastore, 1) := by decide +kernel
theorem dm_remove_36 : decode km_remove 36 = .ok (.aload_n 0, 1) := by decide +kernel
theorem dm_remove_37 : decode km_remove 37 = .ok (.getfield 23, 3) := by decide +kernel
theorem dm_remove_40 : decode km_remove 40 = .ok (.iload_n 2, 1) := by decide +kernel
theorem dm_remove_41 : decode km_remove 41 = .ok (.aload_n 0, 1) := by decide +kernel
theorem dm_remove_42 : decode km_remove 42 = .ok (.getfield 23, 3) := by decide +kernel
theorem dm_remove_45 : decode km_remove 45 = .ok (.iload_n 3, 1) := by decide +kernel
theorem dm_remove_46 : decode km_remove 46 = .ok (.laload, 1) := by decide +kernel
theorem dm_remove_47 : decode km_remove 47 = .ok (.lastore, 1) := by decide +kernel
theorem dm_remove_48 : decode km_remove 48 = .ok (.iinc 2 1, 3) := by decide +kernel
theorem dm_remove_51 : decode km_remove 51 = .ok (.iinc 3 1, 3) := by decide +kernel
theorem dm_remove_54 : decode km_remove 54 = .ok (.goto (-50), 3) := by decide +kernel
theorem dm_remove_57 : decode km_remove 57 = .ok (.aload_n 0, 1) := by decide +kernel
theorem dm_remove_58 : decode km_remove 58 = .ok (.iload_n 2, 1) := by decide +kernel
theorem dm_remove_59 : decode km_remove 59 = .ok (.putfield 105, 3) := by decide +kernel
theorem dm_remove_62 : decode km_remove 62 = .ok (.return_, 1) := by decide +kernel
theorem dm_nextFree_0 : decode km_nextFree 0 = .ok (.iconst (-1), 1) := by decide +kernel
theorem dm_nextFree_1 : decode km_nextFree 1 = .ok (.istore_n 1, 1) := by decide +kernel
theorem dm_nextFree_2 : decode km_nextFree 2 = .ok (.aload_n 0, 1) := by decide +kernel
theorem dm_nextFree_3 : decode km_nextFree 3 = .ok (.getfield 33, 3) := by decide +kernel
theorem dm_nextFree_6 : decode km_nextFree 6 = .ok (.iconst 1, 1) := by decide +kernel
theorem dm_nextFree_7 : decode km_nextFree 7 = .ok (.isub, 1) := by decide +kernel
theorem dm_nextFree_8 : decode km_nextFree 8 = .ok (.istore_n 2, 1) := by decide +kernel
theorem dm_nextFree_9 : decode km_nextFree 9 = .ok (.iload_n 2, 1) := by decide +kernel
theorem dm_nextFree_10 : decode km_nextFree 10 = .ok (.ifCond .lt 32, 3) := by decide +kernel
theorem dm_nextFree_13 : decode km_nextFree 13 = .ok (.aload_n 0, 1) := by decide +kernel
theorem dm_nextFree_14 : decode km_nextFree 14 = .ok (.iload_n 2, 1) := by decide +kernel
theorem dm_nextFree_15 : decode km_nextFree 15 = .ok (.invokevirtual 102, 3) := by decide +kernel
theorem dm_nextFree_18 : decode km_nextFree 18 = .ok (.ifCond .eq 16, 3) := by decide +kernel
theorem dm_nextFree_21 : decode km_nextFree 21 = .ok (.aload_n 0, 1) := by decide +kernel
theorem dm_nextFree_22 : decode km_nextFree 22 = .ok (.getfield 29, 3) := by decide +kernel
theorem dm_nextFree_25 : decode km_nextFree 25 = .ok (.iload_n 2, 1) := by decide +kernel
theorem dm_nextFree_26 : decode km_nextFree 26 = .ok (.baload, 1) := by decide +kernel
theorem dm_nextFree_27 : decode km_nextFree 27 = .ok (.ifCond .ne 7, 3) := by decide +kernel
theorem dm_nextFree_30 : decode km_nextFree 30 = .ok (.iload_n 2, 1) := by decide +kernel
theorem dm_nextFree_31 : decode km_nextFree 31 = .ok (.goto 4, 3) := by decide +kernel
theorem dm_nextFree_34 : decode km_nextFree 34 = .ok (.iload_n 1, 1) := by decide +kernel
theorem dm_nextFree_35 : decode km_nextFree 35 = .ok (.istore_n 1, 1) := by decide +kernel
theorem dm_nextFree_36 : decode km_nextFree 36 = .ok (.iinc 2 (-1), 3) := by decide +kernel
theorem dm_nextFree_39 : decode km_nextFree 39 = .ok (.goto (-30), 3) := by decide +kernel
theorem dm_nextFree_42 : decode km_nextFree 42 = .ok (.iload_n 1, 1) := by decide +kernel
theorem dm_nextFree_43 : decode km_nextFree 43 = .ok (.ireturn, 1) := by decide +kernel
theorem dm_act_0 : decode km_act 0 = .ok (.aload_n 0, 1) := by decide +kernel
theorem dm_act_1 : decode km_act 1 = .ok (.getfield 105, 3) := by decide +kernel
theorem dm_act_4 : decode km_act 4 = .ok (.ifCond .ne 7, 3) := by decide +kernel
theorem dm_act_7 : decode km_act 7 = .ok (.iconst 0, 1) := by decide +kernel
theorem dm_act_8 : decode km_act 8 = .ok (.goto 17, 3) := by decide +kernel
theorem dm_act_11 : decode km_act 11 = .ok (.aload_n 0, 1) := by decide +kernel
theorem dm_act_12 : decode km_act 12 = .ok (.getfield 105, 3) := by decide +kernel
theorem dm_act_15 : decode km_act 15 = .ok (.bipush 8, 2) := by decide +kernel
theorem dm_act_17 : decode km_act 17 = .ok (.if_icmp .ne 7, 3) := by decide +kernel
theorem dm_act_20 : decode km_act 20 = .ok (.iconst 2, 1) := by decide +kernel
theorem dm_act_21 : decode km_act 21 = .ok (.goto 4, 3) := by decide +kernel
theorem dm_act_24 : decode km_act 24 = .ok (.iconst 1, 1) := by decide +kernel
theorem dm_act_25 : decode km_act 25 = .ok (.istore_n 3, 1) := by decide +kernel
theorem dm_act_26 : decode km_act 26 = .ok (.aload_n 0, 1) := by decide +kernel
theorem dm_act_27 : decode km_act 27 = .ok (.aload_n 0, 1) := by decide +kernel
theorem dm_act_28 : decode km_act 28 = .ok (.getfield 68, 3) := by decide +kernel
theorem dm_act_31 : decode km_act 31 = .ok (.invokevirtual 99, 3) := by decide +kernel
theorem dm_act_34 : decode km_act 34 = .ok (.istore 4, 2) := by decide +kernel
theorem dm_act_36 : decode km_act 36 = .ok (.iconst 0, 1) := by decide +kernel
theorem dm_act_37 : decode km_act 37 = .ok (.istore 5, 2) := by decide +kernel
theorem dm_act_39 : decode km_act 39 = .ok (.iload 5, 2) := by decide +kernel
theorem dm_act_41 : decode km_act 41 = .ok (.bipush 64, 2) := by decide +kernel
theorem dm_act_43 : decode km_act 43 = .ok (.if_icmp .ge 17, 3) := by decide +kernel
theorem dm_act_46 : decode km_act 46 = .ok (.aload_n 0, 1) := by decide +kernel
theorem dm_act_47 : decode km_act 47 = .ok (.getfield 29, 3) := by decide +kernel
theorem dm_act_50 : decode km_act 50 = .ok (.iload 5, 2) := by decide +kernel
theorem dm_act_52 : decode km_act 52 = .ok (.iconst 0, 1) := by decide +kernel
theorem dm_act_53 : decode km_act 53 = .ok (.bastore, 1) := by decide +kernel
theorem dm_act_54 : decode km_act 54 = .ok (.iinc 5 1, 3) := by decide +kernel
theorem dm_act_57 : decode km_act 57 = .ok (.goto (-18), 3) := by decide +kernel
theorem dm_act_60 : decode km_act 60 = .ok (.aload_n 0, 1) := by decide +kernel
theorem dm_act_61 : decode km_act 61 = .ok (.iconst 0, 1) := by decide +kernel
theorem dm_act_62 : decode km_act 62 = .ok (.putfield 108, 3) := by decide +kernel
theorem dm_act_65 : decode km_act 65 = .ok (.iconst 0, 1) := by decide +kernel
theorem dm_act_66 : decode km_act 66 = .ok (.istore 5, 2) := by decide +kernel
theorem dm_act_68 : decode km_act 68 = .ok (.iload 5, 2) := by decide +kernel
theorem dm_act_70 : decode km_act 70 = .ok (.iload_n 1, 1) := by decide +kernel
theorem dm_act_71 : decode km_act 71 = .ok (.if_icmp .ge 38, 3) := by decide +kernel
theorem dm_act_74 : decode km_act 74 = .ok (.aload_n 0, 1) := by decide +kernel
theorem dm_act_75 : decode km_act 75 = .ok (.getfield 26, 3) := by decide +kernel
theorem dm_act_78 : decode km_act 78 = .ok (.aload_n 0, 1) := by decide +kernel
theorem dm_act_79 : decode km_act 79 = .ok (.getfield 108, 3) := by decide +kernel
theorem dm_act_82 : decode km_act 82 = .ok (.aload_n 0, 1) := by decide +kernel
theorem dm_act_83 : decode km_act 83 = .ok (.aload_n 0, 1) := by decide +kernel
theorem dm_act_84 : decode km_act 84 = .ok (.getfield 68, 3) := by decide +kernel
theorem dm_act_87 : decode km_act 87 = .ok (.iload 5, 2) := by decide +kernel
theorem dm_act_89 : decode km_act 89 = .ok (.invokevirtual 74, 3) := by decide +kernel
theorem dm_act_92 : decode km_act 92 = .ok (.iastore, 1) := by decide +kernel
theorem dm_act_93 : decode km_act 93 = .ok (.aload_n 0, 1) := by decide +kernel
theorem dm_act_94 : decode km_act 94 = .ok (.dup, 1) := by decide +kernel
theorem dm_act_95 : decode km_act 95 = .ok (.getfield 108, 3) := by decide +kernel
theorem dm_act_98 : decode km_act 98 = .ok (.iconst 1, 1) := by decide +kernel
theorem dm_act_99 : decode km_act 99 = .ok (.iadd, 1) := by decide +kernel
theorem dm_act_100 : decode km_act 100 = .ok (.putfield 108, 3) := by decide +kernel
theorem dm_act_103 : decode km_act 103 = .ok (.iinc 5 1, 3) := by decide +kernel
theorem dm_act_106 : decode km_act 106 = .ok (.goto (-38), 3) := by decide +kernel
theorem dm_act_109 : decode km_act 109 = .ok (.aload_n 0, 1) := by decide +kernel
theorem dm_act_110 : decode km_act 110 = .ok (.getfield 108, 3) := by decide +kernel
theorem dm_act_113 : decode km_act 113 = .ok (.istore 5, 2) := by decide +kernel
theorem dm_act_115 : decode km_act 115 = .ok (.iconst 0, 1) := by decide +kernel
theorem dm_act_116 : decode km_act 116 = .ok (.istore 6, 2) := by decide +kernel
theorem dm_act_118 : decode km_act 118 = .ok (.iload 6, 2) := by decide +kernel
theorem dm_act_120 : decode km_act 120 = .ok (.iload_n 3, 1) := by decide +kernel
theorem dm_act_121 : decode km_act 121 = .ok (.if_icmp .ge 52, 3) := by decide +kernel
theorem dm_act_124 : decode km_act 124 = .ok (.aload_n 0, 1) := by decide +kernel
theorem dm_act_125 : decode km_act 125 = .ok (.invokevirtual 111, 3) := by decide +kernel
theorem dm_act_128 : decode km_act 128 = .ok (.istore 7, 2) := by decide +kernel
theorem dm_act_130 : decode km_act 130 = .ok (.iload 7, 2) := by decide +kernel
theorem dm_act_132 : decode km_act 132 = .ok (.iconst (-1), 1) := by decide +kernel
theorem dm_act_133 : decode km_act 133 = .ok (.if_icmp .ne 5, 3) := by decide +kernel
theorem dm_act_136 : decode km_act 136 = .ok (.iconst 0, 1) := by decide +kernel
theorem dm_act_137 : decode km_act 137 = .ok (.ireturn, 1) := by decide +kernel
theorem dm_act_138 : decode km_act 138 = .ok (.aload_n 0, 1) := by decide +kernel
theorem dm_act_139 : decode km_act 139 = .ok (.getfield 29, 3) := by decide +kernel
theorem dm_act_142 : decode km_act 142 = .ok (.iload 7, 2) := by decide +kernel
theorem dm_act_144 : decode km_act 144 = .ok (.iconst 1, 1) := by decide +kernel
theorem dm_act_145 : decode km_act 145 = .ok (.bastore, 1) := by decide +kernel
theorem dm_act_146 : decode km_act 146 = .ok (.aload_n 0, 1) := by decide +kernel
theorem dm_act_147 : decode km_act 147 = .ok (.getfield 26, 3) := by decide +kernel
theorem dm_act_150 : decode km_act 150 = .ok (.aload_n 0, 1) := by decide +kernel
theorem dm_act_151 : decode km_act 151 = .ok (.getfield 108, 3) := by decide +kernel
theorem dm_act_154 : decode km_act 154 = .ok (.iload 7, 2) := by decide +kernel
theorem dm_act_156 : decode km_act 156 = .ok (.iastore, 1) := by decide +kernel
theorem dm_act_157 : decode km_act 157 = .ok (.aload_n 0, 1) := by decide +kernel
theorem dm_act_158 : decode km_act 158 = .ok (.dup, 1) := by decide +kernel
theorem dm_act_159 : decode km_act 159 = .ok (.getfield 108, 3) := by decide +kernel
theorem dm_act_162 : decode km_act 162 = .ok (.iconst 1, 1) := by decide +kernel
theorem dm_act_163 : decode km_act 163 = .ok (.iadd, 1) := by decide +kernel
theorem dm_act_164 : decode km_act 164 = .ok (.putfield 108, 3) := by decide +kernel
theorem dm_act_167 : decode km_act 167 = .ok (.iinc 6 1, 3) := by decide +kernel
theorem dm_act_170 : decode km_act 170 = .ok (.goto (-52), 3) := by decide +kernel
theorem dm_act_173 : decode km_act 173 = .ok (.iload_n 1, 1) := by decide +kernel
theorem dm_act_174 : decode km_act 174 = .ok (.iconst 1, 1) := by decide +kernel
theorem dm_act_175 : decode km_act 175 = .ok (.iadd, 1) := by decide +kernel
theorem dm_act_176 : decode km_act 176 = .ok (.istore 6, 2) := by decide +kernel
theorem dm_act_178 : decode km_act 178 = .ok (.iload 6, 2) := by decide +kernel
theorem dm_act_180 : decode km_act 180 = .ok (.iload 4, 2) := by decide +kernel
theorem dm_act_182 : decode km_act 182 = .ok (.if_icmp .ge 38, 3) := by decide +kernel
theorem dm_act_185 : decode km_act 185 = .ok (.aload_n 0, 1) := by decide +kernel
theorem dm_act_186 : decode km_act 186 = .ok (.getfield 26, 3) := by decide +kernel
theorem dm_act_189 : decode km_act 189 = .ok (.aload_n 0, 1) := by decide +kernel
theorem dm_act_190 : decode km_act 190 = .ok (.getfield 108, 3) := by decide +kernel
theorem dm_act_193 : decode km_act 193 = .ok (.aload_n 0, 1) := by decide +kernel
theorem dm_act_194 : decode km_act 194 = .ok (.aload_n 0, 1) := by decide +kernel
theorem dm_act_195 : decode km_act 195 = .ok (.getfield 68, 3) := by decide +kernel
theorem dm_act_198 : decode km_act 198 = .ok (.iload 6, 2) := by decide +kernel
theorem dm_act_200 : decode km_act 200 = .ok (.invokevirtual 74, 3) := by decide +kernel
theorem dm_act_203 : decode km_act 203 = .ok (.iastore, 1) := by decide +kernel
theorem dm_act_204 : decode km_act 204 = .ok (.aload_n 0, 1) := by decide +kernel
theorem dm_act_205 : decode km_act 205 = .ok (.dup, 1) := by decide +kernel
theorem dm_act_206 : decode km_act 206 = .ok (.getfield 108, 3) := by decide +kernel
theorem dm_act_209 : decode km_act 209 = .ok (.iconst 1, 1) := by decide +kernel
theorem dm_act_210 : decode km_act 210 = .ok (.iadd, 1) := by decide +kernel
theorem dm_act_211 : decode km_act 211 = .ok (.putfield 108, 3) := by decide +kernel
theorem dm_act_214 : decode km_act 214 = .ok (.iinc 6 1, 3) := by decide +kernel
theorem dm_act_217 : decode km_act 217 = .ok (.goto (-39), 3) := by decide +kernel
theorem dm_act_220 : decode km_act 220 = .ok (.aload_n 0, 1) := by decide +kernel
theorem dm_act_221 : decode km_act 221 = .ok (.getfield 108, 3) := by decide +kernel
theorem dm_act_224 : decode km_act 224 = .ok (.bipush 16, 2) := by decide +kernel
theorem dm_act_226 : decode km_act 226 = .ok (.if_icmp .le 5, 3) := by decide +kernel
theorem dm_act_229 : decode km_act 229 = .ok (.iconst 0, 1) := by decide +kernel
theorem dm_act_230 : decode km_act 230 = .ok (.ireturn, 1) := by decide +kernel
theorem dm_act_231 : decode km_act 231 = .ok (.aload_n 0, 1) := by decide +kernel
theorem dm_act_232 : decode km_act 232 = .ok (.aload_n 0, 1) := by decide +kernel
theorem dm_act_233 : decode km_act 233 = .ok (.getfield 68, 3) := by decide +kernel
theorem dm_act_236 : decode km_act 236 = .ok (.invokevirtual 78, 3) := by decide +kernel
theorem dm_act_239 : decode km_act 239 = .ok (.iload_n 2, 1) := by decide +kernel
theorem dm_act_240 : decode km_act 240 = .ok (.iadd, 1) := by decide +kernel
theorem dm_act_241 : decode km_act 241 = .ok (.i2l, 1) := by decide +kernel
theorem dm_act_242 : decode km_act 242 = .ok (.lstore 6, 2) := by decide +kernel
theorem dm_act_244 : decode km_act 244 = .ok (.aload_n 0, 1) := by decide +kernel
theorem dm_act_245 : decode km_act 245 = .ok (.iconst 0, 1) := by decide +kernel
theorem dm_act_246 : decode km_act 246 = .ok (.putfield 41, 3) := by decide +kernel
theorem dm_act_249 : decode km_act 249 = .ok (.iconst 0, 1) := by decide +kernel
theorem dm_act_250 : decode km_act 250 = .ok (.istore 8, 2) := by decide +kernel
theorem dm_act_252 : decode km_act 252 = .ok (.iload 8, 2) := by decide +kernel
theorem dm_act_254 : decode km_act 254 = .ok (.iload_n 3, 1) := by decide +kernel
theorem dm_act_255 : decode km_act 255 = .ok (.if_icmp .ge 65, 3) := by decide +kernel
theorem dm_act_258 : decode km_act 258 = .ok (.aload_n 0, 1) := by decide +kernel
theorem dm_act_259 : decode km_act 259 = .ok (.getfield 105, 3) := by decide +kernel
theorem dm_act_262 : decode km_act 262 = .ok (.bipush 8, 2) := by decide +kernel
theorem dm_act_264 : decode km_act 264 = .ok (.if_icmp .ne 10, 3) := by decide +kernel
theorem dm_act_267 : decode km_act 267 = .ok (.iconst 4, 1) := by decide +kernel
theorem dm_act_268 : decode km_act 268 = .ok (.iload 8, 2) := by decide +kernel
theorem dm_act_270 : decode km_act 270 = .ok (.imul, 1) := by decide +kernel
theorem dm_act_271 : decode km_act 271 = .ok (.goto 4, 3) := by decide +kernel
theorem dm_act_274 : decode km_act 274 = .ok (.iconst 0, 1) := by decide +kernel
theorem dm_act_275 : decode km_act 275 = .ok (.istore 9, 2) := by decide +kernel
theorem dm_act_277 : decode km_act 277 = .ok (.aload_n 0, 1) := by decide +kernel
theorem dm_act_278 : decode km_act 278 = .ok (.getfield 105, 3) := by decide +kernel
theorem dm_act_281 : decode km_act 281 = .ok (.bipush 8, 2) := by decide +kernel
theorem dm_act_283 : decode km_act 283 = .ok (.if_icmp .ne 7, 3) := by decide +kernel
theorem dm_act_286 : decode km_act 286 = .ok (.iconst 4, 1) := by decide +kernel
theorem dm_act_287 : decode km_act 287 = .ok (.goto 7, 3) := by decide +kernel
theorem dm_act_290 : decode km_act 290 = .ok (.aload_n 0, 1) := by decide +kernel
theorem dm_act_291 : decode km_act 291 = .ok (.getfield 105, 3) := by decide +kernel
theorem dm_act_294 : decode km_act 294 = .ok (.istore 10, 2) := by decide +kernel
theorem dm_act_296 : decode km_act 296 = .ok (.aload_n 0, 1) := by decide +kernel
theorem dm_act_297 : decode km_act 297 = .ok (.aload_n 0, 1) := by decide +kernel
theorem dm_act_298 : decode km_act 298 = .ok (.getfield 26, 3) := by decide +kernel
theorem dm_act_301 : decode km_act 301 = .ok (.iload 5, 2) := by decide +kernel
theorem dm_act_303 : decode km_act 303 = .ok (.iload 8, 2) := by decide +kernel
theorem dm_act_305 : decode km_act 305 = .ok (.iadd, 1) := by decide +kernel
theorem dm_act_306 : decode km_act 306 = .ok (.iaload, 1) := by decide +kernel
theorem dm_act_307 : decode km_act 307 = .ok (.iload 9, 2) := by decide +kernel
theorem dm_act_309 : decode km_act 309 = .ok (.iload 10, 2) := by decide +kernel
theorem dm_act_311 : decode km_act 311 = .ok (.invokevirtual 115, 3) := by decide +kernel
theorem dm_act_314 : decode km_act 314 = .ok (.iinc 8 1, 3) := by decide +kernel
theorem dm_act_317 : decode km_act 317 = .ok (.goto (-65), 3) := by decide +kernel
theorem dm_act_320 : decode km_act 320 = .ok (.aload_n 0, 1) := by decide +kernel
theorem dm_act_321 : decode km_act 321 = .ok (.aload_n 0, 1) := by decide +kernel
theorem dm_act_322 : decode km_act 322 = .ok (.getfield 68, 3) := by decide +kernel
theorem dm_act_325 : decode km_act 325 = .ok (.iconst 1, 1) := by decide +kernel
theorem dm_act_326 : decode km_act 326 = .ok (.iadd, 1) := by decide +kernel
theorem dm_act_327 : decode km_act 327 = .ok (.lload 6, 2) := by decide +kernel
theorem dm_act_329 : decode km_act 329 = .ok (.invokevirtual 119, 3) := by decide +kernel
theorem dm_act_332 : decode km_act 332 = .ok (.aload_n 0, 1) := by decide +kernel
theorem dm_act_333 : decode km_act 333 = .ok (.dup, 1) := by decide +kernel
theorem dm_act_334 : decode km_act 334 = .ok (.getfield 68, 3) := by decide +kernel
theorem dm_act_337 : decode km_act 337 = .ok (.iconst 1, 1) := by decide +kernel
theorem dm_act_338 : decode km_act 338 = .ok (.iadd, 1) := by decide +kernel
theorem dm_act_339 : decode km_act 339 = .ok (.putfield 68, 3) := by decide +kernel
theorem dm_act_342 : decode km_act 342 = .ok (.aload_n 0, 1) := by decide +kernel
theorem dm_act_343 : decode km_act 343 = .ok (.iconst 0, 1) := by decide +kernel
theorem dm_act_344 : decode km_act 344 = .ok (.putfield 123, 3) := by decide +kernel
theorem dm_act_347 : decode km_act 347 = .ok (.iconst 1, 1) := by decide +kernel
theorem dm_act_348 : decode km_act 348 = .ok (.ireturn, 1) := by decide +kernel
theorem dm_writeLeaf_0 : decode km_writeLeaf 0 = .ok (.bipush 16, 2) := by decide +kernel
theorem dm_writeLeaf_2 : decode km_writeLeaf 2 = .ok (.iload_n 1, 1) := by decide +kernel
theorem dm_writeLeaf_3 : decode km_writeLeaf 3 = .ok (.imul, 1) := by decide +kernel
theorem dm_writeLeaf_4 : decode km_writeLeaf 4 = .ok (.istore 4, 2) := by decide +kernel
theorem dm_writeLeaf_6 : decode km_writeLeaf 6 = .ok (.aload_n 0, 1) := by decide +kernel
theorem dm_writeLeaf_7 : decode km_writeLeaf 7 = .ok (.iload 4, 2) := by decide +kernel
theorem dm_writeLeaf_9 : decode km_writeLeaf 9 = .ok (.iload_n 3, 1) := by decide +kernel
theorem dm_writeLeaf_10 : decode km_writeLeaf 10 = .ok (.i2l, 1) := by decide +kernel
theorem dm_writeLeaf_11 : decode km_writeLeaf 11 = .ok (.invokevirtual 126, 3) := by decide +kernel
theorem dm_writeLeaf_14 : decode km_writeLeaf 14 = .ok (.iconst 0, 1) := by decide +kernel
theorem dm_writeLeaf_15 : decode km_writeLeaf 15 = .ok (.istore 5, 2) := by decide +kernel
theorem dm_writeLeaf_17 : decode km_writeLeaf 17 = .ok (.iload 5, 2) := by decide +kernel
theorem dm_writeLeaf_19 : decode km_writeLeaf 19 = .ok (.bipush 7, 2) := by decide +kernel
theorem dm_writeLeaf_21 : decode km_writeLeaf 21 = .ok (.if_icmp .ge 73, 3) := by decide +kernel
theorem dm_writeLeaf_24 : decode km_writeLeaf 24 = .ok (.aload_n 0, 1) := by decide +kernel
theorem dm_writeLeaf_25 : decode km_writeLeaf 25 = .ok (.iload 4, 2) := by decide +kernel
theorem dm_writeLeaf_27 : decode km_writeLeaf 27 = .ok (.iconst 1, 1) := by decide +kernel
theorem dm_writeLeaf_28 : decode km_writeLeaf 28 = .ok (.iadd, 1) := by decide +kernel
theorem dm_writeLeaf_29 : decode km_writeLeaf 29 = .ok (.iconst 2, 1) := by decide +kernel
theorem dm_writeLeaf_30 : decode km_writeLeaf 30 = .ok (.iload 5, 2) := by decide +kernel
theorem dm_writeLeaf_32 : decode km_writeLeaf 32 = .ok (.imul, 1) := by decide +kernel
theorem dm_writeLeaf_33 : decode km_writeLeaf 33 = .ok (.iadd, 1) := by decide +kernel
theorem dm_writeLeaf_34 : decode km_writeLeaf 34 = .ok (.iload 5, 2) := by decide +kernel
theorem dm_writeLeaf_36 : decode km_writeLeaf 36 = .ok (.iload_n 3, 1) := by decide +kernel
theorem dm_writeLeaf_37 : decode km_writeLeaf 37 = .ok (.if_icmp .ge 15, 3) := by decide +kernel
theorem dm_writeLeaf_40 : decode km_writeLeaf 40 = .ok (.aload_n 0, 1) := by decide +kernel
theorem dm_writeLeaf_41 : decode km_writeLeaf 41 = .ok (.getfield 20, 3) := by decide +kernel
theorem dm_writeLeaf_44 : decode km_writeLeaf 44 = .ok (.iload_n 2, 1) := by decide +kernel
theorem dm_writeLeaf_45 : decode km_writeLeaf 45 = .ok (.iload 5, 2) := by decide +kernel
theorem dm_writeLeaf_47 : decode km_writeLeaf 47 = .ok (.iadd, 1) := by decide +kernel
theorem dm_writeLeaf_48 : decode km_writeLeaf 48 = .ok (.laload, 1) := by decide +kernel
theorem dm_writeLeaf_49 : decode km_writeLeaf 49 = .ok (.goto 4, 3) := by decide +kernel
theorem dm_writeLeaf_52 : decode km_writeLeaf 52 = .ok (.lconst 0, 1) := by decide +kernel
theorem dm_writeLeaf_53 : decode km_writeLeaf 53 = .ok (.invokevirtual 126, 3) := by decide +kernel
theorem dm_writeLeaf_56 : decode km_writeLeaf 56 = .ok (.aload_n 0, 1) := by decide +kernel
theorem dm_writeLeaf_57 : decode km_writeLeaf 57 = .ok (.iload 4, 2) := by decide +kernel
theorem dm_writeLeaf_59 : decode km_writeLeaf 59 = .ok (.iconst 2, 1) := by decide +kernel
theorem dm_writeLeaf_60 : decode km_writeLeaf 60 = .ok (.iadd, 1) := by decide +kernel
theorem dm_writeLeaf_61 : decode km_writeLeaf 61 = .ok (.iconst 2, 1) := by decide +kernel
theorem dm_writeLeaf_62 : decode km_writeLeaf 62 = .ok (.iload 5, 2) := by decide +kernel
theorem dm_writeLeaf_64 : decode km_writeLeaf 64 = .ok (.imul, 1) := by decide +kernel
theorem dm_writeLeaf_65 : decode km_writeLeaf 65 = .ok (.iadd, 1) := by decide +kernel
theorem dm_writeLeaf_66 : decode km_writeLeaf 66 = .ok (.iload 5, 2) := by decide +kernel
theorem dm_writeLeaf_68 : decode km_writeLeaf 68 = .ok (.iload_n 3, 1) := by decide +kernel
theorem dm_writeLeaf_69 : decode km_writeLeaf 69 = .ok (.if_icmp .ge 15, 3) := by decide +kernel
theorem dm_writeLeaf_72 : decode km_writeLeaf 72 = .ok (.aload_n 0, 1) := by decide +kernel
theorem dm_writeLeaf_73 : decode km_writeLeaf 73 = .ok (.getfield 23, 3) := by decide +kernel
theorem dm_writeLeaf_76 : decode km_writeLeaf 76 = .ok (.iload_n 2, 1) := by decide +kernel
theorem dm_writeLeaf_77 : decode km_writeLeaf 77 = .ok (.iload 5, 2) := by decide +kernel
theorem dm_writeLeaf_79 : decode km_writeLeaf 79 = .ok (.iadd, 1) := by decide +kernel
theorem dm_writeLeaf_80 : decode km_writeLeaf 80 = .ok (.laload, 1) := by decide +kernel
theorem dm_writeLeaf_81 : decode km_writeLeaf 81 = .ok (.goto 4, 3) := by decide +kernel
theorem dm_writeLeaf_84 : decode km_writeLeaf 84 = .ok (.lconst 0, 1) := by decide +kernel
theorem dm_writeLeaf_85 : decode km_writeLeaf 85 = .ok (.invokevirtual 126, 3) := by decide +kernel
theorem dm_writeLeaf_88 : decode km_writeLeaf 88 = .ok (.iinc 5 1, 3) := by decide +kernel
theorem dm_writeLeaf_91 : decode km_writeLeaf 91 = .ok (.goto (-74), 3) := by decide +kernel
theorem dm_writeLeaf_94 : decode km_writeLeaf 94 = .ok (.aload_n 0, 1) := by decide +kernel
theorem dm_writeLeaf_95 : decode km_writeLeaf 95 = .ok (.iload 4, 2) := by decide +kernel
theorem dm_writeLeaf_97 : decode km_writeLeaf 97 = .ok (.bipush 15, 2) := by decide +kernel
theorem dm_writeLeaf_99 : decode km_writeLeaf 99 = .ok (.iadd, 1) := by decide +kernel
theorem dm_writeLeaf_100 : decode km_writeLeaf 100 = .ok (.aload_n 0, 1) := by decide +kernel
theorem dm_writeLeaf_101 : decode km_writeLeaf 101 = .ok (.iload 4, 2) := by decide +kernel
theorem dm_writeLeaf_103 : decode km_writeLeaf 103 = .ok (.bipush 15, 2) := by decide +kernel
theorem dm_writeLeaf_105 : decode km_writeLeaf 105 = .ok (.invokevirtual 37, 3) := by decide +kernel
theorem dm_writeLeaf_108 : decode km_writeLeaf 108 = .ok (.invokevirtual 126, 3) := by decide +kernel
theorem dm_writeLeaf_111 : decode km_writeLeaf 111 = .ok (.return_, 1) := by decide +kernel
theorem dm_writeRoot_0 : decode km_writeRoot 0 = .ok (.sipush 1024, 3) := by decide +kernel
theorem dm_writeRoot_3 : decode km_writeRoot 3 = .ok (.bipush 20, 2) := by decide +kernel
theorem dm_writeRoot_5 : decode km_writeRoot 5 = .ok (.iload_n 1, 1) := by decide +kernel
theorem dm_writeRoot_6 : decode km_writeRoot 6 = .ok (.bipush 8, 2) := by decide +kernel
theorem dm_writeRoot_8 : decode km_writeRoot 8 = .ok (.irem, 1) := by decide +kernel
theorem dm_writeRoot_9 : decode km_writeRoot 9 = .ok (.imul, 1) := by decide +kernel
theorem dm_writeRoot_10 : decode km_writeRoot 10 = .ok (.iadd, 1) := by decide +kernel
theorem dm_writeRoot_11 : decode km_writeRoot 11 = .ok (.istore 4, 2) := by decide +kernel
theorem dm_writeRoot_13 : decode km_writeRoot 13 = .ok (.aload_n 0, 1) := by decide +kernel
theorem dm_writeRoot_14 : decode km_writeRoot 14 = .ok (.iload 4, 2) := by decide +kernel
theorem dm_writeRoot_16 : decode km_writeRoot 16 = .ok (.iload_n 1, 1) := by decide +kernel
theorem dm_writeRoot_17 : decode km_writeRoot 17 = .ok (.i2l, 1) := by decide +kernel
theorem dm_writeRoot_18 : decode km_writeRoot 18 = .ok (.invokevirtual 126, 3) := by decide +kernel
theorem dm_writeRoot_21 : decode km_writeRoot 21 = .ok (.aload_n 0, 1) := by decide +kernel
theorem dm_writeRoot_22 : decode km_writeRoot 22 = .ok (.iload 4, 2) := by decide +kernel
theorem dm_writeRoot_24 : decode km_writeRoot 24 = .ok (.iconst 1, 1) := by decide +kernel
theorem dm_writeRoot_25 : decode km_writeRoot 25 = .ok (.iadd, 1) := by decide +kernel
theorem dm_writeRoot_26 : decode km_writeRoot 26 = .ok (.aload_n 0, 1) := by decide +kernel
theorem dm_writeRoot_27 : decode km_writeRoot 27 = .ok (.getfield 108, 3) := by decide +kernel
theorem dm_writeRoot_30 : decode km_writeRoot 30 = .ok (.i2l, 1) := by decide +kernel
theorem dm_writeRoot_31 : decode km_writeRoot 31 = .ok (.invokevirtual 126, 3) := by decide +kernel
theorem dm_writeRoot_34 : decode km_writeRoot 34 = .ok (.iconst 0, 1) := by decide +kernel
theorem dm_writeRoot_35 : decode km_writeRoot 35 = .ok (.istore 5, 2) := by decide +kernel
theorem dm_writeRoot_37 : decode km_writeRoot 37 = .ok (.iload 5, 2) := by decide +kernel
theorem dm_writeRoot_39 : decode km_writeRoot 39 = .ok (.bipush 16, 2) := by decide +kernel
theorem dm_writeRoot_41 : decode km_writeRoot 41 = .ok (.if_icmp .ge 41, 3) := by decide +kernel
theorem dm_writeRoot_44 : decode km_writeRoot 44 = .ok (.aload_n 0, 1) := by decide +kernel
theorem dm_writeRoot_45 : decode km_writeRoot 45 = .ok (.iload 4, 2) := by decide +kernel
theorem dm_writeRoot_47 : decode km_writeRoot 47 = .ok (.iconst 2, 1) := by decide +kernel
theorem dm_writeRoot_48 : decode km_writeRoot 48 = .ok (.iadd, 1) := by decide +kernel
theorem dm_writeRoot_49 : decode km_writeRoot 49 = .ok (.iload 5, 2) := by decide +kernel
theorem dm_writeRoot_51 : decode km_writeRoot 51 = .ok (.iadd, 1) := by decide +kernel
theorem dm_writeRoot_52 : decode km_writeRoot 52 = .ok (.iload 5, 2) := by decide +kernel
theorem dm_writeRoot_54 : decode km_writeRoot 54 = .ok (.aload_n 0, 1) := by decide +kernel
theorem dm_writeRoot_55 : decode km_writeRoot 55 = .ok (.getfield 108, 3) := by decide +kernel
theorem dm_writeRoot_58 : decode km_writeRoot 58 = .ok (.if_icmp .ge 14, 3) := by decide +kernel
theorem dm_writeRoot_61 : decode km_writeRoot 61 = .ok (.aload_n 0, 1) := by decide +kernel
theorem dm_writeRoot_62 : decode km_writeRoot 62 = .ok (.getfield 26, 3) := by decide +kernel
theorem dm_writeRoot_65 : decode km_writeRoot 65 = .ok (.iload 5, 2) := by decide +kernel
theorem dm_writeRoot_67 : decode km_writeRoot 67 = .ok (.iaload, 1) := by decide +kernel
theorem dm_writeRoot_68 : decode km_writeRoot 68 = .ok (.i2l, 1) := by decide +kernel
theorem dm_writeRoot_69 : decode km_writeRoot 69 = .ok (.goto 4, 3) := by decide +kernel
theorem dm_writeRoot_72 : decode km_writeRoot 72 = .ok (.lconst 0, 1) := by decide +kernel
theorem dm_writeRoot_73 : decode km_writeRoot 73 = .ok (.invokevirtual 126, 3) := by decide +kernel
theorem dm_writeRoot_76 : decode km_writeRoot 76 = .ok (.iinc 5 1, 3) := by decide +kernel
theorem dm_writeRoot_79 : decode km_writeRoot 79 = .ok (.goto (-42), 3) := by decide +kernel
theorem dm_writeRoot_82 : decode km_writeRoot 82 = .ok (.aload_n 0, 1) := by decide +kernel
theorem dm_writeRoot_83 : decode km_writeRoot 83 = .ok (.iload 4, 2) := by decide +kernel
theorem dm_writeRoot_85 : decode km_writeRoot 85 = .ok (.bipush 18, 2) := by decide +kernel
theorem dm_writeRoot_87 : decode km_writeRoot 87 = .ok (.iadd, 1) := by decide +kernel
theorem dm_writeRoot_88 : decode km_writeRoot 88 = .ok (.lload_n 2, 1) := by decide +kernel
theorem dm_writeRoot_89 : decode km_writeRoot 89 = .ok (.invokevirtual 126, 3) := by decide +kernel
theorem dm_writeRoot_92 : decode km_writeRoot 92 = .ok (.aload_n 0, 1) := by decide +kernel
theorem dm_writeRoot_93 : decode km_writeRoot 93 = .ok (.iload 4, 2) := by decide +kernel
theorem dm_writeRoot_95 : decode km_writeRoot 95 = .ok (.bipush 19, 2) := by decide +kernel
theorem dm_writeRoot_97 : decode km_writeRoot 97 = .ok (.iadd, 1) := by decide +kernel
theorem dm_writeRoot_98 : decode km_writeRoot 98 = .ok (.aload_n 0, 1) := by decide +kernel
theorem dm_writeRoot_99 : decode km_writeRoot 99 = .ok (.iload 4, 2) := by decide +kernel
theorem dm_writeRoot_101 : decode km_writeRoot 101 = .ok (.bipush 19, 2) := by decide +kernel
theorem dm_writeRoot_103 : decode km_writeRoot 103 = .ok (.invokevirtual 37, 3) := by decide +kernel
theorem dm_writeRoot_106 : decode km_writeRoot 106 = .ok (.invokevirtual 126, 3) := by decide +kernel
theorem dm_writeRoot_109 : decode km_writeRoot 109 = .ok (.return_, 1) := by decide +kernel
theorem dm_may_0 : decode km_may 0 = .ok (.aload_n 0, 1) := by decide +kernel
theorem dm_may_1 : decode km_may 1 = .ok (.getfield 85, 3) := by decide +kernel
theorem dm_may_4 : decode km_may 4 = .ok (.ifCond .ne 14, 3) := by decide +kernel
theorem dm_may_7 : decode km_may 7 = .ok (.aload_n 0, 1) := by decide +kernel
theorem dm_may_8 : decode km_may 8 = .ok (.aload_n 0, 1) := by decide +kernel
theorem dm_may_9 : decode km_may 9 = .ok (.getfield 68, 3) := by decide +kernel
theorem dm_may_12 : decode km_may 12 = .ok (.invokevirtual 89, 3) := by decide +kernel
theorem dm_may_15 : decode km_may 15 = .ok (.ifCond .ne 7, 3) := by decide +kernel
theorem dm_may_18 : decode km_may 18 = .ok (.iconst 1, 1) := by decide +kernel
theorem dm_may_19 : decode km_may 19 = .ok (.goto 18, 3) := by decide +kernel
theorem dm_may_22 : decode km_may 22 = .ok (.iload_n 1, 1) := by decide +kernel
theorem dm_may_23 : decode km_may 23 = .ok (.ifCond .lt 9, 3) := by decide +kernel
theorem dm_may_26 : decode km_may 26 = .ok (.iload_n 1, 1) := by decide +kernel
theorem dm_may_27 : decode km_may 27 = .ok (.ldc 129, 2) := by decide +kernel
theorem dm_may_29 : decode km_may 29 = .ok (.if_icmp .le 7, 3) := by decide +kernel
theorem dm_may_32 : decode km_may 32 = .ok (.iconst 2, 1) := by decide +kernel
theorem dm_may_33 : decode km_may 33 = .ok (.goto 4, 3) := by decide +kernel
theorem dm_may_36 : decode km_may 36 = .ok (.iconst 0, 1) := by decide +kernel
theorem dm_may_37 : decode km_may 37 = .ok (.ireturn, 1) := by decide +kernel
theorem dm_put_0 : decode km_put 0 = .ok (.aload_n 0, 1) := by decide +kernel
theorem dm_put_1 : decode km_put 1 = .ok (.aload_n 0, 1) := by decide +kernel
theorem dm_put_2 : decode km_put 2 = .ok (.iload_n 1, 1) := by decide +kernel
theorem dm_put_3 : decode km_put 3 = .ok (.invokevirtual 130, 3) := by decide +kernel
theorem dm_put_6 : decode km_put 6 = .ok (.putfield 44, 3) := by decide +kernel
theorem dm_put_9 : decode km_put 9 = .ok (.aload_n 0, 1) := by decide +kernel
theorem dm_put_10 : decode km_put 10 = .ok (.getfield 44, 3) := by decide +kernel
theorem dm_put_13 : decode km_put 13 = .ok (.ifCond .le 5, 3) := by decide +kernel
theorem dm_put_16 : decode km_put 16 = .ok (.iconst 0, 1) := by decide +kernel
theorem dm_put_17 : decode km_put 17 = .ok (.ireturn, 1) := by decide +kernel
theorem dm_put_18 : decode km_put 18 = .ok (.aload_n 0, 1) := by decide +kernel
theorem dm_put_19 : decode km_put 19 = .ok (.iload_n 1, 1) := by decide +kernel
theorem dm_put_20 : decode km_put 20 = .ok (.invokevirtual 133, 3) := by decide +kernel
theorem dm_put_23 : decode km_put 23 = .ok (.istore 4, 2) := by decide +kernel
theorem dm_put_25 : decode km_put 25 = .ok (.aload_n 0, 1) := by decide +kernel
theorem dm_put_26 : decode km_put 26 = .ok (.iload 4, 2) := by decide +kernel
theorem dm_put_28 : decode km_put 28 = .ok (.invokevirtual 136, 3) := by decide +kernel
theorem dm_put_31 : decode km_put 31 = .ok (.aload_n 0, 1) := by decide +kernel
theorem dm_put_32 : decode km_put 32 = .ok (.getfield 105, 3) := by decide +kernel
theorem dm_put_35 : decode km_put 35 = .ok (.istore 5, 2) := by decide +kernel
theorem dm_put_37 : decode km_put 37 = .ok (.aload_n 0, 1) := by decide +kernel
theorem dm_put_38 : decode km_put 38 = .ok (.iload_n 1, 1) := by decide +kernel
theorem dm_put_39 : decode km_put 39 = .ok (.lload_n 2, 1) := by decide +kernel
theorem dm_put_40 : decode km_put 40 = .ok (.invokevirtual 140, 3) := by decide +kernel
theorem dm_put_43 : decode km_put 43 = .ok (.aload_n 0, 1) := by decide +kernel
theorem dm_put_44 : decode km_put 44 = .ok (.aload_n 0, 1) := by decide +kernel
theorem dm_put_45 : decode km_put 45 = .ok (.iload 4, 2) := by decide +kernel
theorem dm_put_47 : decode km_put 47 = .ok (.iconst (-1), 1) := by decide +kernel
theorem dm_put_48 : decode km_put 48 = .ok (.if_icmp .ne 7, 3) := by decide +kernel
theorem dm_put_51 : decode km_put 51 = .ok (.iconst 0, 1) := by decide +kernel
theorem dm_put_52 : decode km_put 52 = .ok (.goto 5, 3) := by decide +kernel
theorem dm_put_55 : decode km_put 55 = .ok (.iload 4, 2) := by decide +kernel
theorem dm_put_57 : decode km_put 57 = .ok (.aload_n 0, 1) := by decide +kernel
theorem dm_put_58 : decode km_put 58 = .ok (.getfield 105, 3) := by decide +kernel
theorem dm_put_61 : decode km_put 61 = .ok (.iload 5, 2) := by decide +kernel
theorem dm_put_63 : decode km_put 63 = .ok (.isub, 1) := by decide +kernel
theorem dm_put_64 : decode km_put 64 = .ok (.invokevirtual 143, 3) := by decide +kernel
theorem dm_put_67 : decode km_put 67 = .ok (.ifCond .eq 7, 3) := by decide +kernel
theorem dm_put_70 : decode km_put 70 = .ok (.iconst 0, 1) := by decide +kernel
theorem dm_put_71 : decode km_put 71 = .ok (.goto 4, 3) := by decide +kernel
theorem dm_put_74 : decode km_put 74 = .ok (.iconst 1, 1) := by decide +kernel
theorem dm_put_75 : decode km_put 75 = .ok (.putfield 44, 3) := by decide +kernel
theorem dm_put_78 : decode km_put 78 = .ok (.aload_n 0, 1) := by decide +kernel
theorem dm_put_79 : decode km_put 79 = .ok (.getfield 44, 3) := by decide +kernel
theorem dm_put_82 : decode km_put 82 = .ok (.ifCond .le 7, 3) := by decide +kernel
theorem dm_put_85 : decode km_put 85 = .ok (.iconst 0, 1) := by decide +kernel
theorem dm_put_86 : decode km_put 86 = .ok (.goto 7, 3) := by decide +kernel
theorem dm_put_89 : decode km_put 89 = .ok (.aload_n 0, 1) := by decide +kernel
theorem dm_put_90 : decode km_put 90 = .ok (.getfield 68, 3) := by decide +kernel
theorem dm_put_93 : decode km_put 93 = .ok (.ireturn, 1) := by decide +kernel
theorem dm_drop_0 : decode km_drop 0 = .ok (.aload_n 0, 1) := by decide +kernel
theorem dm_drop_1 : decode km_drop 1 = .ok (.aload_n 0, 1) := by decide +kernel
theorem dm_drop_2 : decode km_drop 2 = .ok (.iload_n 1, 1) := by decide +kernel
theorem dm_drop_3 : decode km_drop 3 = .ok (.invokevirtual 130, 3) := by decide +kernel
theorem dm_drop_6 : decode km_drop 6 = .ok (.putfield 44, 3) := by decide +kernel
theorem dm_drop_9 : decode km_drop 9 = .ok (.aload_n 0, 1) := by decide +kernel
theorem dm_drop_10 : decode km_drop 10 = .ok (.getfield 44, 3) := by decide +kernel
theorem dm_drop_13 : decode km_drop 13 = .ok (.ifCond .gt 16, 3) := by decide +kernel
theorem dm_drop_16 : decode km_drop 16 = .ok (.aload_n 0, 1) := by decide +kernel
theorem dm_drop_17 : decode km_drop 17 = .ok (.aload_n 0, 1) := by decide +kernel
theorem dm_drop_18 : decode km_drop 18 = .ok (.getfield 68, 3) := by decide +kernel
theorem dm_drop_21 : decode km_drop 21 = .ok (.iload_n 1, 1) := by decide +kernel
theorem dm_drop_22 : decode km_drop 22 = .ok (.invokevirtual 96, 3) := by decide +kernel
theorem dm_drop_25 : decode km_drop 25 = .ok (.iconst (-1), 1) := by decide +kernel
theorem dm_drop_26 : decode km_drop 26 = .ok (.if_icmp .ne 5, 3) := by decide +kernel
theorem dm_drop_29 : decode km_drop 29 = .ok (.iconst 0, 1) := by decide +kernel
theorem dm_drop_30 : decode km_drop 30 = .ok (.ireturn, 1) := by decide +kernel
theorem dm_drop_31 : decode km_drop 31 = .ok (.aload_n 0, 1) := by decide +kernel
theorem dm_drop_32 : decode km_drop 32 = .ok (.iload_n 1, 1) := by decide +kernel
theorem dm_drop_33 : decode km_drop 33 = .ok (.invokevirtual 133, 3) := by decide +kernel
theorem dm_drop_36 : decode km_drop 36 = .ok (.istore_n 2, 1) := by decide +kernel
theorem dm_drop_37 : decode km_drop 37 = .ok (.aload_n 0, 1) := by decide +kernel
theorem dm_drop_38 : decode km_drop 38 = .ok (.iload_n 2, 1) := by decide +kernel
theorem dm_drop_39 : decode km_drop 39 = .ok (.invokevirtual 136, 3) := by decide +kernel
theorem dm_drop_42 : decode km_drop 42 = .ok (.aload_n 0, 1) := by decide +kernel
theorem dm_drop_43 : decode km_drop 43 = .ok (.iload_n 1, 1) := by decide +kernel
theorem dm_drop_44 : decode km_drop 44 = .ok (.invokevirtual 147, 3) := by decide +kernel
theorem dm_drop_47 : decode km_drop 47 = .ok (.aload_n 0, 1) := by decide +kernel
theorem dm_drop_48 : decode km_drop 48 = .ok (.aload_n 0, 1) := by decide +kernel
theorem dm_drop_49 : decode km_drop 49 = .ok (.iload_n 2, 1) := by decide +kernel
theorem dm_drop_50 : decode km_drop 50 = .ok (.iconst (-1), 1) := by decide +kernel
theorem dm_drop_51 : decode km_drop 51 = .ok (.invokevirtual 143, 3) := by decide +kernel
theorem dm_drop_54 : decode km_drop 54 = .ok (.ifCond .eq 7, 3) := by decide +kernel
theorem dm_drop_57 : decode km_drop 57 = .ok (.iconst 0, 1) := by decide +kernel
theorem dm_drop_58 : decode km_drop 58 = .ok (.goto 4, 3) := by decide +kernel
theorem dm_drop_61 : decode km_drop 61 = .ok (.iconst 1, 1) := by decide +kernel
theorem dm_drop_62 : decode km_drop 62 = .ok (.putfield 44, 3) := by decide +kernel
theorem dm_drop_65 : decode km_drop 65 = .ok (.aload_n 0, 1) := by decide +kernel
theorem dm_drop_66 : decode km_drop 66 = .ok (.getfield 44, 3) := by decide +kernel
theorem dm_drop_69 : decode km_drop 69 = .ok (.ifCond .le 7, 3) := by decide +kernel
theorem dm_drop_72 : decode km_drop 72 = .ok (.iconst 0, 1) := by decide +kernel
theorem dm_drop_73 : decode km_drop 73 = .ok (.goto 7, 3) := by decide +kernel
theorem dm_drop_76 : decode km_drop 76 = .ok (.aload_n 0, 1) := by decide +kernel
theorem dm_drop_77 : decode km_drop 77 = .ok (.getfield 68, 3) := by decide +kernel
theorem dm_drop_80 : decode km_drop 80 = .ok (.ireturn, 1) := by decide +kernel
theorem dm_crash_0 : decode km_crash 0 = .ok (.aload_n 0, 1) := by decide +kernel
theorem dm_crash_1 : decode km_crash 1 = .ok (.aload_n 0, 1) := by decide +kernel
theorem dm_crash_2 : decode km_crash 2 = .ok (.getfield 85, 3) := by decide +kernel
theorem dm_crash_5 : decode km_crash 5 = .ok (.ifCond .ne 18, 3) := by decide +kernel
theorem dm_crash_8 : decode km_crash 8 = .ok (.aload_n 0, 1) := by decide +kernel
theorem dm_crash_9 : decode km_crash 9 = .ok (.getfield 41, 3) := by decide +kernel
theorem dm_crash_12 : decode km_crash 12 = .ok (.iconst (-1), 1) := by decide +kernel
theorem dm_crash_13 : decode km_crash 13 = .ok (.if_icmp .eq 10, 3) := by decide +kernel
theorem dm_crash_16 : decode km_crash 16 = .ok (.aload_n 0, 1) := by decide +kernel
theorem dm_crash_17 : decode km_crash 17 = .ok (.getfield 123, 3) := by decide +kernel
theorem dm_crash_20 : decode km_crash 20 = .ok (.ifCond .eq 7, 3) := by decide +kernel
theorem dm_crash_23 : decode km_crash 23 = .ok (.iconst 1, 1) := by decide +kernel
theorem dm_crash_24 : decode km_crash 24 = .ok (.goto 12, 3) := by decide +kernel
theorem dm_crash_27 : decode km_crash 27 = .ok (.iload_n 1, 1) := by decide +kernel
theorem dm_crash_28 : decode km_crash 28 = .ok (.ifCond .ge 7, 3) := by decide +kernel
theorem dm_crash_31 : decode km_crash 31 = .ok (.iconst 2, 1) := by decide +kernel
theorem dm_crash_32 : decode km_crash 32 = .ok (.goto 4, 3) := by decide +kernel
theorem dm_crash_35 : decode km_crash 35 = .ok (.iconst 0, 1) := by decide +kernel
theorem dm_crash_36 : decode km_crash 36 = .ok (.putfield 44, 3) := by decide +kernel
theorem dm_crash_39 : decode km_crash 39 = .ok (.aload_n 0, 1) := by decide +kernel
theorem dm_crash_40 : decode km_crash 40 = .ok (.getfield 44, 3) := by decide +kernel
theorem dm_crash_43 : decode km_crash 43 = .ok (.ifCond .le 5, 3) := by decide +kernel
theorem dm_crash_46 : decode km_crash 46 = .ok (.iconst 0, 1) := by decide +kernel
theorem dm_crash_47 : decode km_crash 47 = .ok (.ireturn, 1) := by decide +kernel
theorem dm_crash_48 : decode km_crash 48 = .ok (.aload_n 0, 1) := by decide +kernel
theorem dm_crash_49 : decode km_crash 49 = .ok (.getfield 41, 3) := by decide +kernel
theorem dm_crash_52 : decode km_crash 52 = .ok (.istore_n 2, 1) := by decide +kernel
theorem dm_crash_53 : decode km_crash 53 = .ok (.iload_n 2, 1) := by decide +kernel
theorem dm_crash_54 : decode km_crash 54 = .ok (.iconst 1, 1) := by decide +kernel
theorem dm_crash_55 : decode km_crash 55 = .ok (.isub, 1) := by decide +kernel
theorem dm_crash_56 : decode km_crash 56 = .ok (.istore_n 3, 1) := by decide +kernel
theorem dm_crash_57 : decode km_crash 57 = .ok (.iload_n 3, 1) := by decide +kernel
theorem dm_crash_58 : decode km_crash 58 = .ok (.iload_n 1, 1) := by decide +kernel
theorem dm_crash_59 : decode km_crash 59 = .ok (.if_icmp .lt 26, 3) := by decide +kernel
theorem dm_crash_62 : decode km_crash 62 = .ok (.aload_n 0, 1) := by decide +kernel
theorem dm_crash_63 : decode km_crash 63 = .ok (.getfield 7, 3) := by decide +kernel
theorem dm_crash_66 : decode km_crash 66 = .ok (.aload_n 0, 1) := by decide +kernel
theorem dm_crash_67 : decode km_crash 67 = .ok (.getfield 13, 3) := by decide +kernel
theorem dm_crash_70 : decode km_crash 70 = .ok (.iload_n 3, 1) := by decide +kernel
theorem dm_crash_71 : decode km_crash 71 = .ok (.iaload, 1) := by decide +kernel
theorem dm_crash_72 : decode km_crash 72 = .ok (.aload_n 0, 1) := by decide +kernel
theorem dm_crash_73 : decode km_crash 73 = .ok (.getfield 17, 3) := by decide +kernel
theorem dm_crash_76 : decode km_crash 76 = .ok (.iload_n 3, 1) := by decide +kernel
theorem dm_crash_77 : decode km_crash 77 = .ok (.laload, 1) := by decide +kernel
theorem dm_crash_78 : decode km_crash 78 = .ok (.lastore, 1) := by decide +kernel
theorem dm_crash_79 : decode km_crash 79 = .ok (.iinc 3 (-1), 3) := by decide +kernel
theorem dm_crash_82 : decode km_crash 82 = .ok (.goto (-25), 3) := by decide +kernel
theorem dm_crash_85 : decode km_crash 85 = .ok (.aload_n 0, 1) := by decide +kernel
theorem dm_crash_86 : decode km_crash 86 = .ok (.iconst 1, 1) := by decide +kernel
theorem dm_crash_87 : decode km_crash 87 = .ok (.putfield 85, 3) := by decide +kernel
theorem dm_crash_90 : decode km_crash 90 = .ok (.iload_n 2, 1) := by decide +kernel
theorem dm_crash_91 : decode km_crash 91 = .ok (.ireturn, 1) := by decide +kernel
theorem dm_reopen_0 : decode km_reopen 0 = .ok (.aload_n 0, 1) := by decide +kernel
theorem dm_reopen_1 : decode km_reopen 1 = .ok (.iconst 0, 1) := by decide +kernel
theorem dm_reopen_2 : decode km_reopen 2 = .ok (.putfield 44, 3) := by decide +kernel
theorem dm_reopen_5 : decode km_reopen 5 = .ok (.aload_n 0, 1) := by decide +kernel
theorem dm_reopen_6 : decode km_reopen 6 = .ok (.iconst (-1), 1) := by decide +kernel
theorem dm_reopen_7 : decode km_reopen 7 = .ok (.putfield 68, 3) := by decide +kernel
theorem dm_reopen_10 : decode km_reopen 10 = .ok (.iconst 0, 1) := by decide +kernel
theorem dm_reopen_11 : decode km_reopen 11 = .ok (.istore_n 1, 1) := by decide +kernel
theorem dm_reopen_12 : decode km_reopen 12 = .ok (.iload_n 1, 1) := by decide +kernel
theorem dm_reopen_13 : decode km_reopen 13 = .ok (.bipush 8, 2) := by decide +kernel
theorem dm_reopen_15 : decode km_reopen 15 = .ok (.if_icmp .ge 76, 3) := by decide +kernel
theorem dm_reopen_18 : decode km_reopen 18 = .ok (.aload_n 0, 1) := by decide +kernel
theorem dm_reopen_19 : decode km_reopen 19 = .ok (.getfield 7, 3) := by decide +kernel
theorem dm_reopen_22 : decode km_reopen 22 = .ok (.sipush 1024, 3) := by decide +kernel
theorem dm_reopen_25 : decode km_reopen 25 = .ok (.bipush 20, 2) := by decide +kernel
theorem dm_reopen_27 : decode km_reopen 27 = .ok (.iload_n 1, 1) := by decide +kernel
theorem dm_reopen_28 : decode km_reopen 28 = .ok (.imul, 1) := by decide +kernel
theorem dm_reopen_29 : decode km_reopen 29 = .ok (.iadd, 1) := by decide +kernel
theorem dm_reopen_30 : decode km_reopen 30 = .ok (.laload, 1) := by decide +kernel
theorem dm_reopen_31 : decode km_reopen 31 = .ok (.lstore_n 2, 1) := by decide +kernel
theorem dm_reopen_32 : decode km_reopen 32 = .ok (.aload_n 0, 1) := by decide +kernel
theorem dm_reopen_33 : decode km_reopen 33 = .ok (.lload_n 2, 1) := by decide +kernel
theorem dm_reopen_34 : decode km_reopen 34 = .ok (.lconst 0, 1) := by decide +kernel
theorem dm_reopen_35 : decode km_reopen 35 = .ok (.ldc2_w 150, 3) := by decide +kernel
theorem dm_reopen_38 : decode km_reopen 38 = .ok (.invokestatic 51, 3) := by decide +kernel
theorem dm_reopen_41 : decode km_reopen 41 = .ok (.ifCond .eq 37, 3) := by decide +kernel
theorem dm_reopen_44 : decode km_reopen 44 = .ok (.lload_n 2, 1) := by decide +kernel
theorem dm_reopen_45 : decode km_reopen 45 = .ok (.ldc2_w 152, 3) := by decide +kernel
theorem dm_reopen_48 : decode km_reopen 48 = .ok (.lrem, 1) := by decide +kernel
theorem dm_reopen_49 : decode km_reopen 49 = .ok (.iload_n 1, 1) := by decide +kernel
theorem dm_reopen_50 : decode km_reopen 50 = .ok (.i2l, 1) := by decide +kernel
theorem dm_reopen_51 : decode km_reopen 51 = .ok (.lcmp, 1) := by decide +kernel
theorem dm_reopen_52 : decode km_reopen 52 = .ok (.ifCond .ne 26, 3) := by decide +kernel
theorem dm_reopen_55 : decode km_reopen 55 = .ok (.lload_n 2, 1) := by decide +kernel
theorem dm_reopen_56 : decode km_reopen 56 = .ok (.aload_n 0, 1) := by decide +kernel
theorem dm_reopen_57 : decode km_reopen 57 = .ok (.getfield 68, 3) := by decide +kernel
theorem dm_reopen_60 : decode km_reopen 60 = .ok (.i2l, 1) := by decide +kernel
theorem dm_reopen_61 : decode km_reopen 61 = .ok (.lcmp, 1) := by decide +kernel
theorem dm_reopen_62 : decode km_reopen 62 = .ok (.ifCond .le 16, 3) := by decide +kernel
theorem dm_reopen_65 : decode km_reopen 65 = .ok (.aload_n 0, 1) := by decide +kernel
theorem dm_reopen_66 : decode km_reopen 66 = .ok (.iload_n 1, 1) := by decide +kernel
theorem dm_reopen_67 : decode km_reopen 67 = .ok (.invokevirtual 71, 3) := by decide +kernel
theorem dm_reopen_70 : decode km_reopen 70 = .ok (.ifCond .eq 8, 3) := by decide +kernel
theorem dm_reopen_73 : decode km_reopen 73 = .ok (.lload_n 2, 1) := by decide +kernel
theorem dm_reopen_74 : decode km_reopen 74 = .ok (.l2i, 1) := by decide +kernel
theorem dm_reopen_75 : decode km_reopen 75 = .ok (.goto 7, 3) := by decide +kernel
theorem dm_reopen_78 : decode km_reopen 78 = .ok (.aload_n 0, 1) := by decide +kernel
theorem dm_reopen_79 : decode km_reopen 79 = .ok (.getfield 68, 3) := by decide +kernel
theorem dm_reopen_82 : decode km_reopen 82 = .ok (.putfield 68, 3) := by decide +kernel
theorem dm_reopen_85 : decode km_reopen 85 = .ok (.iinc 1 1, 3) := by decide +kernel
theorem dm_reopen_88 : decode km_reopen 88 = .ok (.goto (-76), 3) := by decide +kernel
theorem dm_reopen_91 : decode km_reopen 91 = .ok (.aload_n 0, 1) := by decide +kernel
theorem dm_reopen_92 : decode km_reopen 92 = .ok (.getfield 68, 3) := by decide +kernel
theorem dm_reopen_95 : decode km_reopen 95 = .ok (.iconst (-1), 1) := by decide +kernel
theorem dm_reopen_96 : decode km_reopen 96 = .ok (.if_icmp .ne 50, 3) := by decide +kernel
theorem dm_reopen_99 : decode km_reopen 99 = .ok (.iconst 0, 1) := by decide +kernel
theorem dm_reopen_100 : decode km_reopen 100 = .ok (.istore_n 1, 1) := by decide +kernel
theorem dm_reopen_101 : decode km_reopen 101 = .ok (.iload_n 1, 1) := by decide +kernel
theorem dm_reopen_102 : decode km_reopen 102 = .ok (.bipush 19, 2) := by decide +kernel
theorem dm_reopen_104 : decode km_reopen 104 = .ok (.if_icmp .ge 20, 3) := by decide +kernel
theorem dm_reopen_107 : decode km_reopen 107 = .ok (.aload_n 0, 1) := by decide +kernel
theorem dm_reopen_108 : decode km_reopen 108 = .ok (.getfield 7, 3) := by decide +kernel
theorem dm_reopen_111 : decode km_reopen 111 = .ok (.sipush 1024, 3) := by decide +kernel
theorem dm_reopen_114 : decode km_reopen 114 = .ok (.iload_n 1, 1) := by decide +kernel
theorem dm_reopen_115 : decode km_reopen 115 = .ok (.iadd, 1) := by decide +kernel
theorem dm_reopen_116 : decode km_reopen 116 = .ok (.lconst 0, 1) := by decide +kernel
theorem dm_reopen_117 : decode km_reopen 117 = .ok (.lastore, 1) := by decide +kernel
theorem dm_reopen_118 : decode km_reopen 118 = .ok (.iinc 1 1, 3) := by decide +kernel
theorem dm_reopen_121 : decode km_reopen 121 = .ok (.goto (-20), 3) := by decide +kernel
theorem dm_reopen_124 : decode km_reopen 124 = .ok (.aload_n 0, 1) := by decide +kernel
theorem dm_reopen_125 : decode km_reopen 125 = .ok (.getfield 7, 3) := by decide +kernel
theorem dm_reopen_128 : decode km_reopen 128 = .ok (.sipush 1043, 3) := by decide +kernel
theorem dm_reopen_131 : decode km_reopen 131 = .ok (.aload_n 0, 1) := by decide +kernel
theorem dm_reopen_132 : decode km_reopen 132 = .ok (.sipush 1024, 3) := by decide +kernel
theorem dm_reopen_135 : decode km_reopen 135 = .ok (.bipush 19, 2) := by decide +kernel
theorem dm_reopen_137 : decode km_reopen 137 = .ok (.invokevirtual 37, 3) := by decide +kernel
theorem dm_reopen_140 : decode km_reopen 140 = .ok (.lastore, 1) := by decide +kernel
theorem dm_reopen_141 : decode km_reopen 141 = .ok (.aload_n 0, 1) := by decide +kernel
theorem dm_reopen_142 : decode km_reopen 142 = .ok (.iconst 0, 1) := by decide +kernel
theorem dm_reopen_143 : decode km_reopen 143 = .ok (.putfield 68, 3) := by decide +kernel
theorem dm_reopen_146 : decode km_reopen 146 = .ok (.aload_n 0, 1) := by decide +kernel
theorem dm_reopen_147 : decode km_reopen 147 = .ok (.iconst 0, 1) := by decide +kernel
theorem dm_reopen_148 : decode km_reopen 148 = .ok (.putfield 85, 3) := by decide +kernel
theorem dm_reopen_151 : decode km_reopen 151 = .ok (.aload_n 0, 1) := by decide +kernel
theorem dm_reopen_152 : decode km_reopen 152 = .ok (.iconst (-1), 1) := by decide +kernel
theorem dm_reopen_153 : decode km_reopen 153 = .ok (.putfield 41, 3) := by decide +kernel
theorem dm_reopen_156 : decode km_reopen 156 = .ok (.aload_n 0, 1) := by decide +kernel
theorem dm_reopen_157 : decode km_reopen 157 = .ok (.getfield 68, 3) := by decide +kernel
theorem dm_reopen_160 : decode km_reopen 160 = .ok (.ireturn, 1) := by decide +kernel
theorem dm_noWord_0 : decode km_noWord 0 = .ok (.iload_n 1, 1) := by decide +kernel
theorem dm_noWord_1 : decode km_noWord 1 = .ok (.ifCond .lt 21, 3) := by decide +kernel
theorem dm_noWord_4 : decode km_noWord 4 = .ok (.iload_n 1, 1) := by decide +kernel
theorem dm_noWord_5 : decode km_noWord 5 = .ok (.aload_n 0, 1) := by decide +kernel
theorem dm_noWord_6 : decode km_noWord 6 = .ok (.getfield 33, 3) := by decide +kernel
theorem dm_noWord_9 : decode km_noWord 9 = .ok (.if_icmp .ge 13, 3) := by decide +kernel
theorem dm_noWord_12 : decode km_noWord 12 = .ok (.iload_n 2, 1) := by decide +kernel
theorem dm_noWord_13 : decode km_noWord 13 = .ok (.ifCond .lt 9, 3) := by decide +kernel
theorem dm_noWord_16 : decode km_noWord 16 = .ok (.iload_n 2, 1) := by decide +kernel
theorem dm_noWord_17 : decode km_noWord 17 = .ok (.bipush 16, 2) := by decide +kernel
theorem dm_noWord_19 : decode km_noWord 19 = .ok (.if_icmp .lt 7, 3) := by decide +kernel
theorem dm_noWord_22 : decode km_noWord 22 = .ok (.iconst 1, 1) := by decide +kernel
theorem dm_noWord_23 : decode km_noWord 23 = .ok (.goto 4, 3) := by decide +kernel
theorem dm_noWord_26 : decode km_noWord 26 = .ok (.iconst 0, 1) := by decide +kernel
theorem dm_noWord_27 : decode km_noWord 27 = .ok (.ireturn, 1) := by decide +kernel
theorem dm_noRoot_0 : decode km_noRoot 0 = .ok (.iload_n 0, 1) := by decide +kernel
theorem dm_noRoot_1 : decode km_noRoot 1 = .ok (.ifCond .lt 19, 3) := by decide +kernel
theorem dm_noRoot_4 : decode km_noRoot 4 = .ok (.iload_n 0, 1) := by decide +kernel
theorem dm_noRoot_5 : decode km_noRoot 5 = .ok (.bipush 7, 2) := by decide +kernel
theorem dm_noRoot_7 : decode km_noRoot 7 = .ok (.if_icmp .gt 13, 3) := by decide +kernel
theorem dm_noRoot_10 : decode km_noRoot 10 = .ok (.iload_n 1, 1) := by decide +kernel
theorem dm_noRoot_11 : decode km_noRoot 11 = .ok (.ifCond .lt 9, 3) := by decide +kernel
theorem dm_noRoot_14 : decode km_noRoot 14 = .ok (.iload_n 1, 1) := by decide +kernel
theorem dm_noRoot_15 : decode km_noRoot 15 = .ok (.bipush 20, 2) := by decide +kernel
theorem dm_noRoot_17 : decode km_noRoot 17 = .ok (.if_icmp .lt 7, 3) := by decide +kernel
theorem dm_noRoot_20 : decode km_noRoot 20 = .ok (.iconst 1, 1) := by decide +kernel
theorem dm_noRoot_21 : decode km_noRoot 21 = .ok (.goto 4, 3) := by decide +kernel
theorem dm_noRoot_24 : decode km_noRoot 24 = .ok (.iconst 0, 1) := by decide +kernel
theorem dm_noRoot_25 : decode km_noRoot 25 = .ok (.ireturn, 1) := by decide +kernel
theorem dm_wordAt_0 : decode km_wordAt 0 = .ok (.aload_n 0, 1) := by decide +kernel
theorem dm_wordAt_1 : decode km_wordAt 1 = .ok (.aload_n 0, 1) := by decide +kernel
theorem dm_wordAt_2 : decode km_wordAt 2 = .ok (.iload_n 1, 1) := by decide +kernel
theorem dm_wordAt_3 : decode km_wordAt 3 = .ok (.iload_n 2, 1) := by decide +kernel
theorem dm_wordAt_4 : decode km_wordAt 4 = .ok (.invokevirtual 154, 3) := by decide +kernel
theorem dm_wordAt_7 : decode km_wordAt 7 = .ok (.ifCond .eq 7, 3) := by decide +kernel
theorem dm_wordAt_10 : decode km_wordAt 10 = .ok (.iconst 1, 1) := by decide +kernel
theorem dm_wordAt_11 : decode km_wordAt 11 = .ok (.goto 4, 3) := by decide +kernel
theorem dm_wordAt_14 : decode km_wordAt 14 = .ok (.iconst 0, 1) := by decide +kernel
theorem dm_wordAt_15 : decode km_wordAt 15 = .ok (.putfield 44, 3) := by decide +kernel
theorem dm_wordAt_18 : decode km_wordAt 18 = .ok (.aload_n 0, 1) := by decide +kernel
theorem dm_wordAt_19 : decode km_wordAt 19 = .ok (.getfield 44, 3) := by decide +kernel
theorem dm_wordAt_22 : decode km_wordAt 22 = .ok (.ifCond .le 7, 3) := by decide +kernel
theorem dm_wordAt_25 : decode km_wordAt 25 = .ok (.lconst 0, 1) := by decide +kernel
theorem dm_wordAt_26 : decode km_wordAt 26 = .ok (.goto 14, 3) := by decide +kernel
theorem dm_wordAt_29 : decode km_wordAt 29 = .ok (.aload_n 0, 1) := by decide +kernel
theorem dm_wordAt_30 : decode km_wordAt 30 = .ok (.getfield 7, 3) := by decide +kernel
theorem dm_wordAt_33 : decode km_wordAt 33 = .ok (.bipush 16, 2) := by decide +kernel
theorem dm_wordAt_35 : decode km_wordAt 35 = .ok (.iload_n 1, 1) := by decide +kernel
theorem dm_wordAt_36 : decode km_wordAt 36 = .ok (.imul, 1) := by decide +kernel
theorem dm_wordAt_37 : decode km_wordAt 37 = .ok (.iload_n 2, 1) := by decide +kernel
theorem dm_wordAt_38 : decode km_wordAt 38 = .ok (.iadd, 1) := by decide +kernel
theorem dm_wordAt_39 : decode km_wordAt 39 = .ok (.laload, 1) := by decide +kernel
theorem dm_wordAt_40 : decode km_wordAt 40 = .ok (.lreturn, 1) := by decide +kernel
theorem dm_rootAt_0 : decode km_rootAt 0 = .ok (.aload_n 0, 1) := by decide +kernel
theorem dm_rootAt_1 : decode km_rootAt 1 = .ok (.iload_n 1, 1) := by decide +kernel
theorem dm_rootAt_2 : decode km_rootAt 2 = .ok (.iload_n 2, 1) := by decide +kernel
theorem dm_rootAt_3 : decode km_rootAt 3 = .ok (.invokestatic 157, 3) := by decide +kernel
theorem dm_rootAt_6 : decode km_rootAt 6 = .ok (.ifCond .eq 7, 3) := by decide +kernel
theorem dm_rootAt_9 : decode km_rootAt 9 = .ok (.iconst 1, 1) := by decide +kernel
theorem dm_rootAt_10 : decode km_rootAt 10 = .ok (.goto 4, 3) := by decide +kernel
theorem dm_rootAt_13 : decode km_rootAt 13 = .ok (.iconst 0, 1) := by decide +kernel
theorem dm_rootAt_14 : decode km_rootAt 14 = .ok (.putfield 44, 3) := by decide +kernel
theorem dm_rootAt_17 : decode km_rootAt 17 = .ok (.aload_n 0, 1) := by decide +kernel
theorem dm_rootAt_18 : decode km_rootAt 18 = .ok (.getfield 44, 3) := by decide +kernel
theorem dm_rootAt_21 : decode km_rootAt 21 = .ok (.ifCond .le 7, 3) := by decide +kernel
theorem dm_rootAt_24 : decode km_rootAt 24 = .ok (.lconst 0, 1) := by decide +kernel
theorem dm_rootAt_25 : decode km_rootAt 25 = .ok (.goto 18, 3) := by decide +kernel
theorem dm_rootAt_28 : decode km_rootAt 28 = .ok (.aload_n 0, 1) := by decide +kernel
theorem dm_rootAt_29 : decode km_rootAt 29 = .ok (.getfield 7, 3) := by decide +kernel
theorem dm_rootAt_32 : decode km_rootAt 32 = .ok (.sipush 1024, 3) := by decide +kernel
theorem dm_rootAt_35 : decode km_rootAt 35 = .ok (.bipush 20, 2) := by decide +kernel
theorem dm_rootAt_37 : decode km_rootAt 37 = .ok (.iload_n 1, 1) := by decide +kernel
theorem dm_rootAt_38 : decode km_rootAt 38 = .ok (.imul, 1) := by decide +kernel
theorem dm_rootAt_39 : decode km_rootAt 39 = .ok (.iadd, 1) := by decide +kernel
theorem dm_rootAt_40 : decode km_rootAt 40 = .ok (.iload_n 2, 1) := by decide +kernel
theorem dm_rootAt_41 : decode km_rootAt 41 = .ok (.iadd, 1) := by decide +kernel
theorem dm_rootAt_42 : decode km_rootAt 42 = .ok (.laload, 1) := by decide +kernel
theorem dm_rootAt_43 : decode km_rootAt 43 = .ok (.lreturn, 1) := by decide +kernel
theorem dm_poke_0 : decode km_poke 0 = .ok (.aload_n 0, 1) := by decide +kernel
theorem dm_poke_1 : decode km_poke 1 = .ok (.aload_n 0, 1) := by decide +kernel
theorem dm_poke_2 : decode km_poke 2 = .ok (.iload_n 1, 1) := by decide +kernel
theorem dm_poke_3 : decode km_poke 3 = .ok (.iload_n 2, 1) := by decide +kernel
theorem dm_poke_4 : decode km_poke 4 = .ok (.invokevirtual 154, 3) := by decide +kernel
theorem dm_poke_7 : decode km_poke 7 = .ok (.ifCond .eq 7, 3) := by decide +kernel
theorem dm_poke_10 : decode km_poke 10 = .ok (.iconst 1, 1) := by decide +kernel
theorem dm_poke_11 : decode km_poke 11 = .ok (.goto 14, 3) := by decide +kernel
theorem dm_poke_14 : decode km_poke 14 = .ok (.lload_n 3, 1) := by decide +kernel
theorem dm_poke_15 : decode km_poke 15 = .ok (.lconst 0, 1) := by decide +kernel
theorem dm_poke_16 : decode km_poke 16 = .ok (.lcmp, 1) := by decide +kernel
theorem dm_poke_17 : decode km_poke 17 = .ok (.ifCond .ne 7, 3) := by decide +kernel
theorem dm_poke_20 : decode km_poke 20 = .ok (.iconst 2, 1) := by decide +kernel
theorem dm_poke_21 : decode km_poke 21 = .ok (.goto 4, 3) := by decide +kernel
theorem dm_poke_24 : decode km_poke 24 = .ok (.iconst 0, 1) := by decide +kernel
theorem dm_poke_25 : decode km_poke 25 = .ok (.putfield 44, 3) := by decide +kernel
theorem dm_poke_28 : decode km_poke 28 = .ok (.aload_n 0, 1) := by decide +kernel
theorem dm_poke_29 : decode km_poke 29 = .ok (.getfield 44, 3) := by decide +kernel
theorem dm_poke_32 : decode km_poke 32 = .ok (.ifCond .ne 23, 3) := by decide +kernel
theorem dm_poke_35 : decode km_poke 35 = .ok (.aload_n 0, 1) := by decide +kernel
theorem dm_poke_36 : decode km_poke 36 = .ok (.getfield 7, 3) := by decide +kernel
theorem dm_poke_39 : decode km_poke 39 = .ok (.bipush 16, 2) := by decide +kernel
theorem dm_poke_41 : decode km_poke 41 = .ok (.iload_n 1, 1) := by decide +kernel
theorem dm_poke_42 : decode km_poke 42 = .ok (.imul, 1) := by decide +kernel
theorem dm_poke_43 : decode km_poke 43 = .ok (.iload_n 2, 1) := by decide +kernel
theorem dm_poke_44 : decode km_poke 44 = .ok (.iadd, 1) := by decide +kernel
theorem dm_poke_45 : decode km_poke 45 = .ok (.dup2, 1) := by decide +kernel
theorem dm_poke_46 : decode km_poke 46 = .ok (.laload, 1) := by decide +kernel
theorem dm_poke_47 : decode km_poke 47 = .ok (.lload_n 3, 1) := by decide +kernel
theorem dm_poke_48 : decode km_poke 48 = .ok (.lxor, 1) := by decide +kernel
theorem dm_poke_49 : decode km_poke 49 = .ok (.lastore, 1) := by decide +kernel
theorem dm_poke_50 : decode km_poke 50 = .ok (.aload_n 0, 1) := by decide +kernel
theorem dm_poke_51 : decode km_poke 51 = .ok (.iconst 1, 1) := by decide +kernel
theorem dm_poke_52 : decode km_poke 52 = .ok (.putfield 123, 3) := by decide +kernel
theorem dm_poke_55 : decode km_poke 55 = .ok (.return_, 1) := by decide +kernel
theorem dm_pokeRoot_0 : decode km_pokeRoot 0 = .ok (.aload_n 0, 1) := by decide +kernel
theorem dm_pokeRoot_1 : decode km_pokeRoot 1 = .ok (.iload_n 1, 1) := by decide +kernel
theorem dm_pokeRoot_2 : decode km_pokeRoot 2 = .ok (.iload_n 2, 1) := by decide +kernel
theorem dm_pokeRoot_3 : decode km_pokeRoot 3 = .ok (.invokestatic 157, 3) := by decide +kernel
theorem dm_pokeRoot_6 : decode km_pokeRoot 6 = .ok (.ifCond .eq 7, 3) := by decide +kernel
theorem dm_pokeRoot_9 : decode km_pokeRoot 9 = .ok (.iconst 1, 1) := by decide +kernel
theorem dm_pokeRoot_10 : decode km_pokeRoot 10 = .ok (.goto 14, 3) := by decide +kernel
theorem dm_pokeRoot_13 : decode km_pokeRoot 13 = .ok (.lload_n 3, 1) := by decide +kernel
theorem dm_pokeRoot_14 : decode km_pokeRoot 14 = .ok (.lconst 0, 1) := by decide +kernel
theorem dm_pokeRoot_15 : decode km_pokeRoot 15 = .ok (.lcmp, 1) := by decide +kernel
theorem dm_pokeRoot_16 : decode km_pokeRoot 16 = .ok (.ifCond .ne 7, 3) := by decide +kernel
theorem dm_pokeRoot_19 : decode km_pokeRoot 19 = .ok (.iconst 2, 1) := by decide +kernel
theorem dm_pokeRoot_20 : decode km_pokeRoot 20 = .ok (.goto 4, 3) := by decide +kernel
theorem dm_pokeRoot_23 : decode km_pokeRoot 23 = .ok (.iconst 0, 1) := by decide +kernel
theorem dm_pokeRoot_24 : decode km_pokeRoot 24 = .ok (.putfield 44, 3) := by decide +kernel
theorem dm_pokeRoot_27 : decode km_pokeRoot 27 = .ok (.aload_n 0, 1) := by decide +kernel
theorem dm_pokeRoot_28 : decode km_pokeRoot 28 = .ok (.getfield 44, 3) := by decide +kernel
theorem dm_pokeRoot_31 : decode km_pokeRoot 31 = .ok (.ifCond .ne 27, 3) := by decide +kernel
theorem dm_pokeRoot_34 : decode km_pokeRoot 34 = .ok (.aload_n 0, 1) := by decide +kernel
theorem dm_pokeRoot_35 : decode km_pokeRoot 35 = .ok (.getfield 7, 3) := by decide +kernel
theorem dm_pokeRoot_38 : decode km_pokeRoot 38 = .ok (.sipush 1024, 3) := by decide +kernel
theorem dm_pokeRoot_41 : decode km_pokeRoot 41 = .ok (.bipush 20, 2) := by decide +kernel
theorem dm_pokeRoot_43 : decode km_pokeRoot 43 = .ok (.iload_n 1, 1) := by decide +kernel
theorem dm_pokeRoot_44 : decode km_pokeRoot 44 = .ok (.imul, 1) := by decide +kernel
theorem dm_pokeRoot_45 : decode km_pokeRoot 45 = .ok (.iadd, 1) := by decide +kernel
theorem dm_pokeRoot_46 : decode km_pokeRoot 46 = .ok (.iload_n 2, 1) := by decide +kernel
theorem dm_pokeRoot_47 : decode km_pokeRoot 47 = .ok (.iadd, 1) := by decide +kernel
theorem dm_pokeRoot_48 : decode km_pokeRoot 48 = .ok (.dup2, 1) := by decide +kernel
theorem dm_pokeRoot_49 : decode km_pokeRoot 49 = .ok (.laload, 1) := by decide +kernel
theorem dm_pokeRoot_50 : decode km_pokeRoot 50 = .ok (.lload_n 3, 1) := by decide +kernel
theorem dm_pokeRoot_51 : decode km_pokeRoot 51 = .ok (.lxor, 1) := by decide +kernel
theorem dm_pokeRoot_52 : decode km_pokeRoot 52 = .ok (.lastore, 1) := by decide +kernel
theorem dm_pokeRoot_53 : decode km_pokeRoot 53 = .ok (.aload_n 0, 1) := by decide +kernel
theorem dm_pokeRoot_54 : decode km_pokeRoot 54 = .ok (.iconst 1, 1) := by decide +kernel
theorem dm_pokeRoot_55 : decode km_pokeRoot 55 = .ok (.putfield 123, 3) := by decide +kernel
theorem dm_pokeRoot_58 : decode km_pokeRoot 58 = .ok (.return_, 1) := by decide +kernel
theorem dm_badAt_0 : decode km_badAt 0 = .ok (.aload_n 0, 1) := by decide +kernel
theorem dm_badAt_1 : decode km_badAt 1 = .ok (.iconst 0, 1) := by decide +kernel
theorem dm_badAt_2 : decode km_badAt 2 = .ok (.putfield 44, 3) := by decide +kernel
theorem dm_badAt_5 : decode km_badAt 5 = .ok (.iconst 0, 1) := by decide +kernel
theorem dm_badAt_6 : decode km_badAt 6 = .ok (.istore_n 1, 1) := by decide +kernel
theorem dm_badAt_7 : decode km_badAt 7 = .ok (.iload_n 1, 1) := by decide +kernel
theorem dm_badAt_8 : decode km_badAt 8 = .ok (.aload_n 0, 1) := by decide +kernel
theorem dm_badAt_9 : decode km_badAt 9 = .ok (.getfield 33, 3) := by decide +kernel
theorem dm_badAt_12 : decode km_badAt 12 = .ok (.if_icmp .ge 27, 3) := by decide +kernel
theorem dm_badAt_15 : decode km_badAt 15 = .ok (.aload_n 0, 1) := by decide +kernel
theorem dm_badAt_16 : decode km_badAt 16 = .ok (.iload_n 1, 1) := by decide +kernel
theorem dm_badAt_17 : decode km_badAt 17 = .ok (.invokevirtual 102, 3) := by decide +kernel
theorem dm_badAt_20 : decode km_badAt 20 = .ok (.ifCond .ne 13, 3) := by decide +kernel
theorem dm_badAt_23 : decode km_badAt 23 = .ok (.aload_n 0, 1) := by decide +kernel
theorem dm_badAt_24 : decode km_badAt 24 = .ok (.iload_n 1, 1) := by decide +kernel
theorem dm_badAt_25 : decode km_badAt 25 = .ok (.invokevirtual 65, 3) := by decide +kernel
theorem dm_badAt_28 : decode km_badAt 28 = .ok (.ifCond .ne 5, 3) := by decide +kernel
theorem dm_badAt_31 : decode km_badAt 31 = .ok (.iload_n 1, 1) := by decide +kernel
theorem dm_badAt_32 : decode km_badAt 32 = .ok (.ireturn, 1) := by decide +kernel
theorem dm_badAt_33 : decode km_badAt 33 = .ok (.iinc 1 1, 3) := by decide +kernel
theorem dm_badAt_36 : decode km_badAt 36 = .ok (.goto (-29), 3) := by decide +kernel
theorem dm_badAt_39 : decode km_badAt 39 = .ok (.iconst 0, 1) := by decide +kernel
theorem dm_badAt_40 : decode km_badAt 40 = .ok (.istore_n 1, 1) := by decide +kernel
theorem dm_badAt_41 : decode km_badAt 41 = .ok (.iload_n 1, 1) := by decide +kernel
theorem dm_badAt_42 : decode km_badAt 42 = .ok (.bipush 8, 2) := by decide +kernel
theorem dm_badAt_44 : decode km_badAt 44 = .ok (.if_icmp .ge 89, 3) := by decide +kernel
theorem dm_badAt_47 : decode km_badAt 47 = .ok (.sipush 1024, 3) := by decide +kernel
theorem dm_badAt_50 : decode km_badAt 50 = .ok (.bipush 20, 2) := by decide +kernel
theorem dm_badAt_52 : decode km_badAt 52 = .ok (.iload_n 1, 1) := by decide +kernel
theorem dm_badAt_53 : decode km_badAt 53 = .ok (.imul, 1) := by decide +kernel
theorem dm_badAt_54 : decode km_badAt 54 = .ok (.iadd, 1) := by decide +kernel
theorem dm_badAt_55 : decode km_badAt 55 = .ok (.istore_n 2, 1) := by decide +kernel
theorem dm_badAt_56 : decode km_badAt 56 = .ok (.iconst 0, 1) := by decide +kernel
theorem dm_badAt_57 : decode km_badAt 57 = .ok (.istore_n 3, 1) := by decide +kernel
theorem dm_badAt_58 : decode km_badAt 58 = .ok (.iconst 0, 1) := by decide +kernel
theorem dm_badAt_59 : decode km_badAt 59 = .ok (.istore 4, 2) := by decide +kernel
theorem dm_badAt_61 : decode km_badAt 61 = .ok (.iload 4, 2) := by decide +kernel
theorem dm_badAt_63 : decode km_badAt 63 = .ok (.bipush 19, 2) := by decide +kernel
theorem dm_badAt_65 : decode km_badAt 65 = .ok (.if_icmp .ge 33, 3) := by decide +kernel
theorem dm_badAt_68 : decode km_badAt 68 = .ok (.iload_n 3, 1) := by decide +kernel
theorem dm_badAt_69 : decode km_badAt 69 = .ok (.ifCond .ne 17, 3) := by decide +kernel
theorem dm_badAt_72 : decode km_badAt 72 = .ok (.aload_n 0, 1) := by decide +kernel
theorem dm_badAt_73 : decode km_badAt 73 = .ok (.getfield 7, 3) := by decide +kernel
theorem dm_badAt_76 : decode km_badAt 76 = .ok (.iload_n 2, 1) := by decide +kernel
theorem dm_badAt_77 : decode km_badAt 77 = .ok (.iload 4, 2) := by decide +kernel
theorem dm_badAt_79 : decode km_badAt 79 = .ok (.iadd, 1) := by decide +kernel
theorem dm_badAt_80 : decode km_badAt 80 = .ok (.laload, 1) := by decide +kernel
theorem dm_badAt_81 : decode km_badAt 81 = .ok (.lconst 0, 1) := by decide +kernel
theorem dm_badAt_82 : decode km_badAt 82 = .ok (.lcmp, 1) := by decide +kernel
theorem dm_badAt_83 : decode km_badAt 83 = .ok (.ifCond .eq 7, 3) := by decide +kernel
theorem dm_badAt_86 : decode km_badAt 86 = .ok (.iconst 1, 1) := by decide +kernel
theorem dm_badAt_87 : decode km_badAt 87 = .ok (.goto 4, 3) := by decide +kernel
theorem dm_badAt_90 : decode km_badAt 90 = .ok (.iconst 0, 1) := by decide +kernel
theorem dm_badAt_91 : decode km_badAt 91 = .ok (.istore_n 3, 1) := by decide +kernel
theorem dm_badAt_92 : decode km_badAt 92 = .ok (.iinc 4 1, 3) := by decide +kernel
theorem dm_badAt_95 : decode km_badAt 95 = .ok (.goto (-34), 3) := by decide +kernel
theorem dm_badAt_98 : decode km_badAt 98 = .ok (.iload_n 3, 1) := by decide +kernel
theorem dm_badAt_99 : decode km_badAt 99 = .ok (.ifCond .eq 28, 3) := by decide +kernel
theorem dm_badAt_102 : decode km_badAt 102 = .ok (.aload_n 0, 1) := by decide +kernel
theorem dm_badAt_103 : decode km_badAt 103 = .ok (.getfield 7, 3) := by decide +kernel
theorem dm_badAt_106 : decode km_badAt 106 = .ok (.iload_n 2, 1) := by decide +kernel
theorem dm_badAt_107 : decode km_badAt 107 = .ok (.bipush 19, 2) := by decide +kernel
theorem dm_badAt_109 : decode km_badAt 109 = .ok (.iadd, 1) := by decide +kernel
theorem dm_badAt_110 : decode km_badAt 110 = .ok (.laload, 1) := by decide +kernel
theorem dm_badAt_111 : decode km_badAt 111 = .ok (.aload_n 0, 1) := by decide +kernel
theorem dm_badAt_112 : decode km_badAt 112 = .ok (.iload_n 2, 1) := by decide +kernel
theorem dm_badAt_113 : decode km_badAt 113 = .ok (.bipush 19, 2) := by decide +kernel
theorem dm_badAt_115 : decode km_badAt 115 = .ok (.invokevirtual 37, 3) := by decide +kernel
theorem dm_badAt_118 : decode km_badAt 118 = .ok (.lcmp, 1) := by decide +kernel
theorem dm_badAt_119 : decode km_badAt 119 = .ok (.ifCond .eq 8, 3) := by decide +kernel
theorem dm_badAt_122 : decode km_badAt 122 = .ok (.bipush 100, 2) := by decide +kernel
theorem dm_badAt_124 : decode km_badAt 124 = .ok (.iload_n 1, 1) := by decide +kernel
theorem dm_badAt_125 : decode km_badAt 125 = .ok (.iadd, 1) := by decide +kernel
theorem dm_badAt_126 : decode km_badAt 126 = .ok (.ireturn, 1) := by decide +kernel
theorem dm_badAt_127 : decode km_badAt 127 = .ok (.iinc 1 1, 3) := by decide +kernel
theorem dm_badAt_130 : decode km_badAt 130 = .ok (.goto (-89), 3) := by decide +kernel
theorem dm_badAt_133 : decode km_badAt 133 = .ok (.iconst (-1), 1) := by decide +kernel
theorem dm_badAt_134 : decode km_badAt 134 = .ok (.ireturn, 1) := by decide +kernel
