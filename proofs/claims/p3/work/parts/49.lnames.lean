abbrev kl_cell : ByteArray := method_2_code
def yl_cell : MethodName := ⟨"LeafBookLaw", "cell", "([II)I"⟩
theorem mcl_cell : Cond.code yl_cell kl_cell 2 (some .int) ∈ lw_g := List.mem_filter.mpr ⟨List.mem_append_right _ (List.mem_of_getElem? (i := 163) (by decide +kernel)), rfl⟩
abbrev kl_put : ByteArray := method_3_code
def yl_put : MethodName := ⟨"LeafBookLaw", "put", "(LLeafBook;IJ[J)I"⟩
theorem mcl_put : Cond.codeWith yl_put kl_put 6 (some .int) [(0, 11, 14, 13), (0, 11, 18, 15)] ∈ lw_g := List.mem_filter.mpr ⟨List.mem_append_right _ (List.mem_of_getElem? (i := 166) (by decide +kernel)), rfl⟩
abbrev kl_drop : ByteArray := method_4_code
def yl_drop : MethodName := ⟨"LeafBookLaw", "drop", "(LLeafBook;I[J)I"⟩
theorem mcl_drop : Cond.codeWith yl_drop kl_drop 4 (some .int) [(0, 9, 12, 13), (0, 9, 15, 15)] ∈ lw_g := List.mem_filter.mpr ⟨List.mem_append_right _ (List.mem_of_getElem? (i := 330) (by decide +kernel)), rfl⟩
abbrev kl_version : ByteArray := method_5_code
def yl_version : MethodName := ⟨"LeafBookLaw", "version", "(LLeafBook;[J)I"⟩
theorem mcl_version : Cond.codeWith yl_version kl_version 3 (some .int) [(0, 8, 11, 13)] ∈ lw_g := List.mem_filter.mpr ⟨List.mem_append_right _ (List.mem_of_getElem? (i := 341) (by decide +kernel)), rfl⟩
abbrev kl_has : ByteArray := method_6_code
def yl_has : MethodName := ⟨"LeafBookLaw", "has", "(LLeafBook;II[J)I"⟩
theorem mcl_has : Cond.codeWith yl_has kl_has 5 (some .int) [(0, 17, 20, 13), (0, 17, 24, 29)] ∈ lw_g := List.mem_filter.mpr ⟨List.mem_append_right _ (List.mem_of_getElem? (i := 348) (by decide +kernel)), rfl⟩
abbrev kl_find : ByteArray := method_7_code
def yl_find : MethodName := ⟨"LeafBookLaw", "find", "(LLeafBook;II[J)I"⟩
theorem mcl_find : Cond.codeWith yl_find kl_find 5 (some .int) [(0, 9, 12, 13), (0, 9, 16, 29)] ∈ lw_g := List.mem_filter.mpr ⟨List.mem_append_right _ (List.mem_of_getElem? (i := 380) (by decide +kernel)), rfl⟩
abbrev kl_count : ByteArray := method_8_code
def yl_count : MethodName := ⟨"LeafBookLaw", "count", "(LLeafBook;II[J)I"⟩
theorem mcl_count : Cond.codeWith yl_count kl_count 5 (some .int) [(0, 10, 13, 13), (0, 10, 17, 29), (0, 10, 21, 15)] ∈ lw_g := List.mem_filter.mpr ⟨List.mem_append_right _ (List.mem_of_getElem? (i := 387) (by decide +kernel)), rfl⟩
abbrev kl_key : ByteArray := method_9_code
def yl_key : MethodName := ⟨"LeafBookLaw", "key", "(LLeafBook;II[J)I"⟩
theorem mcl_key : Cond.codeWith yl_key kl_key 5 (some .int) [(0, 10, 13, 13), (0, 10, 17, 29)] ∈ lw_g := List.mem_filter.mpr ⟨List.mem_append_right _ (List.mem_of_getElem? (i := 395) (by decide +kernel)), rfl⟩
abbrev kl_same : ByteArray := method_10_code
def yl_same : MethodName := ⟨"LeafBookLaw", "same", "(LLeafBook;II[J)I"⟩
theorem mcl_same : Cond.codeWith yl_same kl_same 5 (some .int) [(0, 17, 20, 13), (0, 17, 24, 29)] ∈ lw_g := List.mem_filter.mpr ⟨List.mem_append_right _ (List.mem_of_getElem? (i := 407) (by decide +kernel)), rfl⟩
abbrev kl_free : ByteArray := method_11_code
def yl_free : MethodName := ⟨"LeafBookLaw", "free", "(LLeafBook;[J)I"⟩
theorem mcl_free : Cond.codeWith yl_free kl_free 3 (some .int) [(0, 8, 11, 13)] ∈ lw_g := List.mem_filter.mpr ⟨List.mem_append_right _ (List.mem_of_getElem? (i := 418) (by decide +kernel)), rfl⟩
abbrev kl_crash : ByteArray := method_12_code
def yl_crash : MethodName := ⟨"LeafBookLaw", "crash", "(LLeafBook;I[J)I"⟩
theorem mcl_crash : Cond.codeWith yl_crash kl_crash 4 (some .int) [(0, 9, 12, 13), (0, 9, 15, 15)] ∈ lw_g := List.mem_filter.mpr ⟨List.mem_append_right _ (List.mem_of_getElem? (i := 431) (by decide +kernel)), rfl⟩
abbrev kl_wordAt : ByteArray := method_13_code
def yl_wordAt : MethodName := ⟨"LeafBookLaw", "wordAt", "(LLeafBook;II[J)I"⟩
theorem mcl_wordAt : Cond.codeWith yl_wordAt kl_wordAt 5 (some .int) [(0, 9, 12, 29)] ∈ lw_g := List.mem_filter.mpr ⟨List.mem_append_right _ (List.mem_of_getElem? (i := 448) (by decide +kernel)), rfl⟩
abbrev kl_rootAt : ByteArray := method_14_code
def yl_rootAt : MethodName := ⟨"LeafBookLaw", "rootAt", "(LLeafBook;II[J)I"⟩
theorem mcl_rootAt : Cond.codeWith yl_rootAt kl_rootAt 5 (some .int) [(0, 9, 12, 29)] ∈ lw_g := List.mem_filter.mpr ⟨List.mem_append_right _ (List.mem_of_getElem? (i := 460) (by decide +kernel)), rfl⟩
abbrev kl_poke : ByteArray := method_15_code
def yl_poke : MethodName := ⟨"LeafBookLaw", "poke", "(LLeafBook;IIJ)I"⟩
theorem mcl_poke : Cond.codeWith yl_poke kl_poke 6 (some .int) [(0, 7, 10, 29), (0, 7, 14, 15)] ∈ lw_g := List.mem_filter.mpr ⟨List.mem_append_right _ (List.mem_of_getElem? (i := 472) (by decide +kernel)), rfl⟩
abbrev kl_pokeRoot : ByteArray := method_16_code
def yl_pokeRoot : MethodName := ⟨"LeafBookLaw", "pokeRoot", "(LLeafBook;IIJ)I"⟩
theorem mcl_pokeRoot : Cond.codeWith yl_pokeRoot kl_pokeRoot 6 (some .int) [(0, 7, 10, 29), (0, 7, 14, 15)] ∈ lw_g := List.mem_filter.mpr ⟨List.mem_append_right _ (List.mem_of_getElem? (i := 484) (by decide +kernel)), rfl⟩
theorem dl_cell_0 : decode kl_cell 0 = .ok (.iload_n 1, 1) := by decide +kernel
theorem dl_cell_1 : decode kl_cell 1 = .ok (.aload_n 0, 1) := by decide +kernel
theorem dl_cell_2 : decode kl_cell 2 = .ok (.arraylength, 1) := by decide +kernel
theorem dl_cell_3 : decode kl_cell 3 = .ok (.if_icmp .ge 9, 3) := by decide +kernel
theorem dl_cell_6 : decode kl_cell 6 = .ok (.aload_n 0, 1) := by decide +kernel
theorem dl_cell_7 : decode kl_cell 7 = .ok (.iload_n 1, 1) := by decide +kernel
theorem dl_cell_8 : decode kl_cell 8 = .ok (.iaload, 1) := by decide +kernel
theorem dl_cell_9 : decode kl_cell 9 = .ok (.goto 4, 3) := by decide +kernel
theorem dl_cell_12 : decode kl_cell 12 = .ok (.iconst 0, 1) := by decide +kernel
theorem dl_cell_13 : decode kl_cell 13 = .ok (.ireturn, 1) := by decide +kernel
theorem dl_put_0 : decode kl_put 0 = .ok (.aload 4, 2) := by decide +kernel
theorem dl_put_2 : decode kl_put 2 = .ok (.iconst 0, 1) := by decide +kernel
theorem dl_put_3 : decode kl_put 3 = .ok (.aload_n 0, 1) := by decide +kernel
theorem dl_put_4 : decode kl_put 4 = .ok (.iload_n 1, 1) := by decide +kernel
theorem dl_put_5 : decode kl_put 5 = .ok (.lload_n 2, 1) := by decide +kernel
theorem dl_put_6 : decode kl_put 6 = .ok (.invokevirtual 7, 3) := by decide +kernel
theorem dl_put_9 : decode kl_put 9 = .ok (.i2l, 1) := by decide +kernel
theorem dl_put_10 : decode kl_put 10 = .ok (.lastore, 1) := by decide +kernel
theorem dl_put_11 : decode kl_put 11 = .ok (.goto 11, 3) := by decide +kernel
theorem dl_put_14 : decode kl_put 14 = .ok (.astore 5, 2) := by decide +kernel
theorem dl_put_16 : decode kl_put 16 = .ok (.iconst 1, 1) := by decide +kernel
theorem dl_put_17 : decode kl_put 17 = .ok (.ireturn, 1) := by decide +kernel
theorem dl_put_18 : decode kl_put 18 = .ok (.astore 5, 2) := by decide +kernel
theorem dl_put_20 : decode kl_put 20 = .ok (.iconst 2, 1) := by decide +kernel
theorem dl_put_21 : decode kl_put 21 = .ok (.ireturn, 1) := by decide +kernel
theorem dl_put_22 : decode kl_put 22 = .ok (.iconst 0, 1) := by decide +kernel
theorem dl_put_23 : decode kl_put 23 = .ok (.ireturn, 1) := by decide +kernel
theorem dl_drop_0 : decode kl_drop 0 = .ok (.aload_n 2, 1) := by decide +kernel
theorem dl_drop_1 : decode kl_drop 1 = .ok (.iconst 0, 1) := by decide +kernel
theorem dl_drop_2 : decode kl_drop 2 = .ok (.aload_n 0, 1) := by decide +kernel
theorem dl_drop_3 : decode kl_drop 3 = .ok (.iload_n 1, 1) := by decide +kernel
theorem dl_drop_4 : decode kl_drop 4 = .ok (.invokevirtual 17, 3) := by decide +kernel
theorem dl_drop_7 : decode kl_drop 7 = .ok (.i2l, 1) := by decide +kernel
theorem dl_drop_8 : decode kl_drop 8 = .ok (.lastore, 1) := by decide +kernel
theorem dl_drop_9 : decode kl_drop 9 = .ok (.goto 9, 3) := by decide +kernel
theorem dl_drop_12 : decode kl_drop 12 = .ok (.astore_n 3, 1) := by decide +kernel
theorem dl_drop_13 : decode kl_drop 13 = .ok (.iconst 1, 1) := by decide +kernel
theorem dl_drop_14 : decode kl_drop 14 = .ok (.ireturn, 1) := by decide +kernel
theorem dl_drop_15 : decode kl_drop 15 = .ok (.astore_n 3, 1) := by decide +kernel
theorem dl_drop_16 : decode kl_drop 16 = .ok (.iconst 2, 1) := by decide +kernel
theorem dl_drop_17 : decode kl_drop 17 = .ok (.ireturn, 1) := by decide +kernel
theorem dl_drop_18 : decode kl_drop 18 = .ok (.iconst 0, 1) := by decide +kernel
theorem dl_drop_19 : decode kl_drop 19 = .ok (.ireturn, 1) := by decide +kernel
theorem dl_version_0 : decode kl_version 0 = .ok (.aload_n 1, 1) := by decide +kernel
theorem dl_version_1 : decode kl_version 1 = .ok (.iconst 0, 1) := by decide +kernel
theorem dl_version_2 : decode kl_version 2 = .ok (.aload_n 0, 1) := by decide +kernel
theorem dl_version_3 : decode kl_version 3 = .ok (.invokevirtual 21, 3) := by decide +kernel
theorem dl_version_6 : decode kl_version 6 = .ok (.i2l, 1) := by decide +kernel
theorem dl_version_7 : decode kl_version 7 = .ok (.lastore, 1) := by decide +kernel
theorem dl_version_8 : decode kl_version 8 = .ok (.goto 6, 3) := by decide +kernel
theorem dl_version_11 : decode kl_version 11 = .ok (.astore_n 2, 1) := by decide +kernel
theorem dl_version_12 : decode kl_version 12 = .ok (.iconst 1, 1) := by decide +kernel
theorem dl_version_13 : decode kl_version 13 = .ok (.ireturn, 1) := by decide +kernel
theorem dl_version_14 : decode kl_version 14 = .ok (.iconst 0, 1) := by decide +kernel
theorem dl_version_15 : decode kl_version 15 = .ok (.ireturn, 1) := by decide +kernel
theorem dl_has_0 : decode kl_has 0 = .ok (.aload_n 3, 1) := by decide +kernel
theorem dl_has_1 : decode kl_has 1 = .ok (.iconst 0, 1) := by decide +kernel
theorem dl_has_2 : decode kl_has 2 = .ok (.aload_n 0, 1) := by decide +kernel
theorem dl_has_3 : decode kl_has 3 = .ok (.iload_n 1, 1) := by decide +kernel
theorem dl_has_4 : decode kl_has 4 = .ok (.iload_n 2, 1) := by decide +kernel
theorem dl_has_5 : decode kl_has 5 = .ok (.invokevirtual 25, 3) := by decide +kernel
theorem dl_has_8 : decode kl_has 8 = .ok (.ifCond .eq 7, 3) := by decide +kernel
theorem dl_has_11 : decode kl_has 11 = .ok (.lconst 1, 1) := by decide +kernel
theorem dl_has_12 : decode kl_has 12 = .ok (.goto 4, 3) := by decide +kernel
theorem dl_has_15 : decode kl_has 15 = .ok (.lconst 0, 1) := by decide +kernel
theorem dl_has_16 : decode kl_has 16 = .ok (.lastore, 1) := by decide +kernel
theorem dl_has_17 : decode kl_has 17 = .ok (.goto 11, 3) := by decide +kernel
theorem dl_has_20 : decode kl_has 20 = .ok (.astore 4, 2) := by decide +kernel
theorem dl_has_22 : decode kl_has 22 = .ok (.iconst 1, 1) := by decide +kernel
theorem dl_has_23 : decode kl_has 23 = .ok (.ireturn, 1) := by decide +kernel
theorem dl_has_24 : decode kl_has 24 = .ok (.astore 4, 2) := by decide +kernel
theorem dl_has_26 : decode kl_has 26 = .ok (.iconst 2, 1) := by decide +kernel
theorem dl_has_27 : decode kl_has 27 = .ok (.ireturn, 1) := by decide +kernel
theorem dl_has_28 : decode kl_has 28 = .ok (.iconst 0, 1) := by decide +kernel
theorem dl_has_29 : decode kl_has 29 = .ok (.ireturn, 1) := by decide +kernel
theorem dl_find_0 : decode kl_find 0 = .ok (.aload_n 3, 1) := by decide +kernel
theorem dl_find_1 : decode kl_find 1 = .ok (.iconst 0, 1) := by decide +kernel
theorem dl_find_2 : decode kl_find 2 = .ok (.aload_n 0, 1) := by decide +kernel
theorem dl_find_3 : decode kl_find 3 = .ok (.iload_n 1, 1) := by decide +kernel
theorem dl_find_4 : decode kl_find 4 = .ok (.iload_n 2, 1) := by decide +kernel
theorem dl_find_5 : decode kl_find 5 = .ok (.invokevirtual 31, 3) := by decide +kernel
theorem dl_find_8 : decode kl_find 8 = .ok (.lastore, 1) := by decide +kernel
theorem dl_find_9 : decode kl_find 9 = .ok (.goto 11, 3) := by decide +kernel
theorem dl_find_12 : decode kl_find 12 = .ok (.astore 4, 2) := by decide +kernel
theorem dl_find_14 : decode kl_find 14 = .ok (.iconst 1, 1) := by decide +kernel
theorem dl_find_15 : decode kl_find 15 = .ok (.ireturn, 1) := by decide +kernel
theorem dl_find_16 : decode kl_find 16 = .ok (.astore 4, 2) := by decide +kernel
theorem dl_find_18 : decode kl_find 18 = .ok (.iconst 2, 1) := by decide +kernel
theorem dl_find_19 : decode kl_find 19 = .ok (.ireturn, 1) := by decide +kernel
theorem dl_find_20 : decode kl_find 20 = .ok (.iconst 0, 1) := by decide +kernel
theorem dl_find_21 : decode kl_find 21 = .ok (.ireturn, 1) := by decide +kernel
theorem dl_count_0 : decode kl_count 0 = .ok (.aload_n 3, 1) := by decide +kernel
theorem dl_count_1 : decode kl_count 1 = .ok (.iconst 0, 1) := by decide +kernel
theorem dl_count_2 : decode kl_count 2 = .ok (.aload_n 0, 1) := by decide +kernel
theorem dl_count_3 : decode kl_count 3 = .ok (.iload_n 1, 1) := by decide +kernel
theorem dl_count_4 : decode kl_count 4 = .ok (.iload_n 2, 1) := by decide +kernel
theorem dl_count_5 : decode kl_count 5 = .ok (.invokevirtual 35, 3) := by decide +kernel
theorem dl_count_8 : decode kl_count 8 = .ok (.i2l, 1) := by decide +kernel
theorem dl_count_9 : decode kl_count 9 = .ok (.lastore, 1) := by decide +kernel
theorem dl_count_10 : decode kl_count 10 = .ok (.goto 15, 3) := by decide +kernel
theorem dl_count_13 : decode kl_count 13 = .ok (.astore 4, 2) := by decide +kernel
theorem dl_count_15 : decode kl_count 15 = .ok (.iconst 1, 1) := by decide +kernel
theorem dl_count_16 : decode kl_count 16 = .ok (.ireturn, 1) := by decide +kernel
theorem dl_count_17 : decode kl_count 17 = .ok (.astore 4, 2) := by decide +kernel
theorem dl_count_19 : decode kl_count 19 = .ok (.iconst 2, 1) := by decide +kernel
theorem dl_count_20 : decode kl_count 20 = .ok (.ireturn, 1) := by decide +kernel
theorem dl_count_21 : decode kl_count 21 = .ok (.astore 4, 2) := by decide +kernel
theorem dl_count_23 : decode kl_count 23 = .ok (.iconst 3, 1) := by decide +kernel
theorem dl_count_24 : decode kl_count 24 = .ok (.ireturn, 1) := by decide +kernel
theorem dl_count_25 : decode kl_count 25 = .ok (.iconst 0, 1) := by decide +kernel
theorem dl_count_26 : decode kl_count 26 = .ok (.ireturn, 1) := by decide +kernel
theorem dl_key_0 : decode kl_key 0 = .ok (.aload_n 3, 1) := by decide +kernel
theorem dl_key_1 : decode kl_key 1 = .ok (.iconst 0, 1) := by decide +kernel
theorem dl_key_2 : decode kl_key 2 = .ok (.aload_n 0, 1) := by decide +kernel
theorem dl_key_3 : decode kl_key 3 = .ok (.iload_n 1, 1) := by decide +kernel
theorem dl_key_4 : decode kl_key 4 = .ok (.iload_n 2, 1) := by decide +kernel
theorem dl_key_5 : decode kl_key 5 = .ok (.invokevirtual 39, 3) := by decide +kernel
theorem dl_key_8 : decode kl_key 8 = .ok (.i2l, 1) := by decide +kernel
theorem dl_key_9 : decode kl_key 9 = .ok (.lastore, 1) := by decide +kernel
theorem dl_key_10 : decode kl_key 10 = .ok (.goto 11, 3) := by decide +kernel
theorem dl_key_13 : decode kl_key 13 = .ok (.astore 4, 2) := by decide +kernel
theorem dl_key_15 : decode kl_key 15 = .ok (.iconst 1, 1) := by decide +kernel
theorem dl_key_16 : decode kl_key 16 = .ok (.ireturn, 1) := by decide +kernel
theorem dl_key_17 : decode kl_key 17 = .ok (.astore 4, 2) := by decide +kernel
theorem dl_key_19 : decode kl_key 19 = .ok (.iconst 2, 1) := by decide +kernel
theorem dl_key_20 : decode kl_key 20 = .ok (.ireturn, 1) := by decide +kernel
theorem dl_key_21 : decode kl_key 21 = .ok (.iconst 0, 1) := by decide +kernel
theorem dl_key_22 : decode kl_key 22 = .ok (.ireturn, 1) := by decide +kernel
theorem dl_same_0 : decode kl_same 0 = .ok (.aload_n 3, 1) := by decide +kernel
theorem dl_same_1 : decode kl_same 1 = .ok (.iconst 0, 1) := by decide +kernel
theorem dl_same_2 : decode kl_same 2 = .ok (.aload_n 0, 1) := by decide +kernel
theorem dl_same_3 : decode kl_same 3 = .ok (.iload_n 1, 1) := by decide +kernel
theorem dl_same_4 : decode kl_same 4 = .ok (.iload_n 2, 1) := by decide +kernel
theorem dl_same_5 : decode kl_same 5 = .ok (.invokevirtual 42, 3) := by decide +kernel
theorem dl_same_8 : decode kl_same 8 = .ok (.ifCond .eq 7, 3) := by decide +kernel
theorem dl_same_11 : decode kl_same 11 = .ok (.lconst 1, 1) := by decide +kernel
theorem dl_same_12 : decode kl_same 12 = .ok (.goto 4, 3) := by decide +kernel
theorem dl_same_15 : decode kl_same 15 = .ok (.lconst 0, 1) := by decide +kernel
theorem dl_same_16 : decode kl_same 16 = .ok (.lastore, 1) := by decide +kernel
theorem dl_same_17 : decode kl_same 17 = .ok (.goto 11, 3) := by decide +kernel
theorem dl_same_20 : decode kl_same 20 = .ok (.astore 4, 2) := by decide +kernel
theorem dl_same_22 : decode kl_same 22 = .ok (.iconst 1, 1) := by decide +kernel
theorem dl_same_23 : decode kl_same 23 = .ok (.ireturn, 1) := by decide +kernel
theorem dl_same_24 : decode kl_same 24 = .ok (.astore 4, 2) := by decide +kernel
theorem dl_same_26 : decode kl_same 26 = .ok (.iconst 2, 1) := by decide +kernel
theorem dl_same_27 : decode kl_same 27 = .ok (.ireturn, 1) := by decide +kernel
theorem dl_same_28 : decode kl_same 28 = .ok (.iconst 0, 1) := by decide +kernel
theorem dl_same_29 : decode kl_same 29 = .ok (.ireturn, 1) := by decide +kernel
theorem dl_free_0 : decode kl_free 0 = .ok (.aload_n 1, 1) := by decide +kernel
theorem dl_free_1 : decode kl_free 1 = .ok (.iconst 0, 1) := by decide +kernel
theorem dl_free_2 : decode kl_free 2 = .ok (.aload_n 0, 1) := by decide +kernel
theorem dl_free_3 : decode kl_free 3 = .ok (.invokevirtual 45, 3) := by decide +kernel
theorem dl_free_6 : decode kl_free 6 = .ok (.i2l, 1) := by decide +kernel
theorem dl_free_7 : decode kl_free 7 = .ok (.lastore, 1) := by decide +kernel
theorem dl_free_8 : decode kl_free 8 = .ok (.goto 6, 3) := by decide +kernel
theorem dl_free_11 : decode kl_free 11 = .ok (.astore_n 2, 1) := by decide +kernel
theorem dl_free_12 : decode kl_free 12 = .ok (.iconst 1, 1) := by decide +kernel
theorem dl_free_13 : decode kl_free 13 = .ok (.ireturn, 1) := by decide +kernel
theorem dl_free_14 : decode kl_free 14 = .ok (.iconst 0, 1) := by decide +kernel
theorem dl_free_15 : decode kl_free 15 = .ok (.ireturn, 1) := by decide +kernel
theorem dl_crash_0 : decode kl_crash 0 = .ok (.aload_n 2, 1) := by decide +kernel
theorem dl_crash_1 : decode kl_crash 1 = .ok (.iconst 0, 1) := by decide +kernel
theorem dl_crash_2 : decode kl_crash 2 = .ok (.aload_n 0, 1) := by decide +kernel
theorem dl_crash_3 : decode kl_crash 3 = .ok (.iload_n 1, 1) := by decide +kernel
theorem dl_crash_4 : decode kl_crash 4 = .ok (.invokevirtual 48, 3) := by decide +kernel
theorem dl_crash_7 : decode kl_crash 7 = .ok (.i2l, 1) := by decide +kernel
theorem dl_crash_8 : decode kl_crash 8 = .ok (.lastore, 1) := by decide +kernel
theorem dl_crash_9 : decode kl_crash 9 = .ok (.goto 9, 3) := by decide +kernel
theorem dl_crash_12 : decode kl_crash 12 = .ok (.astore_n 3, 1) := by decide +kernel
theorem dl_crash_13 : decode kl_crash 13 = .ok (.iconst 1, 1) := by decide +kernel
theorem dl_crash_14 : decode kl_crash 14 = .ok (.ireturn, 1) := by decide +kernel
theorem dl_crash_15 : decode kl_crash 15 = .ok (.astore_n 3, 1) := by decide +kernel
theorem dl_crash_16 : decode kl_crash 16 = .ok (.iconst 2, 1) := by decide +kernel
theorem dl_crash_17 : decode kl_crash 17 = .ok (.ireturn, 1) := by decide +kernel
theorem dl_crash_18 : decode kl_crash 18 = .ok (.iconst 0, 1) := by decide +kernel
theorem dl_crash_19 : decode kl_crash 19 = .ok (.ireturn, 1) := by decide +kernel
theorem dl_wordAt_0 : decode kl_wordAt 0 = .ok (.aload_n 3, 1) := by decide +kernel
theorem dl_wordAt_1 : decode kl_wordAt 1 = .ok (.iconst 0, 1) := by decide +kernel
theorem dl_wordAt_2 : decode kl_wordAt 2 = .ok (.aload_n 0, 1) := by decide +kernel
theorem dl_wordAt_3 : decode kl_wordAt 3 = .ok (.iload_n 1, 1) := by decide +kernel
theorem dl_wordAt_4 : decode kl_wordAt 4 = .ok (.iload_n 2, 1) := by decide +kernel
theorem dl_wordAt_5 : decode kl_wordAt 5 = .ok (.invokevirtual 51, 3) := by decide +kernel
theorem dl_wordAt_8 : decode kl_wordAt 8 = .ok (.lastore, 1) := by decide +kernel
theorem dl_wordAt_9 : decode kl_wordAt 9 = .ok (.goto 7, 3) := by decide +kernel
theorem dl_wordAt_12 : decode kl_wordAt 12 = .ok (.astore 4, 2) := by decide +kernel
theorem dl_wordAt_14 : decode kl_wordAt 14 = .ok (.iconst 1, 1) := by decide +kernel
theorem dl_wordAt_15 : decode kl_wordAt 15 = .ok (.ireturn, 1) := by decide +kernel
theorem dl_wordAt_16 : decode kl_wordAt 16 = .ok (.iconst 0, 1) := by decide +kernel
theorem dl_wordAt_17 : decode kl_wordAt 17 = .ok (.ireturn, 1) := by decide +kernel
theorem dl_rootAt_0 : decode kl_rootAt 0 = .ok (.aload_n 3, 1) := by decide +kernel
theorem dl_rootAt_1 : decode kl_rootAt 1 = .ok (.iconst 0, 1) := by decide +kernel
theorem dl_rootAt_2 : decode kl_rootAt 2 = .ok (.aload_n 0, 1) := by decide +kernel
theorem dl_rootAt_3 : decode kl_rootAt 3 = .ok (.iload_n 1, 1) := by decide +kernel
theorem dl_rootAt_4 : decode kl_rootAt 4 = .ok (.iload_n 2, 1) := by decide +kernel
theorem dl_rootAt_5 : decode kl_rootAt 5 = .ok (.invokevirtual 54, 3) := by decide +kernel
theorem dl_rootAt_8 : decode kl_rootAt 8 = .ok (.lastore, 1) := by decide +kernel
theorem dl_rootAt_9 : decode kl_rootAt 9 = .ok (.goto 7, 3) := by decide +kernel
theorem dl_rootAt_12 : decode kl_rootAt 12 = .ok (.astore 4, 2) := by decide +kernel
theorem dl_rootAt_14 : decode kl_rootAt 14 = .ok (.iconst 1, 1) := by decide +kernel
theorem dl_rootAt_15 : decode kl_rootAt 15 = .ok (.ireturn, 1) := by decide +kernel
theorem dl_rootAt_16 : decode kl_rootAt 16 = .ok (.iconst 0, 1) := by decide +kernel
theorem dl_rootAt_17 : decode kl_rootAt 17 = .ok (.ireturn, 1) := by decide +kernel
theorem dl_poke_0 : decode kl_poke 0 = .ok (.aload_n 0, 1) := by decide +kernel
theorem dl_poke_1 : decode kl_poke 1 = .ok (.iload_n 1, 1) := by decide +kernel
theorem dl_poke_2 : decode kl_poke 2 = .ok (.iload_n 2, 1) := by decide +kernel
theorem dl_poke_3 : decode kl_poke 3 = .ok (.lload_n 3, 1) := by decide +kernel
theorem dl_poke_4 : decode kl_poke 4 = .ok (.invokevirtual 57, 3) := by decide +kernel
theorem dl_poke_7 : decode kl_poke 7 = .ok (.goto 11, 3) := by decide +kernel
theorem dl_poke_10 : decode kl_poke 10 = .ok (.astore 5, 2) := by decide +kernel
theorem dl_poke_12 : decode kl_poke 12 = .ok (.iconst 1, 1) := by decide +kernel
theorem dl_poke_13 : decode kl_poke 13 = .ok (.ireturn, 1) := by decide +kernel
theorem dl_poke_14 : decode kl_poke 14 = .ok (.astore 5, 2) := by decide +kernel
theorem dl_poke_16 : decode kl_poke 16 = .ok (.iconst 2, 1) := by decide +kernel
theorem dl_poke_17 : decode kl_poke 17 = .ok (.ireturn, 1) := by decide +kernel
theorem dl_poke_18 : decode kl_poke 18 = .ok (.iconst 0, 1) := by decide +kernel
theorem dl_poke_19 : decode kl_poke 19 = .ok (.ireturn, 1) := by decide +kernel
theorem dl_pokeRoot_0 : decode kl_pokeRoot 0 = .ok (.aload_n 0, 1) := by decide +kernel
theorem dl_pokeRoot_1 : decode kl_pokeRoot 1 = .ok (.iload_n 1, 1) := by decide +kernel
theorem dl_pokeRoot_2 : decode kl_pokeRoot 2 = .ok (.iload_n 2, 1) := by decide +kernel
theorem dl_pokeRoot_3 : decode kl_pokeRoot 3 = .ok (.lload_n 3, 1) := by decide +kernel
theorem dl_pokeRoot_4 : decode kl_pokeRoot 4 = .ok (.invokevirtual 61, 3) := by decide +kernel
theorem dl_pokeRoot_7 : decode kl_pokeRoot 7 = .ok (.goto 11, 3) := by decide +kernel
theorem dl_pokeRoot_10 : decode kl_pokeRoot 10 = .ok (.astore 5, 2) := by decide +kernel
theorem dl_pokeRoot_12 : decode kl_pokeRoot 12 = .ok (.iconst 1, 1) := by decide +kernel
theorem dl_pokeRoot_13 : decode kl_pokeRoot 13 = .ok (.ireturn, 1) := by decide +kernel
theorem dl_pokeRoot_14 : decode kl_pokeRoot 14 = .ok (.astore 5, 2) := by decide +kernel
theorem dl_pokeRoot_16 : decode kl_pokeRoot 16 = .ok (.iconst 2, 1) := by decide +kernel
theorem dl_pokeRoot_17 : decode kl_pokeRoot 17 = .ok (.ireturn, 1) := by decide +kernel
theorem dl_pokeRoot_18 : decode kl_pokeRoot 18 = .ok (.iconst 0, 1) := by decide +kernel
theorem dl_pokeRoot_19 : decode kl_pokeRoot 19 = .ok (.ireturn, 1) := by decide +kernel
theorem sfl_0 : Cond.castable (xx_nm 0) (xx_nm 0) ∈ lw_g := List.mem_filter.mpr ⟨List.mem_append_right _ (List.mem_of_getElem? (i := 183) (by decide +kernel)), rfl⟩
theorem cll_0 : Cond.classLink R_law 13 (xx_nm 0) ∈ lw_g := List.mem_filter.mpr ⟨List.mem_append_right _ (List.mem_of_getElem? (i := 167) (by decide +kernel)), rfl⟩
theorem sfl_1 : Cond.castable (xx_nm 1) (xx_nm 1) ∈ lw_g := List.mem_filter.mpr ⟨List.mem_append_right _ (List.mem_of_getElem? (i := 261) (by decide +kernel)), rfl⟩
theorem cll_1 : Cond.classLink R_law 15 (xx_nm 1) ∈ lw_g := List.mem_filter.mpr ⟨List.mem_append_right _ (List.mem_of_getElem? (i := 168) (by decide +kernel)), rfl⟩
theorem sfl_2 : Cond.castable (xx_nm 2) (xx_nm 2) ∈ lw_g := List.mem_filter.mpr ⟨List.mem_append_right _ (List.mem_of_getElem? (i := 360) (by decide +kernel)), rfl⟩
theorem cll_2 : Cond.classLink R_law 29 (xx_nm 2) ∈ lw_g := List.mem_filter.mpr ⟨List.mem_append_right _ (List.mem_of_getElem? (i := 349) (by decide +kernel)), rfl⟩
theorem inl_law : Cond.initialized R_law ∈ lw_g := List.mem_filter.mpr ⟨List.mem_append_right _ (List.mem_of_getElem? (i := 0) (by decide +kernel)), rfl⟩
theorem cw_l_put {R : Room} {s : State} {args : Array Value} (hts : ∀ w ∈ lw_g, w.before args s = true) {rm : Room} (hR : rm.frames + 1 ≤ R.frames ∧ 8 + (6 + 11) + rm.locals ≤ R.locals) : CallW R s args R_law RB 7 yb_put kb_put 6 (some .int) lw_g rm rm.cells rm.slots 2 := ⟨callB_x hts mcb_put 2 (List.mem_filter.mpr ⟨List.mem_append_right _ (List.mem_of_getElem? (i := 1) (by decide +kernel)), rfl⟩) (List.mem_filter.mpr ⟨List.mem_append_right _ (List.mem_of_getElem? (i := 169) (by decide +kernel)), rfl⟩) (by decide +kernel) hR, hts _ (List.mem_filter.mpr ⟨List.mem_append_right _ (List.mem_of_getElem? (i := 170) (by decide +kernel)), rfl⟩), hts _ (List.mem_filter.mpr ⟨List.mem_append_right _ (List.mem_of_getElem? (i := 171) (by decide +kernel)), rfl⟩)⟩
theorem cw_l_drop {R : Room} {s : State} {args : Array Value} (hts : ∀ w ∈ lw_g, w.before args s = true) {rm : Room} (hR : rm.frames + 1 ≤ R.frames ∧ 8 + (4 + 11) + rm.locals ≤ R.locals) : CallW R s args R_law RB 17 yb_drop kb_drop 4 (some .int) lw_g rm rm.cells rm.slots 1 := ⟨callB_x hts mcb_drop 1 (List.mem_filter.mpr ⟨List.mem_append_right _ (List.mem_of_getElem? (i := 1) (by decide +kernel)), rfl⟩) (List.mem_filter.mpr ⟨List.mem_append_right _ (List.mem_of_getElem? (i := 331) (by decide +kernel)), rfl⟩) (by decide +kernel) hR, hts _ (List.mem_filter.mpr ⟨List.mem_append_right _ (List.mem_of_getElem? (i := 332) (by decide +kernel)), rfl⟩), hts _ (List.mem_filter.mpr ⟨List.mem_append_right _ (List.mem_of_getElem? (i := 333) (by decide +kernel)), rfl⟩)⟩
theorem cw_l_version {R : Room} {s : State} {args : Array Value} (hts : ∀ w ∈ lw_g, w.before args s = true) {rm : Room} (hR : rm.frames + 1 ≤ R.frames ∧ 8 + (1 + 11) + rm.locals ≤ R.locals) : CallW R s args R_law RB 21 yb_version kb_version 1 (some .int) lw_g rm rm.cells rm.slots 0 := ⟨callB_x hts mcb_version 0 (List.mem_filter.mpr ⟨List.mem_append_right _ (List.mem_of_getElem? (i := 1) (by decide +kernel)), rfl⟩) (List.mem_filter.mpr ⟨List.mem_append_right _ (List.mem_of_getElem? (i := 342) (by decide +kernel)), rfl⟩) (by decide +kernel) hR, hts _ (List.mem_filter.mpr ⟨List.mem_append_right _ (List.mem_of_getElem? (i := 343) (by decide +kernel)), rfl⟩), hts _ (List.mem_filter.mpr ⟨List.mem_append_right _ (List.mem_of_getElem? (i := 344) (by decide +kernel)), rfl⟩)⟩
theorem cw_l_has {R : Room} {s : State} {args : Array Value} (hts : ∀ w ∈ lw_g, w.before args s = true) {rm : Room} (hR : rm.frames + 1 ≤ R.frames ∧ 8 + (3 + 11) + rm.locals ≤ R.locals) : CallW R s args R_law RB 25 yb_has kb_has 3 (some .boolean) lw_g rm rm.cells rm.slots 2 := ⟨callB_x hts mcb_has 2 (List.mem_filter.mpr ⟨List.mem_append_right _ (List.mem_of_getElem? (i := 1) (by decide +kernel)), rfl⟩) (List.mem_filter.mpr ⟨List.mem_append_right _ (List.mem_of_getElem? (i := 350) (by decide +kernel)), rfl⟩) (by decide +kernel) hR, hts _ (List.mem_filter.mpr ⟨List.mem_append_right _ (List.mem_of_getElem? (i := 351) (by decide +kernel)), rfl⟩), hts _ (List.mem_filter.mpr ⟨List.mem_append_right _ (List.mem_of_getElem? (i := 352) (by decide +kernel)), rfl⟩)⟩
theorem cw_l_find {R : Room} {s : State} {args : Array Value} (hts : ∀ w ∈ lw_g, w.before args s = true) {rm : Room} (hR : rm.frames + 1 ≤ R.frames ∧ 8 + (4 + 11) + rm.locals ≤ R.locals) : CallW R s args R_law RB 31 yb_find kb_find 4 (some .long) lw_g rm rm.cells rm.slots 2 := ⟨callB_x hts mcb_find 2 (List.mem_filter.mpr ⟨List.mem_append_right _ (List.mem_of_getElem? (i := 1) (by decide +kernel)), rfl⟩) (List.mem_filter.mpr ⟨List.mem_append_right _ (List.mem_of_getElem? (i := 381) (by decide +kernel)), rfl⟩) (by decide +kernel) hR, hts _ (List.mem_filter.mpr ⟨List.mem_append_right _ (List.mem_of_getElem? (i := 382) (by decide +kernel)), rfl⟩), hts _ (List.mem_filter.mpr ⟨List.mem_append_right _ (List.mem_of_getElem? (i := 383) (by decide +kernel)), rfl⟩)⟩
theorem cw_l_count {R : Room} {s : State} {args : Array Value} (hts : ∀ w ∈ lw_g, w.before args s = true) {rm : Room} (hR : rm.frames + 1 ≤ R.frames ∧ 8 + (4 + 11) + rm.locals ≤ R.locals) : CallW R s args R_law RB 35 yb_count kb_count 4 (some .int) lw_g rm rm.cells rm.slots 2 := ⟨callB_x hts mcb_count 2 (List.mem_filter.mpr ⟨List.mem_append_right _ (List.mem_of_getElem? (i := 1) (by decide +kernel)), rfl⟩) (List.mem_filter.mpr ⟨List.mem_append_right _ (List.mem_of_getElem? (i := 388) (by decide +kernel)), rfl⟩) (by decide +kernel) hR, hts _ (List.mem_filter.mpr ⟨List.mem_append_right _ (List.mem_of_getElem? (i := 389) (by decide +kernel)), rfl⟩), hts _ (List.mem_filter.mpr ⟨List.mem_append_right _ (List.mem_of_getElem? (i := 390) (by decide +kernel)), rfl⟩)⟩
theorem cw_l_key {R : Room} {s : State} {args : Array Value} (hts : ∀ w ∈ lw_g, w.before args s = true) {rm : Room} (hR : rm.frames + 1 ≤ R.frames ∧ 8 + (4 + 11) + rm.locals ≤ R.locals) : CallW R s args R_law RB 39 yb_key kb_key 4 (some .int) lw_g rm rm.cells rm.slots 2 := ⟨callB_x hts mcb_key 2 (List.mem_filter.mpr ⟨List.mem_append_right _ (List.mem_of_getElem? (i := 1) (by decide +kernel)), rfl⟩) (List.mem_filter.mpr ⟨List.mem_append_right _ (List.mem_of_getElem? (i := 396) (by decide +kernel)), rfl⟩) (by decide +kernel) hR, hts _ (List.mem_filter.mpr ⟨List.mem_append_right _ (List.mem_of_getElem? (i := 397) (by decide +kernel)), rfl⟩), hts _ (List.mem_filter.mpr ⟨List.mem_append_right _ (List.mem_of_getElem? (i := 398) (by decide +kernel)), rfl⟩)⟩
theorem cw_l_same {R : Room} {s : State} {args : Array Value} (hts : ∀ w ∈ lw_g, w.before args s = true) {rm : Room} (hR : rm.frames + 1 ≤ R.frames ∧ 8 + (3 + 11) + rm.locals ≤ R.locals) : CallW R s args R_law RB 42 yb_same kb_same 3 (some .boolean) lw_g rm rm.cells rm.slots 2 := ⟨callB_x hts mcb_same 2 (List.mem_filter.mpr ⟨List.mem_append_right _ (List.mem_of_getElem? (i := 1) (by decide +kernel)), rfl⟩) (List.mem_filter.mpr ⟨List.mem_append_right _ (List.mem_of_getElem? (i := 408) (by decide +kernel)), rfl⟩) (by decide +kernel) hR, hts _ (List.mem_filter.mpr ⟨List.mem_append_right _ (List.mem_of_getElem? (i := 409) (by decide +kernel)), rfl⟩), hts _ (List.mem_filter.mpr ⟨List.mem_append_right _ (List.mem_of_getElem? (i := 410) (by decide +kernel)), rfl⟩)⟩
theorem cw_l_free {R : Room} {s : State} {args : Array Value} (hts : ∀ w ∈ lw_g, w.before args s = true) {rm : Room} (hR : rm.frames + 1 ≤ R.frames ∧ 8 + (1 + 11) + rm.locals ≤ R.locals) : CallW R s args R_law RB 45 yb_free kb_free 1 (some .int) lw_g rm rm.cells rm.slots 0 := ⟨callB_x hts mcb_free 0 (List.mem_filter.mpr ⟨List.mem_append_right _ (List.mem_of_getElem? (i := 1) (by decide +kernel)), rfl⟩) (List.mem_filter.mpr ⟨List.mem_append_right _ (List.mem_of_getElem? (i := 419) (by decide +kernel)), rfl⟩) (by decide +kernel) hR, hts _ (List.mem_filter.mpr ⟨List.mem_append_right _ (List.mem_of_getElem? (i := 420) (by decide +kernel)), rfl⟩), hts _ (List.mem_filter.mpr ⟨List.mem_append_right _ (List.mem_of_getElem? (i := 421) (by decide +kernel)), rfl⟩)⟩
theorem cw_l_crash {R : Room} {s : State} {args : Array Value} (hts : ∀ w ∈ lw_g, w.before args s = true) {rm : Room} (hR : rm.frames + 1 ≤ R.frames ∧ 8 + (2 + 11) + rm.locals ≤ R.locals) : CallW R s args R_law RB 48 yb_crash kb_crash 2 (some .int) lw_g rm rm.cells rm.slots 1 := ⟨callB_x hts mcb_crash 1 (List.mem_filter.mpr ⟨List.mem_append_right _ (List.mem_of_getElem? (i := 1) (by decide +kernel)), rfl⟩) (List.mem_filter.mpr ⟨List.mem_append_right _ (List.mem_of_getElem? (i := 432) (by decide +kernel)), rfl⟩) (by decide +kernel) hR, hts _ (List.mem_filter.mpr ⟨List.mem_append_right _ (List.mem_of_getElem? (i := 433) (by decide +kernel)), rfl⟩), hts _ (List.mem_filter.mpr ⟨List.mem_append_right _ (List.mem_of_getElem? (i := 434) (by decide +kernel)), rfl⟩)⟩
theorem cw_l_reopen {R : Room} {s : State} {args : Array Value} (hts : ∀ w ∈ lw_g, w.before args s = true) {rm : Room} (hR : rm.frames + 1 ≤ R.frames ∧ 8 + (2 + 11) + rm.locals ≤ R.locals) : CallW R s args R_law RB 115 yb_reopen kb_reopen 2 (some .int) lw_g rm rm.cells rm.slots 0 := ⟨callB_x hts mcb_reopen 0 (List.mem_filter.mpr ⟨List.mem_append_right _ (List.mem_of_getElem? (i := 1) (by decide +kernel)), rfl⟩) (List.mem_filter.mpr ⟨List.mem_append_right _ (List.mem_of_getElem? (i := 80) (by decide +kernel)), rfl⟩) (by decide +kernel) hR, hts _ (List.mem_filter.mpr ⟨List.mem_append_right _ (List.mem_of_getElem? (i := 81) (by decide +kernel)), rfl⟩), hts _ (List.mem_filter.mpr ⟨List.mem_append_right _ (List.mem_of_getElem? (i := 82) (by decide +kernel)), rfl⟩)⟩
theorem cw_l_wordAt {R : Room} {s : State} {args : Array Value} (hts : ∀ w ∈ lw_g, w.before args s = true) {rm : Room} (hR : rm.frames + 1 ≤ R.frames ∧ 8 + (3 + 11) + rm.locals ≤ R.locals) : CallW R s args R_law RB 51 yb_wordAt kb_wordAt 3 (some .long) lw_g rm rm.cells rm.slots 2 := ⟨callB_x hts mcb_wordAt 2 (List.mem_filter.mpr ⟨List.mem_append_right _ (List.mem_of_getElem? (i := 1) (by decide +kernel)), rfl⟩) (List.mem_filter.mpr ⟨List.mem_append_right _ (List.mem_of_getElem? (i := 449) (by decide +kernel)), rfl⟩) (by decide +kernel) hR, hts _ (List.mem_filter.mpr ⟨List.mem_append_right _ (List.mem_of_getElem? (i := 450) (by decide +kernel)), rfl⟩), hts _ (List.mem_filter.mpr ⟨List.mem_append_right _ (List.mem_of_getElem? (i := 451) (by decide +kernel)), rfl⟩)⟩
theorem cw_l_rootAt {R : Room} {s : State} {args : Array Value} (hts : ∀ w ∈ lw_g, w.before args s = true) {rm : Room} (hR : rm.frames + 1 ≤ R.frames ∧ 8 + (3 + 11) + rm.locals ≤ R.locals) : CallW R s args R_law RB 54 yb_rootAt kb_rootAt 3 (some .long) lw_g rm rm.cells rm.slots 2 := ⟨callB_x hts mcb_rootAt 2 (List.mem_filter.mpr ⟨List.mem_append_right _ (List.mem_of_getElem? (i := 1) (by decide +kernel)), rfl⟩) (List.mem_filter.mpr ⟨List.mem_append_right _ (List.mem_of_getElem? (i := 461) (by decide +kernel)), rfl⟩) (by decide +kernel) hR, hts _ (List.mem_filter.mpr ⟨List.mem_append_right _ (List.mem_of_getElem? (i := 462) (by decide +kernel)), rfl⟩), hts _ (List.mem_filter.mpr ⟨List.mem_append_right _ (List.mem_of_getElem? (i := 463) (by decide +kernel)), rfl⟩)⟩
theorem cw_l_poke {R : Room} {s : State} {args : Array Value} (hts : ∀ w ∈ lw_g, w.before args s = true) {rm : Room} (hR : rm.frames + 1 ≤ R.frames ∧ 8 + (5 + 11) + rm.locals ≤ R.locals) : CallW R s args R_law RB 57 yb_poke kb_poke 5 (none) lw_g rm rm.cells rm.slots 3 := ⟨callB_x hts mcb_poke 3 (List.mem_filter.mpr ⟨List.mem_append_right _ (List.mem_of_getElem? (i := 1) (by decide +kernel)), rfl⟩) (List.mem_filter.mpr ⟨List.mem_append_right _ (List.mem_of_getElem? (i := 473) (by decide +kernel)), rfl⟩) (by decide +kernel) hR, hts _ (List.mem_filter.mpr ⟨List.mem_append_right _ (List.mem_of_getElem? (i := 474) (by decide +kernel)), rfl⟩), hts _ (List.mem_filter.mpr ⟨List.mem_append_right _ (List.mem_of_getElem? (i := 475) (by decide +kernel)), rfl⟩)⟩
theorem cw_l_pokeRoot {R : Room} {s : State} {args : Array Value} (hts : ∀ w ∈ lw_g, w.before args s = true) {rm : Room} (hR : rm.frames + 1 ≤ R.frames ∧ 8 + (5 + 11) + rm.locals ≤ R.locals) : CallW R s args R_law RB 61 yb_pokeRoot kb_pokeRoot 5 (none) lw_g rm rm.cells rm.slots 3 := ⟨callB_x hts mcb_pokeRoot 3 (List.mem_filter.mpr ⟨List.mem_append_right _ (List.mem_of_getElem? (i := 1) (by decide +kernel)), rfl⟩) (List.mem_filter.mpr ⟨List.mem_append_right _ (List.mem_of_getElem? (i := 485) (by decide +kernel)), rfl⟩) (by decide +kernel) hR, hts _ (List.mem_filter.mpr ⟨List.mem_append_right _ (List.mem_of_getElem? (i := 486) (by decide +kernel)), rfl⟩), hts _ (List.mem_filter.mpr ⟨List.mem_append_right _ (List.mem_of_getElem? (i := 487) (by decide +kernel)), rfl⟩)⟩
theorem cw_l_badAt {R : Room} {s : State} {args : Array Value} (hts : ∀ w ∈ lw_g, w.before args s = true) {rm : Room} (hR : rm.frames + 1 ≤ R.frames ∧ 8 + (4 + 11) + rm.locals ≤ R.locals) : CallW R s args R_law RB 132 yb_badAt kb_badAt 4 (some .int) lw_g rm rm.cells rm.slots 0 := ⟨callB_x hts mcb_badAt 0 (List.mem_filter.mpr ⟨List.mem_append_right _ (List.mem_of_getElem? (i := 1) (by decide +kernel)), rfl⟩) (List.mem_filter.mpr ⟨List.mem_append_right _ (List.mem_of_getElem? (i := 142) (by decide +kernel)), rfl⟩) (by decide +kernel) hR, hts _ (List.mem_filter.mpr ⟨List.mem_append_right _ (List.mem_of_getElem? (i := 143) (by decide +kernel)), rfl⟩), hts _ (List.mem_filter.mpr ⟨List.mem_append_right _ (List.mem_of_getElem? (i := 144) (by decide +kernel)), rfl⟩)⟩
theorem cw_lm_thrown {R : Room} {s : State} {args : Array Value} (hts : ∀ w ∈ lw_g, w.before args s = true) {rm : Room} (hR : rm.frames + 1 ≤ R.frames ∧ 8 + (1 + 11) + rm.locals ≤ R.locals) : CallW R s args R_law RMo 86 ym_thrown km_thrown 1 (some .int) lw_g rm rm.cells rm.slots 0 := ⟨callB_x hts mcm_thrown 0 (List.mem_filter.mpr ⟨List.mem_append_right _ (List.mem_of_getElem? (i := 3) (by decide +kernel)), rfl⟩) (List.mem_filter.mpr ⟨List.mem_append_right _ (List.mem_of_getElem? (i := 547) (by decide +kernel)), rfl⟩) (by decide +kernel) hR, hts _ (List.mem_filter.mpr ⟨List.mem_append_right _ (List.mem_of_getElem? (i := 548) (by decide +kernel)), rfl⟩), hts _ (List.mem_filter.mpr ⟨List.mem_append_right _ (List.mem_of_getElem? (i := 549) (by decide +kernel)), rfl⟩)⟩
theorem cw_lm_version {R : Room} {s : State} {args : Array Value} (hts : ∀ w ∈ lw_g, w.before args s = true) {rm : Room} (hR : rm.frames + 1 ≤ R.frames ∧ 8 + (1 + 11) + rm.locals ≤ R.locals) : CallW R s args R_law RMo 92 ym_version km_version 1 (some .int) lw_g rm rm.cells rm.slots 0 := ⟨callB_x hts mcm_version 0 (List.mem_filter.mpr ⟨List.mem_append_right _ (List.mem_of_getElem? (i := 3) (by decide +kernel)), rfl⟩) (List.mem_filter.mpr ⟨List.mem_append_right _ (List.mem_of_getElem? (i := 551) (by decide +kernel)), rfl⟩) (by decide +kernel) hR, hts _ (List.mem_filter.mpr ⟨List.mem_append_right _ (List.mem_of_getElem? (i := 552) (by decide +kernel)), rfl⟩), hts _ (List.mem_filter.mpr ⟨List.mem_append_right _ (List.mem_of_getElem? (i := 553) (by decide +kernel)), rfl⟩)⟩
theorem cw_lm_has {R : Room} {s : State} {args : Array Value} (hts : ∀ w ∈ lw_g, w.before args s = true) {rm : Room} (hR : rm.frames + 1 ≤ R.frames ∧ 8 + (3 + 11) + rm.locals ≤ R.locals) : CallW R s args R_law RMo 96 ym_has km_has 3 (some .boolean) lw_g rm rm.cells rm.slots 2 := ⟨callB_x hts mcm_has 2 (List.mem_filter.mpr ⟨List.mem_append_right _ (List.mem_of_getElem? (i := 3) (by decide +kernel)), rfl⟩) (List.mem_filter.mpr ⟨List.mem_append_right _ (List.mem_of_getElem? (i := 555) (by decide +kernel)), rfl⟩) (by decide +kernel) hR, hts _ (List.mem_filter.mpr ⟨List.mem_append_right _ (List.mem_of_getElem? (i := 556) (by decide +kernel)), rfl⟩), hts _ (List.mem_filter.mpr ⟨List.mem_append_right _ (List.mem_of_getElem? (i := 557) (by decide +kernel)), rfl⟩)⟩
theorem cw_lm_find {R : Room} {s : State} {args : Array Value} (hts : ∀ w ∈ lw_g, w.before args s = true) {rm : Room} (hR : rm.frames + 1 ≤ R.frames ∧ 8 + (4 + 11) + rm.locals ≤ R.locals) : CallW R s args R_law RMo 99 ym_find km_find 4 (some .long) lw_g rm rm.cells rm.slots 2 := ⟨callB_x hts mcm_find 2 (List.mem_filter.mpr ⟨List.mem_append_right _ (List.mem_of_getElem? (i := 3) (by decide +kernel)), rfl⟩) (List.mem_filter.mpr ⟨List.mem_append_right _ (List.mem_of_getElem? (i := 602) (by decide +kernel)), rfl⟩) (by decide +kernel) hR, hts _ (List.mem_filter.mpr ⟨List.mem_append_right _ (List.mem_of_getElem? (i := 603) (by decide +kernel)), rfl⟩), hts _ (List.mem_filter.mpr ⟨List.mem_append_right _ (List.mem_of_getElem? (i := 604) (by decide +kernel)), rfl⟩)⟩
theorem cw_lm_count {R : Room} {s : State} {args : Array Value} (hts : ∀ w ∈ lw_g, w.before args s = true) {rm : Room} (hR : rm.frames + 1 ≤ R.frames ∧ 8 + (3 + 11) + rm.locals ≤ R.locals) : CallW R s args R_law RMo 102 ym_count km_count 3 (some .int) lw_g rm rm.cells rm.slots 2 := ⟨callB_x hts mcm_count 2 (List.mem_filter.mpr ⟨List.mem_append_right _ (List.mem_of_getElem? (i := 3) (by decide +kernel)), rfl⟩) (List.mem_filter.mpr ⟨List.mem_append_right _ (List.mem_of_getElem? (i := 606) (by decide +kernel)), rfl⟩) (by decide +kernel) hR, hts _ (List.mem_filter.mpr ⟨List.mem_append_right _ (List.mem_of_getElem? (i := 607) (by decide +kernel)), rfl⟩), hts _ (List.mem_filter.mpr ⟨List.mem_append_right _ (List.mem_of_getElem? (i := 608) (by decide +kernel)), rfl⟩)⟩
theorem cw_lm_key {R : Room} {s : State} {args : Array Value} (hts : ∀ w ∈ lw_g, w.before args s = true) {rm : Room} (hR : rm.frames + 1 ≤ R.frames ∧ 8 + (4 + 11) + rm.locals ≤ R.locals) : CallW R s args R_law RMo 105 ym_key km_key 4 (some .int) lw_g rm rm.cells rm.slots 2 := ⟨callB_x hts mcm_key 2 (List.mem_filter.mpr ⟨List.mem_append_right _ (List.mem_of_getElem? (i := 3) (by decide +kernel)), rfl⟩) (List.mem_filter.mpr ⟨List.mem_append_right _ (List.mem_of_getElem? (i := 614) (by decide +kernel)), rfl⟩) (by decide +kernel) hR, hts _ (List.mem_filter.mpr ⟨List.mem_append_right _ (List.mem_of_getElem? (i := 615) (by decide +kernel)), rfl⟩), hts _ (List.mem_filter.mpr ⟨List.mem_append_right _ (List.mem_of_getElem? (i := 616) (by decide +kernel)), rfl⟩)⟩
theorem cw_lm_same {R : Room} {s : State} {args : Array Value} (hts : ∀ w ∈ lw_g, w.before args s = true) {rm : Room} (hR : rm.frames + 1 ≤ R.frames ∧ 8 + (7 + 11) + rm.locals ≤ R.locals) : CallW R s args R_law RMo 108 ym_same km_same 7 (some .boolean) lw_g rm rm.cells rm.slots 2 := ⟨callB_x hts mcm_same 2 (List.mem_filter.mpr ⟨List.mem_append_right _ (List.mem_of_getElem? (i := 3) (by decide +kernel)), rfl⟩) (List.mem_filter.mpr ⟨List.mem_append_right _ (List.mem_of_getElem? (i := 618) (by decide +kernel)), rfl⟩) (by decide +kernel) hR, hts _ (List.mem_filter.mpr ⟨List.mem_append_right _ (List.mem_of_getElem? (i := 619) (by decide +kernel)), rfl⟩), hts _ (List.mem_filter.mpr ⟨List.mem_append_right _ (List.mem_of_getElem? (i := 620) (by decide +kernel)), rfl⟩)⟩
theorem cw_lm_free {R : Room} {s : State} {args : Array Value} (hts : ∀ w ∈ lw_g, w.before args s = true) {rm : Room} (hR : rm.frames + 1 ≤ R.frames ∧ 8 + (3 + 11) + rm.locals ≤ R.locals) : CallW R s args R_law RMo 111 ym_free km_free 3 (some .int) lw_g rm rm.cells rm.slots 0 := ⟨callB_x hts mcm_free 0 (List.mem_filter.mpr ⟨List.mem_append_right _ (List.mem_of_getElem? (i := 3) (by decide +kernel)), rfl⟩) (List.mem_filter.mpr ⟨List.mem_append_right _ (List.mem_of_getElem? (i := 622) (by decide +kernel)), rfl⟩) (by decide +kernel) hR, hts _ (List.mem_filter.mpr ⟨List.mem_append_right _ (List.mem_of_getElem? (i := 623) (by decide +kernel)), rfl⟩), hts _ (List.mem_filter.mpr ⟨List.mem_append_right _ (List.mem_of_getElem? (i := 624) (by decide +kernel)), rfl⟩)⟩
theorem cw_lm_put {R : Room} {s : State} {args : Array Value} (hts : ∀ w ∈ lw_g, w.before args s = true) {rm : Room} (hR : rm.frames + 1 ≤ R.frames ∧ 8 + (6 + 11) + rm.locals ≤ R.locals) : CallW R s args R_law RMo 81 ym_put km_put 6 (some .int) lw_g rm rm.cells rm.slots 2 := ⟨callB_x hts mcm_put 2 (List.mem_filter.mpr ⟨List.mem_append_right _ (List.mem_of_getElem? (i := 3) (by decide +kernel)), rfl⟩) (List.mem_filter.mpr ⟨List.mem_append_right _ (List.mem_of_getElem? (i := 630) (by decide +kernel)), rfl⟩) (by decide +kernel) hR, hts _ (List.mem_filter.mpr ⟨List.mem_append_right _ (List.mem_of_getElem? (i := 631) (by decide +kernel)), rfl⟩), hts _ (List.mem_filter.mpr ⟨List.mem_append_right _ (List.mem_of_getElem? (i := 632) (by decide +kernel)), rfl⟩)⟩
theorem cw_lm_drop {R : Room} {s : State} {args : Array Value} (hts : ∀ w ∈ lw_g, w.before args s = true) {rm : Room} (hR : rm.frames + 1 ≤ R.frames ∧ 8 + (3 + 11) + rm.locals ≤ R.locals) : CallW R s args R_law RMo 85 ym_drop km_drop 3 (some .int) lw_g rm rm.cells rm.slots 1 := ⟨callB_x hts mcm_drop 1 (List.mem_filter.mpr ⟨List.mem_append_right _ (List.mem_of_getElem? (i := 3) (by decide +kernel)), rfl⟩) (List.mem_filter.mpr ⟨List.mem_append_right _ (List.mem_of_getElem? (i := 671) (by decide +kernel)), rfl⟩) (by decide +kernel) hR, hts _ (List.mem_filter.mpr ⟨List.mem_append_right _ (List.mem_of_getElem? (i := 672) (by decide +kernel)), rfl⟩), hts _ (List.mem_filter.mpr ⟨List.mem_append_right _ (List.mem_of_getElem? (i := 673) (by decide +kernel)), rfl⟩)⟩
theorem cw_lm_crash {R : Room} {s : State} {args : Array Value} (hts : ∀ w ∈ lw_g, w.before args s = true) {rm : Room} (hR : rm.frames + 1 ≤ R.frames ∧ 8 + (4 + 11) + rm.locals ≤ R.locals) : CallW R s args R_law RMo 114 ym_crash km_crash 4 (some .int) lw_g rm rm.cells rm.slots 1 := ⟨callB_x hts mcm_crash 1 (List.mem_filter.mpr ⟨List.mem_append_right _ (List.mem_of_getElem? (i := 3) (by decide +kernel)), rfl⟩) (List.mem_filter.mpr ⟨List.mem_append_right _ (List.mem_of_getElem? (i := 679) (by decide +kernel)), rfl⟩) (by decide +kernel) hR, hts _ (List.mem_filter.mpr ⟨List.mem_append_right _ (List.mem_of_getElem? (i := 680) (by decide +kernel)), rfl⟩), hts _ (List.mem_filter.mpr ⟨List.mem_append_right _ (List.mem_of_getElem? (i := 681) (by decide +kernel)), rfl⟩)⟩
theorem cw_lm_reopen {R : Room} {s : State} {args : Array Value} (hts : ∀ w ∈ lw_g, w.before args s = true) {rm : Room} (hR : rm.frames + 1 ≤ R.frames ∧ 8 + (4 + 11) + rm.locals ≤ R.locals) : CallW R s args R_law RMo 118 ym_reopen km_reopen 4 (some .int) lw_g rm rm.cells rm.slots 0 := ⟨callB_x hts mcm_reopen 0 (List.mem_filter.mpr ⟨List.mem_append_right _ (List.mem_of_getElem? (i := 3) (by decide +kernel)), rfl⟩) (List.mem_filter.mpr ⟨List.mem_append_right _ (List.mem_of_getElem? (i := 683) (by decide +kernel)), rfl⟩) (by decide +kernel) hR, hts _ (List.mem_filter.mpr ⟨List.mem_append_right _ (List.mem_of_getElem? (i := 684) (by decide +kernel)), rfl⟩), hts _ (List.mem_filter.mpr ⟨List.mem_append_right _ (List.mem_of_getElem? (i := 685) (by decide +kernel)), rfl⟩)⟩
theorem cw_lm_wordAt {R : Room} {s : State} {args : Array Value} (hts : ∀ w ∈ lw_g, w.before args s = true) {rm : Room} (hR : rm.frames + 1 ≤ R.frames ∧ 8 + (3 + 11) + rm.locals ≤ R.locals) : CallW R s args R_law RMo 121 ym_wordAt km_wordAt 3 (some .long) lw_g rm rm.cells rm.slots 2 := ⟨callB_x hts mcm_wordAt 2 (List.mem_filter.mpr ⟨List.mem_append_right _ (List.mem_of_getElem? (i := 3) (by decide +kernel)), rfl⟩) (List.mem_filter.mpr ⟨List.mem_append_right _ (List.mem_of_getElem? (i := 689) (by decide +kernel)), rfl⟩) (by decide +kernel) hR, hts _ (List.mem_filter.mpr ⟨List.mem_append_right _ (List.mem_of_getElem? (i := 690) (by decide +kernel)), rfl⟩), hts _ (List.mem_filter.mpr ⟨List.mem_append_right _ (List.mem_of_getElem? (i := 691) (by decide +kernel)), rfl⟩)⟩
theorem cw_lm_rootAt {R : Room} {s : State} {args : Array Value} (hts : ∀ w ∈ lw_g, w.before args s = true) {rm : Room} (hR : rm.frames + 1 ≤ R.frames ∧ 8 + (3 + 11) + rm.locals ≤ R.locals) : CallW R s args R_law RMo 124 ym_rootAt km_rootAt 3 (some .long) lw_g rm rm.cells rm.slots 2 := ⟨callB_x hts mcm_rootAt 2 (List.mem_filter.mpr ⟨List.mem_append_right _ (List.mem_of_getElem? (i := 3) (by decide +kernel)), rfl⟩) (List.mem_filter.mpr ⟨List.mem_append_right _ (List.mem_of_getElem? (i := 697) (by decide +kernel)), rfl⟩) (by decide +kernel) hR, hts _ (List.mem_filter.mpr ⟨List.mem_append_right _ (List.mem_of_getElem? (i := 698) (by decide +kernel)), rfl⟩), hts _ (List.mem_filter.mpr ⟨List.mem_append_right _ (List.mem_of_getElem? (i := 699) (by decide +kernel)), rfl⟩)⟩
theorem cw_lm_poke {R : Room} {s : State} {args : Array Value} (hts : ∀ w ∈ lw_g, w.before args s = true) {rm : Room} (hR : rm.frames + 1 ≤ R.frames ∧ 8 + (5 + 11) + rm.locals ≤ R.locals) : CallW R s args R_law RMo 128 ym_poke km_poke 5 (none) lw_g rm rm.cells rm.slots 3 := ⟨callB_x hts mcm_poke 3 (List.mem_filter.mpr ⟨List.mem_append_right _ (List.mem_of_getElem? (i := 3) (by decide +kernel)), rfl⟩) (List.mem_filter.mpr ⟨List.mem_append_right _ (List.mem_of_getElem? (i := 704) (by decide +kernel)), rfl⟩) (by decide +kernel) hR, hts _ (List.mem_filter.mpr ⟨List.mem_append_right _ (List.mem_of_getElem? (i := 705) (by decide +kernel)), rfl⟩), hts _ (List.mem_filter.mpr ⟨List.mem_append_right _ (List.mem_of_getElem? (i := 706) (by decide +kernel)), rfl⟩)⟩
theorem cw_lm_pokeRoot {R : Room} {s : State} {args : Array Value} (hts : ∀ w ∈ lw_g, w.before args s = true) {rm : Room} (hR : rm.frames + 1 ≤ R.frames ∧ 8 + (5 + 11) + rm.locals ≤ R.locals) : CallW R s args R_law RMo 131 ym_pokeRoot km_pokeRoot 5 (none) lw_g rm rm.cells rm.slots 3 := ⟨callB_x hts mcm_pokeRoot 3 (List.mem_filter.mpr ⟨List.mem_append_right _ (List.mem_of_getElem? (i := 3) (by decide +kernel)), rfl⟩) (List.mem_filter.mpr ⟨List.mem_append_right _ (List.mem_of_getElem? (i := 708) (by decide +kernel)), rfl⟩) (by decide +kernel) hR, hts _ (List.mem_filter.mpr ⟨List.mem_append_right _ (List.mem_of_getElem? (i := 709) (by decide +kernel)), rfl⟩), hts _ (List.mem_filter.mpr ⟨List.mem_append_right _ (List.mem_of_getElem? (i := 710) (by decide +kernel)), rfl⟩)⟩
theorem cw_lm_badAt {R : Room} {s : State} {args : Array Value} (hts : ∀ w ∈ lw_g, w.before args s = true) {rm : Room} (hR : rm.frames + 1 ≤ R.frames ∧ 8 + (5 + 11) + rm.locals ≤ R.locals) : CallW R s args R_law RMo 135 ym_badAt km_badAt 5 (some .int) lw_g rm rm.cells rm.slots 0 := ⟨callB_x hts mcm_badAt 0 (List.mem_filter.mpr ⟨List.mem_append_right _ (List.mem_of_getElem? (i := 3) (by decide +kernel)), rfl⟩) (List.mem_filter.mpr ⟨List.mem_append_right _ (List.mem_of_getElem? (i := 712) (by decide +kernel)), rfl⟩) (by decide +kernel) hR, hts _ (List.mem_filter.mpr ⟨List.mem_append_right _ (List.mem_of_getElem? (i := 713) (by decide +kernel)), rfl⟩), hts _ (List.mem_filter.mpr ⟨List.mem_append_right _ (List.mem_of_getElem? (i := 714) (by decide +kernel)), rfl⟩)⟩
