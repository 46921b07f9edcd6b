section
-- ===== PART A: goes FIRST, ahead of the names: the tables' words, and 'selects' of the private methods out of them =====
/-- a private method of a class that the tables say can be made, by its rows of tables_1 -/
def lw_okq (q : MethodName × Nat) : Prop := (q.1.cls ≠ "java/lang/invoke/MethodHandle" ∧ q.1.cls ≠ "java/lang/invoke/VarHandle") ∧ Cond.instantiable q.1.cls q.2 ∈ tables_1 ∧ Cond.privateMethod q.1 ∈ tables_1 ∧ Cond.instanceMethod q.1 ∈ tables_1
theorem lw_p0 : lw_okq (⟨"LeafBook", "makeRootZeroAnew", "()V"⟩, 13) := ⟨⟨by decide +kernel, by decide +kernel⟩, List.mem_of_getElem? (i := 13) (by decide +kernel), List.mem_of_getElem? (i := 27) (by decide +kernel), List.mem_of_getElem? (i := 28) (by decide +kernel)⟩
theorem lw_p1 : lw_okq (⟨"LeafBook", "clearRoot", "(I)V"⟩, 13) := ⟨⟨by decide +kernel, by decide +kernel⟩, List.mem_of_getElem? (i := 13) (by decide +kernel), List.mem_of_getElem? (i := 31) (by decide +kernel), List.mem_of_getElem? (i := 32) (by decide +kernel)⟩
theorem lw_p2 : lw_okq (⟨"LeafBook", "greatestWhole", "()I"⟩, 13) := ⟨⟨by decide +kernel, by decide +kernel⟩, List.mem_of_getElem? (i := 13) (by decide +kernel), List.mem_of_getElem? (i := 85) (by decide +kernel), List.mem_of_getElem? (i := 86) (by decide +kernel)⟩
theorem lw_p3 : lw_okq (⟨"LeafBook", "isRightRoot", "(I)Z"⟩, 13) := ⟨⟨by decide +kernel, by decide +kernel⟩, List.mem_of_getElem? (i := 13) (by decide +kernel), List.mem_of_getElem? (i := 97) (by decide +kernel), List.mem_of_getElem? (i := 98) (by decide +kernel)⟩
theorem lw_p4 : lw_okq (⟨"LeafBook", "hasRootSum", "(I)Z"⟩, 13) := ⟨⟨by decide +kernel, by decide +kernel⟩, List.mem_of_getElem? (i := 13) (by decide +kernel), List.mem_of_getElem? (i := 101) (by decide +kernel), List.mem_of_getElem? (i := 102) (by decide +kernel)⟩
theorem lw_p5 : lw_okq (⟨"LeafBook", "isSound", "(I)Z"⟩, 13) := ⟨⟨by decide +kernel, by decide +kernel⟩, List.mem_of_getElem? (i := 13) (by decide +kernel), List.mem_of_getElem? (i := 105) (by decide +kernel), List.mem_of_getElem? (i := 106) (by decide +kernel)⟩
theorem lw_p6 : lw_okq (⟨"LeafBook", "hasRightLeaves", "(I)Z"⟩, 13) := ⟨⟨by decide +kernel, by decide +kernel⟩, List.mem_of_getElem? (i := 13) (by decide +kernel), List.mem_of_getElem? (i := 110) (by decide +kernel), List.mem_of_getElem? (i := 111) (by decide +kernel)⟩
theorem lw_p7 : lw_okq (⟨"LeafBook", "leavesOf", "(I)I"⟩, 13) := ⟨⟨by decide +kernel, by decide +kernel⟩, List.mem_of_getElem? (i := 13) (by decide +kernel), List.mem_of_getElem? (i := 114) (by decide +kernel), List.mem_of_getElem? (i := 115) (by decide +kernel)⟩
theorem lw_p8 : lw_okq (⟨"LeafBook", "pageOf", "(II)I"⟩, 13) := ⟨⟨by decide +kernel, by decide +kernel⟩, List.mem_of_getElem? (i := 13) (by decide +kernel), List.mem_of_getElem? (i := 118) (by decide +kernel), List.mem_of_getElem? (i := 119) (by decide +kernel)⟩
theorem lw_p9 : lw_okq (⟨"LeafBook", "isRightPage", "(I)Z"⟩, 13) := ⟨⟨by decide +kernel, by decide +kernel⟩, List.mem_of_getElem? (i := 13) (by decide +kernel), List.mem_of_getElem? (i := 122) (by decide +kernel), List.mem_of_getElem? (i := 123) (by decide +kernel)⟩
theorem lw_p10 : lw_okq (⟨"LeafBook", "entriesOf", "(I)I"⟩, 13) := ⟨⟨by decide +kernel, by decide +kernel⟩, List.mem_of_getElem? (i := 13) (by decide +kernel), List.mem_of_getElem? (i := 128) (by decide +kernel), List.mem_of_getElem? (i := 129) (by decide +kernel)⟩
theorem lw_p11 : lw_okq (⟨"LeafBook", "firstKey", "(I)J"⟩, 13) := ⟨⟨by decide +kernel, by decide +kernel⟩, List.mem_of_getElem? (i := 13) (by decide +kernel), List.mem_of_getElem? (i := 132) (by decide +kernel), List.mem_of_getElem? (i := 133) (by decide +kernel)⟩
theorem lw_p12 : lw_okq (⟨"LeafBook", "lastKey", "(I)J"⟩, 13) := ⟨⟨by decide +kernel, by decide +kernel⟩, List.mem_of_getElem? (i := 13) (by decide +kernel), List.mem_of_getElem? (i := 139) (by decide +kernel), List.mem_of_getElem? (i := 140) (by decide +kernel)⟩
theorem lw_p13 : lw_okq (⟨"LeafBook", "heldPages", "()J"⟩, 13) := ⟨⟨by decide +kernel, by decide +kernel⟩, List.mem_of_getElem? (i := 13) (by decide +kernel), List.mem_of_getElem? (i := 147) (by decide +kernel), List.mem_of_getElem? (i := 148) (by decide +kernel)⟩
theorem lw_p14 : lw_okq (⟨"LeafBook", "pagesOf", "(I)J"⟩, 13) := ⟨⟨by decide +kernel, by decide +kernel⟩, List.mem_of_getElem? (i := 13) (by decide +kernel), List.mem_of_getElem? (i := 151) (by decide +kernel), List.mem_of_getElem? (i := 152) (by decide +kernel)⟩
theorem lw_p15 : lw_okq (⟨"LeafBook", "isBlankRoot", "(I)Z"⟩, 13) := ⟨⟨by decide +kernel, by decide +kernel⟩, List.mem_of_getElem? (i := 13) (by decide +kernel), List.mem_of_getElem? (i := 158) (by decide +kernel), List.mem_of_getElem? (i := 159) (by decide +kernel)⟩
def lw_privs_1 : List (MethodName × Nat) := [(⟨"LeafBook", "makeRootZeroAnew", "()V"⟩, 13), (⟨"LeafBook", "clearRoot", "(I)V"⟩, 13), (⟨"LeafBook", "greatestWhole", "()I"⟩, 13), (⟨"LeafBook", "isRightRoot", "(I)Z"⟩, 13), (⟨"LeafBook", "hasRootSum", "(I)Z"⟩, 13), (⟨"LeafBook", "isSound", "(I)Z"⟩, 13), (⟨"LeafBook", "hasRightLeaves", "(I)Z"⟩, 13), (⟨"LeafBook", "leavesOf", "(I)I"⟩, 13), (⟨"LeafBook", "pageOf", "(II)I"⟩, 13), (⟨"LeafBook", "isRightPage", "(I)Z"⟩, 13), (⟨"LeafBook", "entriesOf", "(I)I"⟩, 13), (⟨"LeafBook", "firstKey", "(I)J"⟩, 13), (⟨"LeafBook", "lastKey", "(I)J"⟩, 13), (⟨"LeafBook", "heldPages", "()J"⟩, 13), (⟨"LeafBook", "pagesOf", "(I)J"⟩, 13), (⟨"LeafBook", "isBlankRoot", "(I)Z"⟩, 13)]
theorem lw_r1 : ∀ q ∈ lw_privs_1, lw_okq q := List.forall_mem_cons.mpr ⟨lw_p0, List.forall_mem_cons.mpr ⟨lw_p1, List.forall_mem_cons.mpr ⟨lw_p2, List.forall_mem_cons.mpr ⟨lw_p3, List.forall_mem_cons.mpr ⟨lw_p4, List.forall_mem_cons.mpr ⟨lw_p5, List.forall_mem_cons.mpr ⟨lw_p6, List.forall_mem_cons.mpr ⟨lw_p7, List.forall_mem_cons.mpr ⟨lw_p8, List.forall_mem_cons.mpr ⟨lw_p9, List.forall_mem_cons.mpr ⟨lw_p10, List.forall_mem_cons.mpr ⟨lw_p11, List.forall_mem_cons.mpr ⟨lw_p12, List.forall_mem_cons.mpr ⟨lw_p13, List.forall_mem_cons.mpr ⟨lw_p14, List.forall_mem_cons.mpr ⟨lw_p15, fun _ h => absurd h List.not_mem_nil⟩⟩⟩⟩⟩⟩⟩⟩⟩⟩⟩⟩⟩⟩⟩⟩
theorem lw_p16 : lw_okq (⟨"LeafBook", "requireWritable", "()V"⟩, 13) := ⟨⟨by decide +kernel, by decide +kernel⟩, List.mem_of_getElem? (i := 13) (by decide +kernel), List.mem_of_getElem? (i := 174) (by decide +kernel), List.mem_of_getElem? (i := 175) (by decide +kernel)⟩
theorem lw_p17 : lw_okq (⟨"LeafBook", "requireOpen", "()V"⟩, 13) := ⟨⟨by decide +kernel, by decide +kernel⟩, List.mem_of_getElem? (i := 13) (by decide +kernel), List.mem_of_getElem? (i := 178) (by decide +kernel), List.mem_of_getElem? (i := 179) (by decide +kernel)⟩
theorem lw_p18 : lw_okq (⟨"java/lang/Throwable", "fillInStackTrace", "(I)Ljava/lang/Throwable;"⟩, 6) := ⟨⟨by decide +kernel, by decide +kernel⟩, List.mem_of_getElem? (i := 220) (by decide +kernel), List.mem_of_getElem? (i := 218) (by decide +kernel), List.mem_of_getElem? (i := 219) (by decide +kernel)⟩
theorem lw_p19 : lw_okq (⟨"LeafBook", "isKept", "(I)Z"⟩, 13) := ⟨⟨by decide +kernel, by decide +kernel⟩, List.mem_of_getElem? (i := 13) (by decide +kernel), List.mem_of_getElem? (i := 250) (by decide +kernel), List.mem_of_getElem? (i := 251) (by decide +kernel)⟩
theorem lw_p20 : lw_okq (⟨"LeafBook", "requireKey", "(I)V"⟩, 13) := ⟨⟨by decide +kernel, by decide +kernel⟩, List.mem_of_getElem? (i := 13) (by decide +kernel), List.mem_of_getElem? (i := 255) (by decide +kernel), List.mem_of_getElem? (i := 256) (by decide +kernel)⟩
theorem lw_p21 : lw_okq (⟨"LeafBook", "leafFor", "(II)I"⟩, 13) := ⟨⟨by decide +kernel, by decide +kernel⟩, List.mem_of_getElem? (i := 13) (by decide +kernel), List.mem_of_getElem? (i := 276) (by decide +kernel), List.mem_of_getElem? (i := 277) (by decide +kernel)⟩
theorem lw_p22 : lw_okq (⟨"LeafBook", "loadDraft", "(II)V"⟩, 13) := ⟨⟨by decide +kernel, by decide +kernel⟩, List.mem_of_getElem? (i := 13) (by decide +kernel), List.mem_of_getElem? (i := 280) (by decide +kernel), List.mem_of_getElem? (i := 281) (by decide +kernel)⟩
theorem lw_p23 : lw_okq (⟨"LeafBook", "putInDraft", "(IJ)V"⟩, 13) := ⟨⟨by decide +kernel, by decide +kernel⟩, List.mem_of_getElem? (i := 13) (by decide +kernel), List.mem_of_getElem? (i := 284) (by decide +kernel), List.mem_of_getElem? (i := 285) (by decide +kernel)⟩
theorem lw_p24 : lw_okq (⟨"LeafBook", "placeInDraft", "(I)I"⟩, 13) := ⟨⟨by decide +kernel, by decide +kernel⟩, List.mem_of_getElem? (i := 13) (by decide +kernel), List.mem_of_getElem? (i := 288) (by decide +kernel), List.mem_of_getElem? (i := 289) (by decide +kernel)⟩
theorem lw_p25 : lw_okq (⟨"LeafBook", "draftHasAt", "(II)Z"⟩, 13) := ⟨⟨by decide +kernel, by decide +kernel⟩, List.mem_of_getElem? (i := 13) (by decide +kernel), List.mem_of_getElem? (i := 292) (by decide +kernel), List.mem_of_getElem? (i := 293) (by decide +kernel)⟩
theorem lw_p26 : lw_okq (⟨"LeafBook", "act", "(II)I"⟩, 13) := ⟨⟨by decide +kernel, by decide +kernel⟩, List.mem_of_getElem? (i := 13) (by decide +kernel), List.mem_of_getElem? (i := 296) (by decide +kernel), List.mem_of_getElem? (i := 297) (by decide +kernel)⟩
theorem lw_p27 : lw_okq (⟨"LeafBook", "pageNotIn", "(JI)I"⟩, 13) := ⟨⟨by decide +kernel, by decide +kernel⟩, List.mem_of_getElem? (i := 13) (by decide +kernel), List.mem_of_getElem? (i := 301) (by decide +kernel), List.mem_of_getElem? (i := 302) (by decide +kernel)⟩
theorem lw_p28 : lw_okq (⟨"LeafBook", "saveWordsBefore", "()V"⟩, 13) := ⟨⟨by decide +kernel, by decide +kernel⟩, List.mem_of_getElem? (i := 13) (by decide +kernel), List.mem_of_getElem? (i := 306) (by decide +kernel), List.mem_of_getElem? (i := 307) (by decide +kernel)⟩
theorem lw_p29 : lw_okq (⟨"LeafBook", "writeLeaves", "()V"⟩, 13) := ⟨⟨by decide +kernel, by decide +kernel⟩, List.mem_of_getElem? (i := 13) (by decide +kernel), List.mem_of_getElem? (i := 313) (by decide +kernel), List.mem_of_getElem? (i := 314) (by decide +kernel)⟩
theorem lw_p30 : lw_okq (⟨"LeafBook", "writeLeaf", "(III)V"⟩, 13) := ⟨⟨by decide +kernel, by decide +kernel⟩, List.mem_of_getElem? (i := 13) (by decide +kernel), List.mem_of_getElem? (i := 317) (by decide +kernel), List.mem_of_getElem? (i := 318) (by decide +kernel)⟩
theorem lw_p31 : lw_okq (⟨"LeafBook", "writeRoot", "(II)V"⟩, 13) := ⟨⟨by decide +kernel, by decide +kernel⟩, List.mem_of_getElem? (i := 13) (by decide +kernel), List.mem_of_getElem? (i := 321) (by decide +kernel), List.mem_of_getElem? (i := 322) (by decide +kernel)⟩
def lw_privs_2 : List (MethodName × Nat) := [(⟨"LeafBook", "requireWritable", "()V"⟩, 13), (⟨"LeafBook", "requireOpen", "()V"⟩, 13), (⟨"java/lang/Throwable", "fillInStackTrace", "(I)Ljava/lang/Throwable;"⟩, 6), (⟨"LeafBook", "isKept", "(I)Z"⟩, 13), (⟨"LeafBook", "requireKey", "(I)V"⟩, 13), (⟨"LeafBook", "leafFor", "(II)I"⟩, 13), (⟨"LeafBook", "loadDraft", "(II)V"⟩, 13), (⟨"LeafBook", "putInDraft", "(IJ)V"⟩, 13), (⟨"LeafBook", "placeInDraft", "(I)I"⟩, 13), (⟨"LeafBook", "draftHasAt", "(II)Z"⟩, 13), (⟨"LeafBook", "act", "(II)I"⟩, 13), (⟨"LeafBook", "pageNotIn", "(JI)I"⟩, 13), (⟨"LeafBook", "saveWordsBefore", "()V"⟩, 13), (⟨"LeafBook", "writeLeaves", "()V"⟩, 13), (⟨"LeafBook", "writeLeaf", "(III)V"⟩, 13), (⟨"LeafBook", "writeRoot", "(II)V"⟩, 13)]
theorem lw_r2 : ∀ q ∈ lw_privs_2, lw_okq q := List.forall_mem_cons.mpr ⟨lw_p16, List.forall_mem_cons.mpr ⟨lw_p17, List.forall_mem_cons.mpr ⟨lw_p18, List.forall_mem_cons.mpr ⟨lw_p19, List.forall_mem_cons.mpr ⟨lw_p20, List.forall_mem_cons.mpr ⟨lw_p21, List.forall_mem_cons.mpr ⟨lw_p22, List.forall_mem_cons.mpr ⟨lw_p23, List.forall_mem_cons.mpr ⟨lw_p24, List.forall_mem_cons.mpr ⟨lw_p25, List.forall_mem_cons.mpr ⟨lw_p26, List.forall_mem_cons.mpr ⟨lw_p27, List.forall_mem_cons.mpr ⟨lw_p28, List.forall_mem_cons.mpr ⟨lw_p29, List.forall_mem_cons.mpr ⟨lw_p30, List.forall_mem_cons.mpr ⟨lw_p31, fun _ h => absurd h List.not_mem_nil⟩⟩⟩⟩⟩⟩⟩⟩⟩⟩⟩⟩⟩⟩⟩⟩
theorem lw_p32 : lw_okq (⟨"LeafBook", "entriesOfRoot", "(I)I"⟩, 13) := ⟨⟨by decide +kernel, by decide +kernel⟩, List.mem_of_getElem? (i := 13) (by decide +kernel), List.mem_of_getElem? (i := 325) (by decide +kernel), List.mem_of_getElem? (i := 326) (by decide +kernel)⟩
theorem lw_p33 : lw_okq (⟨"LeafBook", "dropFromDraft", "(I)Z"⟩, 13) := ⟨⟨by decide +kernel, by decide +kernel⟩, List.mem_of_getElem? (i := 13) (by decide +kernel), List.mem_of_getElem? (i := 336) (by decide +kernel), List.mem_of_getElem? (i := 337) (by decide +kernel)⟩
theorem lw_p34 : lw_okq (⟨"LeafBook", "requireKept", "(I)V"⟩, 13) := ⟨⟨by decide +kernel, by decide +kernel⟩, List.mem_of_getElem? (i := 13) (by decide +kernel), List.mem_of_getElem? (i := 355) (by decide +kernel), List.mem_of_getElem? (i := 356) (by decide +kernel)⟩
theorem lw_p35 : lw_okq (⟨"LeafBook", "entryWithKey", "(II)I"⟩, 13) := ⟨⟨by decide +kernel, by decide +kernel⟩, List.mem_of_getElem? (i := 13) (by decide +kernel), List.mem_of_getElem? (i := 375) (by decide +kernel), List.mem_of_getElem? (i := 376) (by decide +kernel)⟩
theorem lw_p36 : lw_okq (⟨"LeafBook", "entryByNumber", "(II)I"⟩, 13) := ⟨⟨by decide +kernel, by decide +kernel⟩, List.mem_of_getElem? (i := 13) (by decide +kernel), List.mem_of_getElem? (i := 401) (by decide +kernel), List.mem_of_getElem? (i := 402) (by decide +kernel)⟩
theorem lw_p37 : lw_okq (⟨"LeafBook", "haveSameEntries", "(II)Z"⟩, 13) := ⟨⟨by decide +kernel, by decide +kernel⟩, List.mem_of_getElem? (i := 13) (by decide +kernel), List.mem_of_getElem? (i := 413) (by decide +kernel), List.mem_of_getElem? (i := 414) (by decide +kernel)⟩
theorem lw_p38 : lw_okq (⟨"LeafBook", "restoreFrom", "(I)V"⟩, 13) := ⟨⟨by decide +kernel, by decide +kernel⟩, List.mem_of_getElem? (i := 13) (by decide +kernel), List.mem_of_getElem? (i := 439) (by decide +kernel), List.mem_of_getElem? (i := 440) (by decide +kernel)⟩
theorem lw_p39 : lw_okq (⟨"LeafBook", "writtenWords", "()I"⟩, 13) := ⟨⟨by decide +kernel, by decide +kernel⟩, List.mem_of_getElem? (i := 13) (by decide +kernel), List.mem_of_getElem? (i := 443) (by decide +kernel), List.mem_of_getElem? (i := 444) (by decide +kernel)⟩
theorem lw_p40 : lw_okq (⟨"LeafBook", "requirePageWord", "(II)V"⟩, 13) := ⟨⟨by decide +kernel, by decide +kernel⟩, List.mem_of_getElem? (i := 13) (by decide +kernel), List.mem_of_getElem? (i := 454) (by decide +kernel), List.mem_of_getElem? (i := 455) (by decide +kernel)⟩
theorem lw_p41 : lw_okq (⟨"LeafBook", "requireRootWord", "(II)V"⟩, 13) := ⟨⟨by decide +kernel, by decide +kernel⟩, List.mem_of_getElem? (i := 13) (by decide +kernel), List.mem_of_getElem? (i := 466) (by decide +kernel), List.mem_of_getElem? (i := 467) (by decide +kernel)⟩
theorem lw_p42 : lw_okq (⟨"LeafBook", "requireMask", "(J)V"⟩, 13) := ⟨⟨by decide +kernel, by decide +kernel⟩, List.mem_of_getElem? (i := 13) (by decide +kernel), List.mem_of_getElem? (i := 478) (by decide +kernel), List.mem_of_getElem? (i := 479) (by decide +kernel)⟩
theorem lw_p43 : lw_okq (⟨"LeafBookModel", "sum", "(II)J"⟩, 15) := ⟨⟨by decide +kernel, by decide +kernel⟩, List.mem_of_getElem? (i := 490) (by decide +kernel), List.mem_of_getElem? (i := 496) (by decide +kernel), List.mem_of_getElem? (i := 497) (by decide +kernel)⟩
theorem lw_p44 : lw_okq (⟨"LeafBookModel", "isKept", "(I)Z"⟩, 15) := ⟨⟨by decide +kernel, by decide +kernel⟩, List.mem_of_getElem? (i := 490) (by decide +kernel), List.mem_of_getElem? (i := 560) (by decide +kernel), List.mem_of_getElem? (i := 561) (by decide +kernel)⟩
theorem lw_p45 : lw_okq (⟨"LeafBookModel", "isRightRoot", "(I)Z"⟩, 15) := ⟨⟨by decide +kernel, by decide +kernel⟩, List.mem_of_getElem? (i := 490) (by decide +kernel), List.mem_of_getElem? (i := 564) (by decide +kernel), List.mem_of_getElem? (i := 565) (by decide +kernel)⟩
theorem lw_p46 : lw_okq (⟨"LeafBookModel", "isSound", "(I)Z"⟩, 15) := ⟨⟨by decide +kernel, by decide +kernel⟩, List.mem_of_getElem? (i := 490) (by decide +kernel), List.mem_of_getElem? (i := 568) (by decide +kernel), List.mem_of_getElem? (i := 569) (by decide +kernel)⟩
theorem lw_p47 : lw_okq (⟨"LeafBookModel", "isRight", "(I)Z"⟩, 15) := ⟨⟨by decide +kernel, by decide +kernel⟩, List.mem_of_getElem? (i := 490) (by decide +kernel), List.mem_of_getElem? (i := 577) (by decide +kernel), List.mem_of_getElem? (i := 578) (by decide +kernel)⟩
def lw_privs_3 : List (MethodName × Nat) := [(⟨"LeafBook", "entriesOfRoot", "(I)I"⟩, 13), (⟨"LeafBook", "dropFromDraft", "(I)Z"⟩, 13), (⟨"LeafBook", "requireKept", "(I)V"⟩, 13), (⟨"LeafBook", "entryWithKey", "(II)I"⟩, 13), (⟨"LeafBook", "entryByNumber", "(II)I"⟩, 13), (⟨"LeafBook", "haveSameEntries", "(II)Z"⟩, 13), (⟨"LeafBook", "restoreFrom", "(I)V"⟩, 13), (⟨"LeafBook", "writtenWords", "()I"⟩, 13), (⟨"LeafBook", "requirePageWord", "(II)V"⟩, 13), (⟨"LeafBook", "requireRootWord", "(II)V"⟩, 13), (⟨"LeafBook", "requireMask", "(J)V"⟩, 13), (⟨"LeafBookModel", "sum", "(II)J"⟩, 15), (⟨"LeafBookModel", "isKept", "(I)Z"⟩, 15), (⟨"LeafBookModel", "isRightRoot", "(I)Z"⟩, 15), (⟨"LeafBookModel", "isSound", "(I)Z"⟩, 15), (⟨"LeafBookModel", "isRight", "(I)Z"⟩, 15)]
theorem lw_r3 : ∀ q ∈ lw_privs_3, lw_okq q := List.forall_mem_cons.mpr ⟨lw_p32, List.forall_mem_cons.mpr ⟨lw_p33, List.forall_mem_cons.mpr ⟨lw_p34, List.forall_mem_cons.mpr ⟨lw_p35, List.forall_mem_cons.mpr ⟨lw_p36, List.forall_mem_cons.mpr ⟨lw_p37, List.forall_mem_cons.mpr ⟨lw_p38, List.forall_mem_cons.mpr ⟨lw_p39, List.forall_mem_cons.mpr ⟨lw_p40, List.forall_mem_cons.mpr ⟨lw_p41, List.forall_mem_cons.mpr ⟨lw_p42, List.forall_mem_cons.mpr ⟨lw_p43, List.forall_mem_cons.mpr ⟨lw_p44, List.forall_mem_cons.mpr ⟨lw_p45, List.forall_mem_cons.mpr ⟨lw_p46, List.forall_mem_cons.mpr ⟨lw_p47, fun _ h => absurd h List.not_mem_nil⟩⟩⟩⟩⟩⟩⟩⟩⟩⟩⟩⟩⟩⟩⟩⟩
theorem lw_p48 : lw_okq (⟨"LeafBookModel", "check", "(Z)I"⟩, 15) := ⟨⟨by decide +kernel, by decide +kernel⟩, List.mem_of_getElem? (i := 490) (by decide +kernel), List.mem_of_getElem? (i := 583) (by decide +kernel), List.mem_of_getElem? (i := 584) (by decide +kernel)⟩
theorem lw_p49 : lw_okq (⟨"LeafBookModel", "place", "(II)I"⟩, 15) := ⟨⟨by decide +kernel, by decide +kernel⟩, List.mem_of_getElem? (i := 490) (by decide +kernel), List.mem_of_getElem? (i := 587) (by decide +kernel), List.mem_of_getElem? (i := 588) (by decide +kernel)⟩
theorem lw_p50 : lw_okq (⟨"LeafBookModel", "entriesOf", "(I)I"⟩, 15) := ⟨⟨by decide +kernel, by decide +kernel⟩, List.mem_of_getElem? (i := 490) (by decide +kernel), List.mem_of_getElem? (i := 591) (by decide +kernel), List.mem_of_getElem? (i := 592) (by decide +kernel)⟩
theorem lw_p51 : lw_okq (⟨"LeafBookModel", "entry", "(II)I"⟩, 15) := ⟨⟨by decide +kernel, by decide +kernel⟩, List.mem_of_getElem? (i := 490) (by decide +kernel), List.mem_of_getElem? (i := 595) (by decide +kernel), List.mem_of_getElem? (i := 596) (by decide +kernel)⟩
theorem lw_p52 : lw_okq (⟨"LeafBookModel", "leafOf", "(II)I"⟩, 15) := ⟨⟨by decide +kernel, by decide +kernel⟩, List.mem_of_getElem? (i := 490) (by decide +kernel), List.mem_of_getElem? (i := 599) (by decide +kernel), List.mem_of_getElem? (i := 600) (by decide +kernel)⟩
theorem lw_p53 : lw_okq (⟨"LeafBookModel", "leavesOf", "(I)I"⟩, 15) := ⟨⟨by decide +kernel, by decide +kernel⟩, List.mem_of_getElem? (i := 490) (by decide +kernel), List.mem_of_getElem? (i := 611) (by decide +kernel), List.mem_of_getElem? (i := 612) (by decide +kernel)⟩
theorem lw_p54 : lw_okq (⟨"LeafBookModel", "isFree", "(I)Z"⟩, 15) := ⟨⟨by decide +kernel, by decide +kernel⟩, List.mem_of_getElem? (i := 490) (by decide +kernel), List.mem_of_getElem? (i := 627) (by decide +kernel), List.mem_of_getElem? (i := 628) (by decide +kernel)⟩
theorem lw_p55 : lw_okq (⟨"LeafBookModel", "may", "(I)I"⟩, 15) := ⟨⟨by decide +kernel, by decide +kernel⟩, List.mem_of_getElem? (i := 490) (by decide +kernel), List.mem_of_getElem? (i := 635) (by decide +kernel), List.mem_of_getElem? (i := 636) (by decide +kernel)⟩
theorem lw_p56 : lw_okq (⟨"LeafBookModel", "leafFor", "(I)I"⟩, 15) := ⟨⟨by decide +kernel, by decide +kernel⟩, List.mem_of_getElem? (i := 490) (by decide +kernel), List.mem_of_getElem? (i := 640) (by decide +kernel), List.mem_of_getElem? (i := 641) (by decide +kernel)⟩
theorem lw_p57 : lw_okq (⟨"LeafBookModel", "load", "(I)V"⟩, 15) := ⟨⟨by decide +kernel, by decide +kernel⟩, List.mem_of_getElem? (i := 490) (by decide +kernel), List.mem_of_getElem? (i := 644) (by decide +kernel), List.mem_of_getElem? (i := 645) (by decide +kernel)⟩
theorem lw_p58 : lw_okq (⟨"LeafBookModel", "enter", "(IJ)V"⟩, 15) := ⟨⟨by decide +kernel, by decide +kernel⟩, List.mem_of_getElem? (i := 490) (by decide +kernel), List.mem_of_getElem? (i := 648) (by decide +kernel), List.mem_of_getElem? (i := 649) (by decide +kernel)⟩
theorem lw_p59 : lw_okq (⟨"LeafBookModel", "act", "(II)Z"⟩, 15) := ⟨⟨by decide +kernel, by decide +kernel⟩, List.mem_of_getElem? (i := 490) (by decide +kernel), List.mem_of_getElem? (i := 652) (by decide +kernel), List.mem_of_getElem? (i := 653) (by decide +kernel)⟩
theorem lw_p60 : lw_okq (⟨"LeafBookModel", "nextFree", "()I"⟩, 15) := ⟨⟨by decide +kernel, by decide +kernel⟩, List.mem_of_getElem? (i := 490) (by decide +kernel), List.mem_of_getElem? (i := 656) (by decide +kernel), List.mem_of_getElem? (i := 657) (by decide +kernel)⟩
theorem lw_p61 : lw_okq (⟨"LeafBookModel", "writeLeaf", "(III)V"⟩, 15) := ⟨⟨by decide +kernel, by decide +kernel⟩, List.mem_of_getElem? (i := 490) (by decide +kernel), List.mem_of_getElem? (i := 660) (by decide +kernel), List.mem_of_getElem? (i := 661) (by decide +kernel)⟩
theorem lw_p62 : lw_okq (⟨"LeafBookModel", "write", "(IJ)V"⟩, 15) := ⟨⟨by decide +kernel, by decide +kernel⟩, List.mem_of_getElem? (i := 490) (by decide +kernel), List.mem_of_getElem? (i := 664) (by decide +kernel), List.mem_of_getElem? (i := 665) (by decide +kernel)⟩
theorem lw_p63 : lw_okq (⟨"LeafBookModel", "writeRoot", "(IJ)V"⟩, 15) := ⟨⟨by decide +kernel, by decide +kernel⟩, List.mem_of_getElem? (i := 490) (by decide +kernel), List.mem_of_getElem? (i := 668) (by decide +kernel), List.mem_of_getElem? (i := 669) (by decide +kernel)⟩
def lw_privs_4 : List (MethodName × Nat) := [(⟨"LeafBookModel", "check", "(Z)I"⟩, 15), (⟨"LeafBookModel", "place", "(II)I"⟩, 15), (⟨"LeafBookModel", "entriesOf", "(I)I"⟩, 15), (⟨"LeafBookModel", "entry", "(II)I"⟩, 15), (⟨"LeafBookModel", "leafOf", "(II)I"⟩, 15), (⟨"LeafBookModel", "leavesOf", "(I)I"⟩, 15), (⟨"LeafBookModel", "isFree", "(I)Z"⟩, 15), (⟨"LeafBookModel", "may", "(I)I"⟩, 15), (⟨"LeafBookModel", "leafFor", "(I)I"⟩, 15), (⟨"LeafBookModel", "load", "(I)V"⟩, 15), (⟨"LeafBookModel", "enter", "(IJ)V"⟩, 15), (⟨"LeafBookModel", "act", "(II)Z"⟩, 15), (⟨"LeafBookModel", "nextFree", "()I"⟩, 15), (⟨"LeafBookModel", "writeLeaf", "(III)V"⟩, 15), (⟨"LeafBookModel", "write", "(IJ)V"⟩, 15), (⟨"LeafBookModel", "writeRoot", "(IJ)V"⟩, 15)]
theorem lw_r4 : ∀ q ∈ lw_privs_4, lw_okq q := List.forall_mem_cons.mpr ⟨lw_p48, List.forall_mem_cons.mpr ⟨lw_p49, List.forall_mem_cons.mpr ⟨lw_p50, List.forall_mem_cons.mpr ⟨lw_p51, List.forall_mem_cons.mpr ⟨lw_p52, List.forall_mem_cons.mpr ⟨lw_p53, List.forall_mem_cons.mpr ⟨lw_p54, List.forall_mem_cons.mpr ⟨lw_p55, List.forall_mem_cons.mpr ⟨lw_p56, List.forall_mem_cons.mpr ⟨lw_p57, List.forall_mem_cons.mpr ⟨lw_p58, List.forall_mem_cons.mpr ⟨lw_p59, List.forall_mem_cons.mpr ⟨lw_p60, List.forall_mem_cons.mpr ⟨lw_p61, List.forall_mem_cons.mpr ⟨lw_p62, List.forall_mem_cons.mpr ⟨lw_p63, fun _ h => absurd h List.not_mem_nil⟩⟩⟩⟩⟩⟩⟩⟩⟩⟩⟩⟩⟩⟩⟩⟩
theorem lw_p64 : lw_okq (⟨"LeafBookModel", "remove", "(I)V"⟩, 15) := ⟨⟨by decide +kernel, by decide +kernel⟩, List.mem_of_getElem? (i := 490) (by decide +kernel), List.mem_of_getElem? (i := 676) (by decide +kernel), List.mem_of_getElem? (i := 677) (by decide +kernel)⟩
theorem lw_p65 : lw_okq (⟨"LeafBookModel", "noWord", "(II)Z"⟩, 15) := ⟨⟨by decide +kernel, by decide +kernel⟩, List.mem_of_getElem? (i := 490) (by decide +kernel), List.mem_of_getElem? (i := 694) (by decide +kernel), List.mem_of_getElem? (i := 695) (by decide +kernel)⟩
def lw_privs_5 : List (MethodName × Nat) := [(⟨"LeafBookModel", "remove", "(I)V"⟩, 15), (⟨"LeafBookModel", "noWord", "(II)Z"⟩, 15)]
theorem lw_r5 : ∀ q ∈ lw_privs_5, lw_okq q := List.forall_mem_cons.mpr ⟨lw_p64, List.forall_mem_cons.mpr ⟨lw_p65, fun _ h => absurd h List.not_mem_nil⟩⟩
def lw_privs : List (MethodName × Nat) := lw_privs_1 ++ (lw_privs_2 ++ (lw_privs_3 ++ (lw_privs_4 ++ (lw_privs_5))))
def lw_tbl : List Cond := k2_sels lw_privs ++ tables_1
theorem lw_privs_ok : ∀ q ∈ lw_privs, lw_okq q := by
  show ∀ q ∈ lw_privs_1 ++ (lw_privs_2 ++ (lw_privs_3 ++ (lw_privs_4 ++ (lw_privs_5)))), lw_okq q
  exact List.forall_mem_append.mpr ⟨lw_r1, List.forall_mem_append.mpr ⟨lw_r2, List.forall_mem_append.mpr ⟨lw_r3, List.forall_mem_append.mpr ⟨lw_r4, lw_r5⟩⟩⟩⟩
end
section
/-! CONTRACTS OF METHODS THAT RETURN OR THROW: my own layer over the kit's 'MetFree' and 'W' (the kit's 'Met' is of returning methods alone). -/
/-- the frame of an end, either way -/
def xx_E (st t : State) (L : List Loc) (k n : Nat) : Prop := st.WarmedH t.vm ∧ st.sameButNew ({ t with vm := st.vm } : State) L k n
/-- a contract: the method ends (it returns, or it throws) and 'Qc args start outcome end' -/
def MetX (l : Launch) (y : MethodName) (ws : List Cond) (rm : Room) (Pc : Array Value → State → Prop) (Qc : Array Value → State → Outcome → State → Prop) (mc ms : Nat) (free : Addr → Prop) : Prop :=
  MetFree l y (headSpec ws rm) Pc (fun _ _ _ _ _ => True) (fun a st o t => Qc a st o t ∧ ∃ L, xx_E st t L mc ms ∧ ∀ q ∈ L, free q.base)
/-- where the caller stands behind the call -/
def xx_to (U : State) (g : JFrame) (len : Nat) : Outcome → State
  | .returned v => U.setTop { g with pc := g.pc + len, stack := v.toList ++ g.stack }
  | .threw x => (U.setTop g).pushFrame (.throwing x)
/-- the end that a walk under a MetX comes to -/
def MQX (below : List Frame) (Qc : Array Value → State → Outcome → State → Prop) (a : Array Value) (s : State) (mc ms : Nat) (free : Addr → Prop) : State → Prop := fun t =>
  ∃ o, t.status = .running ∧ Ended t below o ∧ Qc a s o t ∧ ∃ L, xx_E s t L mc ms ∧ ∀ q ∈ L, free q.base
theorem MetX.ofMet {l : Launch} {y : MethodName} {ws : List Cond} {rm : Room} {Pc : Array Value → State → Prop} {Qc : Array Value → State → Outcome → State → Prop} {mc ms : Nat} {free : Addr → Prop} (h : Met l y ws rm Pc Qc mc ms free) : MetX l y ws rm Pc Qc mc ms free := by
  intro p e h1 h2 h3 s m args below h4 h5 h6 h7
  obtain ⟨n, o, a1, a2, a3, a4, L, a5, a6⟩ := h p e h1 h2 h3 s m args below h4 h5 h6 h7
  exact ⟨n, o, a1, a2, a3, a4, L, ⟨a5.2.1, a5.2.2⟩, a6⟩
section XB
variable {l : Launch} {R : Room} {p : Program} {e : Env} {below : List Frame} {s : State} {sargs : Array Value} {y : MethodName}
theorem xx_back {ws : List Cond} {rm : Room} {Pc : Array Value → State → Prop} {Qc : Array Value → State → Outcome → State → Prop} {mc ms : Nat} {free : Addr → Prop} {maxL : Nat}
    (hM : MetX l y ws rm Pc Qc mc ms free) (hblind : FrameBlind Pc) (hrc : rm.cells = mc) (hrs : rm.slots = ms)
    (hframes : rm.frames + 1 ≤ R.frames) (hlocals : 8 + (maxL + 11) + rm.locals ≤ R.locals)
    (hws : ∀ w ∈ ws, ∀ (a' : Array Value) (U : State), s.WarmedH U.vm → w.before a' U = true)
    (hcd : ∀ U : State, s.WarmedH U.vm → ∀ mk, U.methodNamed? y = some mk → ∃ meth c, U.vm.method? mk = some meth ∧ meth.code = some c ∧ c.maxLocals = maxL)
    (hinit : ∀ (a' : Array Value) (U : State), s.WarmedH U.vm → (Cond.initialized y.cls).before a' U = true)
    {m : MethodId} {meth : Method} {c : Code} {U : State} {locs : List Loc} {cells slots : Nat} (X : Stand p l e R s m sargs below meth c U locs cells slots)
    {g : JFrame} {ig : Instr} {len : Nat} {mk : MethodId} {a : Array Value} (hg : g.method = m) (hsize : g.locals.size = c.maxLocals) (hdg : decode c.code g.pc = .ok (ig, len))
    (hW : 2 * g.monitorRoom + (g.stack.map fun v => v.category).sum ≤ 8) (hn : U.methodNamed? y = some mk) (hc : cells + mc ≤ R.cells) (hs : slots + ms ≤ R.slots) (hp : Pc a U) :
    ∃ (o : Outcome) (t U' : State) (L : List Loc), U'.heap = t.heap ∧ U'.vm = t.vm ∧ Stand p l e R s m sargs below meth c U' (locs ++ L) (cells + mc) (slots + ms) ∧ (∀ q ∈ L, free q.base) ∧
      Qc a (U.calling g mk a) o t ∧ Steps p.tables e below (doInvoke e (U.setTop g) [] mk a).1 (xx_to U' g len o) := by
  obtain ⟨methY, cY, hmY, hcY, hlY⟩ := hcd U X.warmed mk hn
  obtain ⟨kY, hkY, -⟩ := className_of_methodNamed hn
  have hinitY : kY.init = .initialized := Cond.initialized_spec (findClass_of_methodNamed hn) hkY (hinit a U X.warmed)
  have h : At U g.method c below := by rw [hg]; exact X.here
  have h1 : (headSpec ws rm).pre.before a U = true := atoms_intro fun w hw => hws w hw _ _ X.warmed
  have happ : (headSpec ws rm).appliesLoose y e.platform (U.calling g mk a) = true :=
    Spec.appliesLoose_calling (g := g) h hdg hn hkY hinitY
      (X.room_calling (g := g) (R' := (headSpec ws rm).room) hsize hmY hcY hframes (by rw [hlY]; show _ + (maxL + 11) + rm.locals ≤ _; omega) (by show cells + rm.cells ≤ _; rw [hrc]; exact hc) (by show slots + rm.slots ≤ _; rw [hrs]; exact hs)) h1
  obtain ⟨mid, hmid⟩ := h.above
  have hfr : (U.setTop g).frames = (.java g :: mid) ++ below := by rw [State.frames_setTop' g h.top, hmid]; rfl
  obtain ⟨o, s₂, hsteps, -, hend, hq⟩ := Steps.callFree hM p X.admits X.cas X.clock (acts := []) hfr happ (hblind _ _ _ _ hp) trivial
  have hq' : Qc a (U.calling g mk a) o s₂ ∧ ∃ L, xx_E (U.calling g mk a) s₂ L mc ms ∧ ∀ q ∈ L, free q.base := hq
  obtain ⟨hq1, L, ⟨hW₂, e2, q2, q3, q4, q5, q6⟩, hL⟩ := hq'
  rw [State.frames_setTop' g h.top] at hend
  have e3 : s₂ = ({ (U.calling g mk a).setFrames s₂.frames with heap := s₂.heap, slotsUsed := s₂.slotsUsed } : State).setVm s₂.vm := by
    have : s₂ = ({ s₂ with vm := (U.calling g mk a).vm } : State).setVm s₂.vm := rfl
    rw [e2] at this
    exact this
  have hW' : U.WarmedH s₂.vm := hW₂
  obtain ⟨g₀, hg0⟩ := Option.isSome_iff_exists.mp h.top
  obtain ⟨r, hr⟩ := State.topJava?_eq_some.mp hg0
  have hr' : (({ U with heap := s₂.heap, slotsUsed := s₂.slotsUsed } : State).setVm s₂.vm).frames = .java g₀ :: r := hr
  have hs₂ : s₂ = xx_to (({ U with heap := s₂.heap, slotsUsed := s₂.slotsUsed } : State).setVm s₂.vm) g len o := by
    cases o with
    | returned v =>
      obtain ⟨c₂, i₂, len₂, hc₂, hd₂, hf₂⟩ := hend
      have hcc : c₂ = c := by
        have h1 : s₂.code? g.method = U.code? g.method := by
          rw [State.code?_eq, State.code?_eq, hW'.alike.method?]
        exact Option.some.inj (hc₂.symm.trans (h1.trans h.code))
      subst hcc
      have hlen : len₂ = len := by rw [hdg] at hd₂; cases hd₂; rfl
      subst hlen
      refine e3.trans ?_
      show _ = State.setTop _ _
      rw [hf₂, State.calling_eq h.top, State.setFrames_setFrames, State.setTop_of_frames _ hr', hr]
      rfl
    | threw v =>
      have hf₂ : s₂.frames = .throwing v :: .java g :: U.frames.tail := hend
      refine e3.trans ?_
      show _ = State.pushFrame (State.setTop _ _) _
      rw [hf₂, State.calling_eq h.top, State.setFrames_setFrames, State.pushFrame, State.frames_setTop _ hr', State.setTop_of_frames _ hr', State.setFrames_setFrames, hr]
      rfl
  have hsame : U.sameButNew ({ U with heap := s₂.heap, slotsUsed := s₂.slotsUsed } : State) L mc ms := by
    refine ⟨?_, q2, q3, q4, q5, q6⟩
    obtain ⟨t, ht, -⟩ := State.frames_cons hr
    show ({ U with heap := s₂.heap, slotsUsed := s₂.slotsUsed } : State) = { U.setFrames U.frames with heap := s₂.heap, slotsUsed := s₂.slotsUsed }
    rw [State.setFrames_self ht]
  subst hg
  refine ⟨o, s₂, (({ U with heap := s₂.heap, slotsUsed := s₂.slotsUsed } : State).setVm s₂.vm), L, rfl, rfl,
    ⟨X.admits, X.cas, X.clock, X.frames, X.room, X.hears, X.method, X.code, (X.here.setHeapUsed s₂.heap s₂.slotsUsed).setVm hW'.alike, X.tail, State.WarmedH.trans X.warmed hW', X.limits, X.bytes, X.same.trans (hsame.setVm s.vm)⟩, hL, hq1, ?_⟩
  rw [← hs₂]
  exact hsteps
end XB
section XR
variable {p : Program} {l : Launch} {e : Env} {R : Room} {s : State} {m : MethodId} {args : Array Value} {below : List Frame} {meth : Method} {c : Code} {H : Heap} {locs : List Loc} {cells slots : Nat} {Q : State → Prop}
/-- a call that ends, either way -/
def xx_Run (p : Program) (l : Launch) (e : Env) (R : Room) (s : State) (m : MethodId) (args : Array Value) (below : List Frame) (meth : Method) (c : Code) (H : Heap) (locs : List Loc) (cells slots mc ms : Nat) (g : JFrame) (rest : List Value) (Qa : State → Outcome → State → Prop) (free : Addr → Prop) : Prop :=
  ∀ T : State, T.heap = H → Stand p l e R s m args below meth c T locs cells slots → ∃ (o : Outcome) (st₀ t T' : State) (L : List Loc), st₀.heap = H ∧ Stand p l e R s m args below meth c T' (locs ++ L) (cells + mc) (slots + ms) ∧ (∀ q ∈ L, free q.base) ∧ T'.heap = t.heap ∧ T'.vm = t.vm ∧ Qa st₀ o t ∧
    ∀ tg, Steps p.tables e below (xx_to T' { g with stack := rest } 3 o) tg → Steps p.tables e below (T.setTop g) tg
variable {y : MethodName} {bytes cc : ByteArray} {maxL nL mc ms n index : Nat} {ret : Option FieldType} {ws : List Cond} {rm : Room} {Pc : Array Value → State → Prop} {Qc : Array Value → State → Outcome → State → Prop} {free : Addr → Prop} {Ts : List Cond} {own C : String} {b : Addr} {As rest : List Value} {g : JFrame}
theorem xx_code {bytes : ByteArray} {maxL : Nat} {ret : Option FieldType} (hws : ∀ w ∈ ws, ∀ (a' : Array Value) (U : State), s.WarmedH U.vm → w.before a' U = true) (hcw : Cond.code y bytes maxL ret ∈ ws) :
    ∀ U : State, s.WarmedH U.vm → ∀ mk, U.methodNamed? y = some mk → ∃ meth c, U.vm.method? mk = some meth ∧ meth.code = some c ∧ c.maxLocals = maxL := by
  intro U hU mk hn
  obtain ⟨meth, c, h1, h2, -, h4, -⟩ := Cond.code_spec hn (hws _ hcw #[] U hU)
  exact ⟨meth, c, h1, h2, h4⟩
theorem xx_codeW {bytes : ByteArray} {maxL : Nat} {ret : Option FieldType} {hs : List (Nat × Nat × Nat × Nat)} (hws : ∀ w ∈ ws, ∀ (a' : Array Value) (U : State), s.WarmedH U.vm → w.before a' U = true) (hcw : Cond.codeWith y bytes maxL ret hs ∈ ws) :
    ∀ U : State, s.WarmedH U.vm → ∀ mk, U.methodNamed? y = some mk → ∃ meth c, U.vm.method? mk = some meth ∧ meth.code = some c ∧ c.maxLocals = maxL := by
  intro U hU mk hn
  obtain ⟨mk', meth, c, h0, h1, h2, -, h4, -⟩ := Cond.codeWith_spec (hws _ hcw #[] U hU)
  cases hn.symm.trans h0
  exact ⟨meth, c, h1, h2, h4⟩
theorem xx_init (hini : (Cond.initialized y.cls).before args s = true) : ∀ (a' : Array Value) (U : State), s.WarmedH U.vm → (Cond.initialized y.cls).before a' U = true :=
  fun _ _ hW => word_at hW (Or.inl (by first | rfl | simp [Cond.onTables, Cond.keeps, Cond.steady])) hini
theorem xx_runV (S : CallFix p m c cc nL s args Ts own) (hM : MetX l y ws rm Pc Qc mc ms free) (cw : CallW R s args own C index y bytes maxL ret ws rm mc ms n) (hp : PreV s H C b Pc As)
    (hg : g.method = m) (hn : As.length = n) (hsize : g.locals.size = nL) (hstack : g.stack = As.reverse ++ .ref b :: rest) (hW : 2 * g.monitorRoom + (rest.map fun v => v.category).sum ≤ 8) (hdg : decode cc g.pc = .ok (.invokevirtual index, 3)) (hf : cells + mc ≤ R.cells ∧ slots + ms ≤ R.slots) :
    xx_Run p l e R s m args below meth c H locs cells slots mc ms g rest (Qc (Value.ref b :: As).toArray) free := by
  obtain ⟨⟨hrc, hrs, hfr, hlo, hws, hcw, hcode, hini, hy, hlen, hl⟩, hin, hse⟩ := cw
  obtain ⟨hx, hb, hml, ho, -⟩ := S
  obtain ⟨hbl, ⟨cellB, hcB, hoB, hclB⟩, hPc⟩ := hp
  intro T hT X
  obtain ⟨mk, methM, hnamed, hmethM, hstM, habM⟩ := Cond.instanceMethod_spec hin
  obtain ⟨methM', cM, hmethM', -, -, -, -, -, -, hsigM⟩ := Cond.code_spec hnamed hcode
  cases hmethM.symm.trans hmethM'
  obtain ⟨c2, r2, m2, q1, q2, q3, q4, kP, hkP, hkPi⟩ := Cond.selects_spec hse
  cases hclB.symm.trans q1
  cases (State.methodFound?_of_named hnamed hy).symm.trans q2
  cases hnamed.symm.trans q3
  have hselP : selectMethod e.platform s.vm cellB.cls mk = .method mk := by rw [Launch.admits_selectMethod X.admits]; exact q4
  obtain ⟨vm₁, X₁, hstep₁⟩ := X.invokevirtual hx ho hl hnamed hmethM hstM hkP hkPi hy (a := b) (cell := cellB) (by rw [hT]; exact hcB)
    (fun z h => by rw [h] at hoB; cases hoB) hselP hmethM habM hkP hkPi (g := g) hg (argsL := As) (rest := rest) (hn.trans (hlen _ hsigM)) hstack (by rw [hb]; exact hdg)
  obtain ⟨o, t, U', L, e1, e2, X', hL, hq, hst⟩ := xx_back (maxL := maxL) hM hbl hrc hrs hfr hlo hws (xx_code hws hcw) (xx_init hini) X₁ (g := { g with stack := rest }) (ig := .invokevirtual index) (len := 3) (mk := mk) (a := (Value.ref b :: As).toArray) hg (hsize.trans hml.symm) (by rw [hb]; exact hdg) hW (X₁.named hnamed) hf.1 hf.2 (hPc _ hT X₁.warmed)
  exact ⟨o, (T.setVm vm₁).calling { g with stack := rest } mk (Value.ref b :: As).toArray, t, U', L, hT, X', hL, e1, e2, hq, fun tg h => hstep₁ _ fun acts => by rw [doInvoke_state]; exact hst.trans h⟩
theorem xx_runS (S : CallFix p m c cc nL s args Ts own) (hM : MetX l y ws rm Pc Qc mc ms free) (cw : CallB R s args own index y bytes maxL ret ws rm mc ms n ∧ (Cond.static y).before args s = true) (hp : PreS s H Pc As)
    (hg : g.method = m) (hn : As.length = n) (hsize : g.locals.size = nL) (hstack : g.stack = As.reverse ++ rest) (hW : 2 * g.monitorRoom + (rest.map fun v => v.category).sum ≤ 8) (hdg : decode cc g.pc = .ok (.invokestatic index, 3)) (hf : cells + mc ≤ R.cells ∧ slots + ms ≤ R.slots) :
    xx_Run p l e R s m args below meth c H locs cells slots mc ms g rest (Qc As.toArray) free := by
  obtain ⟨⟨hrc, hrs, hfr, hlo, hws, hcw, hcode, hini, hy, hlen, hl⟩, hstt⟩ := cw
  obtain ⟨hx, hb, hml, ho, -⟩ := S
  intro T hT X
  obtain ⟨mk, hnamed⟩ := Cond.code_named hcode
  obtain ⟨methM, cM, hmethM, -, -, -, -, -, -, hsigM⟩ := Cond.code_spec hnamed hcode
  have hstatic : methM.isStatic = true := Cond.static_spec hnamed hmethM hstt
  obtain ⟨kP, hkP, -⟩ := className_of_methodNamed hnamed
  have hinitP : kP.init = .initialized := Cond.initialized_spec (findClass_of_methodNamed hnamed) hkP hini
  obtain ⟨vm₁, X₁, hstep₁⟩ := X.invokestatic hx ho hl hnamed hmethM hstatic hkP hinitP hy (g := g) hg (argsL := As) (rest := rest) (hn.trans (hlen _ hsigM)) hstack (by rw [hb]; exact hdg)
  obtain ⟨o, t, U', L, e1, e2, X', hL, hq, hst⟩ := xx_back (maxL := maxL) hM hp.1 hrc hrs hfr hlo hws (xx_code hws hcw) (xx_init hini) X₁ (g := { g with stack := rest }) (ig := .invokestatic index) (len := 3) (mk := mk) (a := As.toArray) hg (hsize.trans hml.symm) (by rw [hb]; exact hdg) hW (X₁.named hnamed) hf.1 hf.2 (hp.2 _ hT X₁.warmed)
  exact ⟨o, (T.setVm vm₁).calling { g with stack := rest } mk As.toArray, t, U', L, hT, X', hL, e1, e2, hq, fun tg h => hstep₁ _ fun acts => by rw [doInvoke_state]; exact hst.trans h⟩
/-- a static method with handlers (the law's wrappers) -/
theorem xx_runSW {hs : List (Nat × Nat × Nat × Nat)} (S : CallFix p m c cc nL s args Ts own) (hM : MetX l y ws rm Pc Qc mc ms free)
    (hrc : rm.cells = mc) (hrs : rm.slots = ms) (hR : rm.frames + 1 ≤ R.frames ∧ 8 + (maxL + 11) + rm.locals ≤ R.locals) (hws : ∀ w ∈ ws, ∀ (a' : Array Value) (U : State), s.WarmedH U.vm → w.before a' U = true) (hcw : Cond.codeWith y bytes maxL ret hs ∈ ws)
    (hini : (Cond.initialized y.cls).before args s = true) (hd : y.cls ≠ "java/lang/invoke/MethodHandle" ∧ y.cls ≠ "java/lang/invoke/VarHandle" ∧ (parseMethodDescriptor y.desc).map (fun d => d.parameters.length) = some n) (hl : (Cond.methodLink own index y).before args s = true) (hstt : (Cond.static y).before args s = true) (hp : PreS s H Pc As)
    (hg : g.method = m) (hn : As.length = n) (hsize : g.locals.size = nL) (hstack : g.stack = As.reverse ++ rest) (hW : 2 * g.monitorRoom + (rest.map fun v => v.category).sum ≤ 8) (hdg : decode cc g.pc = .ok (.invokestatic index, 3)) (hf : cells + mc ≤ R.cells ∧ slots + ms ≤ R.slots) :
    xx_Run p l e R s m args below meth c H locs cells slots mc ms g rest (Qc As.toArray) free := by
  obtain ⟨hx, hb, hml, ho, -⟩ := S
  intro T hT X
  obtain ⟨mk, methM, cM, hnamed, hmethM, -, -, -, -, -, -, hsigM⟩ := Cond.codeWith_spec (hws _ hcw args s (State.WarmedH.refl s))
  have hstatic : methM.isStatic = true := Cond.static_spec hnamed hmethM hstt
  obtain ⟨kP, hkP, -⟩ := className_of_methodNamed hnamed
  have hinitP : kP.init = .initialized := Cond.initialized_spec (findClass_of_methodNamed hnamed) hkP hini
  have hlen : n = methM.sig.parameters.length := by
    have h2 := hd.2.2
    rw [hsigM] at h2
    exact (Option.some.inj h2).symm
  obtain ⟨vm₁, X₁, hstep₁⟩ := X.invokestatic hx ho hl hnamed hmethM hstatic hkP hinitP ⟨hd.1, hd.2.1⟩ (g := g) hg (argsL := As) (rest := rest) (hn.trans hlen) hstack (by rw [hb]; exact hdg)
  obtain ⟨o, t, U', L, e1, e2, X', hL, hq, hst⟩ := xx_back (maxL := maxL) hM hp.1 hrc hrs hR.1 hR.2 hws (xx_codeW hws hcw) (xx_init hini) X₁ (g := { g with stack := rest }) (ig := .invokestatic index) (len := 3) (mk := mk) (a := As.toArray) hg (hsize.trans hml.symm) (by rw [hb]; exact hdg) hW (X₁.named hnamed) hf.1 hf.2 (hp.2 _ hT X₁.warmed)
  exact ⟨o, (T.setVm vm₁).calling { g with stack := rest } mk As.toArray, t, U', L, hT, X', hL, e1, e2, hq, fun tg h => hstep₁ _ fun acts => by rw [doInvoke_state]; exact hst.trans h⟩
theorem xx_runI (S : CallFix p m c cc nL s args Ts own) (hM : MetX l y ws rm Pc Qc mc ms free) (cw : CallB R s args own index y bytes maxL none ws rm mc ms n ∧ y.name = "<init>" ∧ (Cond.instanceMethod y).before args s = true) (hp : PreS s H Pc (.ref b :: As))
    (hg : g.method = m) (hn : As.length = n) (hsize : g.locals.size = nL) (hstack : g.stack = As.reverse ++ .ref b :: rest) (hW : 2 * g.monitorRoom + (rest.map fun v => v.category).sum ≤ 8) (hdg : decode cc g.pc = .ok (.invokespecial index, 3)) (hf : cells + mc ≤ R.cells ∧ slots + ms ≤ R.slots) :
    xx_Run p l e R s m args below meth c H locs cells slots mc ms g rest (Qc (Value.ref b :: As).toArray) free := by
  obtain ⟨⟨hrc, hrs, hfr, hlo, hws, hcw, hcode, hini, hy, hlen, hl⟩, hy1, hin⟩ := cw
  obtain ⟨hx, hb, hml, ho, -⟩ := S
  intro T hT X
  subst hg
  have hpl : e.platform.magicAccessors = ({} : Platform).magicAccessors := by rw [X.admits.platform]
  obtain ⟨mk, methM, cM, kP, vm₁, hnamed, hmethM, hcodeM, -, hlocalsM, -, hkP, -, hW₁, hstep₁⟩ := Steps.initColdArgs (e := e) X.here hx X.warmed hpl ho hy1 hy hl hin hcode (f := g) rfl (fun sig h => hn.trans (hlen sig h)) hstack (by rw [hb]; exact hdg)
  have X₁ := X.noted hW₁
  obtain ⟨o, t, U', L, e1, e2, X', hL, hq, hst⟩ := xx_back (maxL := maxL) hM hp.1 hrc hrs hfr hlo hws (xx_code hws hcw) (xx_init hini) X₁ (g := { g with stack := rest }) (ig := .invokespecial index) (len := 3) (mk := mk) (a := (Value.ref b :: As).toArray) rfl (hsize.trans hml.symm) (by rw [hb]; exact hdg) hW (X₁.named hnamed) hf.1 hf.2 (hp.2 _ hT X₁.warmed)
  exact ⟨o, (T.setVm vm₁).calling { g with stack := rest } mk (Value.ref b :: As).toArray, t, U', L, hT, X', hL, e1, e2, hq, fun tg h => hstep₁ _ fun acts => by rw [doInvoke_state]; exact hst.trans h⟩
/-- the machine with the exception x in flight at the frame g -/
def WT (p : Program) (l : Launch) (e : Env) (R : Room) (s : State) (m : MethodId) (args : Array Value) (below : List Frame) (meth : Method) (c : Code) (H : Heap) (locs : List Loc) (cells slots : Nat) (Q : State → Prop) (g : JFrame) (x : Addr) : Prop :=
  ∀ T : State, T.heap = H → Stand p l e R s m args below meth c T locs cells slots → ∃ t, Steps p.tables e below ((T.setTop g).pushFrame (.throwing x)) t ∧ Q t
/-- behind a call -/
theorem xx_call {Qa : State → Outcome → State → Prop} {pc : Nat} {ls : Array Slot} {st0 : List Value} (hr : xx_Run p l e R s m args below meth c H locs cells slots mc ms (F0 m pc ls st0) rest Qa free)
    (kr : ∀ (v : Option Value) (st₀ t : State) (L : List Loc), st₀.heap = H → s.WarmedH t.vm → (∀ q ∈ L, free q.base) → Qa st₀ (.returned v) t → W p l e R s m args below meth c t.heap (locs ++ L) (cells + mc) (slots + ms) Q (F0 m (pc + 3) ls (v.toList ++ rest)))
    (kt : ∀ (x : Addr) (st₀ t : State) (L : List Loc), st₀.heap = H → s.WarmedH t.vm → (∀ q ∈ L, free q.base) → Qa st₀ (.threw x) t → WT p l e R s m args below meth c t.heap (locs ++ L) (cells + mc) (slots + ms) Q (F0 m pc ls rest) x) :
    W p l e R s m args below meth c H locs cells slots Q (F0 m pc ls st0) := by
  intro T hT X
  obtain ⟨o, st₀, t, T', L, h0, X', hL, e1, e2, hq, st⟩ := hr T hT X
  cases o with
  | returned v =>
    obtain ⟨t2, a1, b1⟩ := kr v st₀ t L h0 (by rw [← e2]; exact X'.warmed) hL hq T' e1 X'
    exact ⟨t2, st t2 a1, b1⟩
  | threw x =>
    obtain ⟨t2, a1, b1⟩ := kt x st₀ t L h0 (by rw [← e2]; exact X'.warmed) hL hq T' e1 X'
    exact ⟨t2, st t2 a1, b1⟩
/-- the exception leaves the method: no handler covers it -/
theorem WT.out {pc : Nat} {ls : Array Slot} {st : List Value} {x : Addr} (hout : ∀ h ∈ c.exceptionTable.toList, covers h pc = false) (hlocks : meth.locks = false)
    (hq : ∀ t : State, t.heap = H → s.WarmedH t.vm → Qc args s (.threw x) t) (hf : ∀ q ∈ locs, free q.base) : WT p l e R s m args below meth c H locs cells slots (MQX below Qc args s cells slots free) (F0 m pc ls st) x := by
  intro T hT X
  obtain ⟨h1, h2, h3, h4, h5⟩ := X.leaveThrown x (g := F0 m pc ls st) rfl rfl rfl hout (hlocks := hlocks)
  exact ⟨_, h1, .threw x, h2, h3, hq _ hT h4, locs, ⟨h4, h5⟩, hf⟩
end XR
section XO
variable {p : Program} {l : Launch} {e : Env} {R : Room} {s : State} {m : MethodId} {args : Array Value} {below : List Frame} {meth : Method} {c : Code} {H : Heap} {locs : List Loc} {cells slots : Nat}
variable {y : MethodName} {cc : ByteArray} {maxL nL mc ms : Nat} {ret : Option FieldType} {ws : List Cond} {rm : Room} {Pc : Array Value → State → Prop} {Qc : Array Value → State → Outcome → State → Prop} {free : Addr → Prop}
theorem W.toX {g : JFrame} (h : W p l e R s m args below meth c H locs cells slots (MQ below Qc args s mc ms free) g) : W p l e R s m args below meth c H locs cells slots (MQX below Qc args s mc ms free) g := by
  intro T hT X
  obtain ⟨t, a1, o, b1, b2, b3, L, b4, b5⟩ := h T hT X
  exact ⟨t, a1, o, b1, b2, b3, L, ⟨b4.2.1, b4.2.2⟩, b5⟩
theorem MetX.ofW (hy : plainName y.cls = true) (hw : Cond.code y cc maxL ret ∈ ws)
    (body : ∀ p e s m args below meth c s₁, BodyLoose p l y (headSpec ws rm) cc maxL ret e s m args below meth c s₁ → c.maxLocals = maxL → Pc args s →
      W p l e rm s m args below meth c s.heap [] 0 0 (MQX below Qc args s mc ms free) (entryFrame m args maxL)) : MetX l y ws rm Pc Qc mc ms free := by
  refine MetFree.of_bodyS (code := cc) (maxLocals := maxL) (ret := ret) hy ?_ ?_
  · intro args s m h hn
    obtain ⟨meth, c, h1, h2, h3, h4, h5, h6, -, -⟩ := Cond.code_spec hn (atoms_spec (ws := ws) h _ hw)
    exact ⟨meth, c, h1, h2, h3, h4, h5, h6⟩
  · intro p e s m args below meth c s₁ B hml hP _
    have hh0 : s₁.heap = s.heap := by rw [B.state]; rfl
    obtain ⟨t, a1, o, b1, b2, b3⟩ := body p e s m args below meth c s₁ B hml hP s₁ hh0 (Stand.of_body B)
    exact ⟨t, o, a1, b1, b2, ⟨b3.1, b3.2⟩⟩
theorem MetX.ofWW {hs : List (Nat × Nat × Nat × Nat)} (hy : plainName y.cls = true) (hw : Cond.codeWith y cc maxL ret hs ∈ ws)
    (body : ∀ p e s m args below meth c s₁, BodyLoose p l y (headSpec ws rm) cc maxL ret e s m args below meth c s₁ → c.maxLocals = maxL → c.exceptionTable.toList.map (fun h => (h.startPc, h.endPc, h.handlerPc, h.catchType)) = hs → Pc args s →
      W p l e rm s m args below meth c s.heap [] 0 0 (MQX below Qc args s mc ms free) (entryFrame m args maxL)) : MetX l y ws rm Pc Qc mc ms free := by
  refine MetFree.of_bodyS (code := cc) (maxLocals := maxL) (ret := ret) hy ?_ ?_
  · intro args s m h hn
    obtain ⟨m', meth, c, h0, h1, h2, h3, h4, -, h5, h6, -⟩ := Cond.codeWith_spec (atoms_spec (ws := ws) h _ hw)
    cases hn.symm.trans h0
    exact ⟨meth, c, h1, h2, h3, h4, h5, h6⟩
  · intro p e s m args below meth c s₁ B hml hP _
    have hh0 : s₁.heap = s.heap := by rw [B.state]; rfl
    have htab : c.exceptionTable.toList.map (fun h => (h.startPc, h.endPc, h.handlerPc, h.catchType)) = hs := by
      obtain ⟨m', meth', c', h0, h1, h2, -, -, h5, -⟩ := Cond.codeWith_spec (atoms_spec (ws := ws) B.pre _ hw)
      cases B.named.symm.trans h0
      cases B.method.symm.trans h1
      cases (Stand.of_body B).code.symm.trans h2
      exact h5
    obtain ⟨t, a1, o, b1, b2, b3⟩ := body p e s m args below meth c s₁ B hml htab hP s₁ hh0 (Stand.of_body B)
    exact ⟨t, o, a1, b1, b2, ⟨b3.1, b3.2⟩⟩
/-- throw new X("..") out of a method that has written nothing: five instructions -/
theorem xx_thrownew {pc i1 i2 i3 : Nat} {ls : Array Slot} {rest : List Value} {own X tx : String} {names : List String}
    (hx : p.tables.exec = Jvm.exec) (hb : c.code = cc) (hml : c.maxLocals = nL) (htr : e.platform.stackTraces = false) (hown : s.vm.findClass own = some m.cls) (hlocks : meth.locks = false)
    (hX : Bundle.fit X = true) (hN : ∀ n ∈ names, Bundle.fit n = true) (h : ∀ w ∈ Bundle.ownAtoms own i3 X names, w.before args s = true)
    (hcl : (Cond.classLink own i1 X).before args s = true) (hini : (Cond.initialized X).before args s = true) (hst : (Cond.stringRef own i2 tx).before args s = true)
    (hout : ∀ h ∈ c.exceptionTable.toList, covers h (pc + 3 + 1 + 2 + 3) = false) (hls : ls.size = nL)
    (hcells : cells + 1 ≤ R.cells) (hslots : slots + 6 ≤ R.slots) (hfr : names.length + 3 < R.frames) (hlo : 1 + (rest.map fun v => v.category).sum + (13 * (names.length + 1) + 42) ≤ R.locals)
    (d0 : decode cc pc = .ok (.new i1, 3)) (d1 : decode cc (pc + 3) = .ok (.dup, 1)) (d2 : decode cc (pc + 3 + 1) = .ok (.ldc i2, 2)) (d3 : decode cc (pc + 3 + 1 + 2) = .ok (.invokespecial i3, 3)) (d4 : decode cc (pc + 3 + 1 + 2 + 3) = .ok (.athrow, 1))
    (hq : ∀ (x : Addr) (t : State), s.heap.size ≤ x → s.heap.size ≤ t.heap.size → (∀ q, q < s.heap.size → t.heap[q]? = s.heap[q]?) → s.WarmedH t.vm → (∃ ce : Cell, t.heap[x]? = some ce ∧ ce.vm = .none ∧ s.vm.findClass X = some ce.cls) → Qc args s (.threw x) t) :
    W p l e R s m args below meth c s.heap [] cells slots (MQX below Qc args s (cells + 1) (slots + 6) free) (F0 m pc ls rest) := by
  have hins : (Cond.instantiable X 6).before args s = true := h _ (by simp [Bundle.ownAtoms])
  obtain ⟨cX, kX, hfX, -⟩ := Cond.instantiable_spec hins
  refine W.newcK hx hb hown hcl hins hini (g := F0 m pc ls rest) rfl d0 hcells hslots hfX rfl fun H' kC hkC e1 z1 o1 => ?_
  refine W.eq (g2 := F0 m (pc + 3) ls (.ref s.heap.size :: rest)) rfl ?_
  refine lv_dup hx hb d1 rfl ?_
  obtain ⟨-, -, -, sa, -, -, -, -, -, hev⟩ := Cond.stringRef_spec hown hst
  refine va_ldcS hx hb hown (vk_R.of hst hev) d2 ?_
  intro T hT X'
  obtain ⟨U, g1, g2, g3, g4, g5, ce, g6, g7⟩ := X'.ctorThrowS hx htr hown hX hN h (fun x hx' => by cases hx') hfX hkC (a := s.heap.size) (by rw [hT]; exact e1) (Nat.le_refl _) (msg := .ref sa) rfl (g := F0 m (pc + 3 + 1 + 2) ls (.ref sa :: .ref s.heap.size :: .ref s.heap.size :: rest)) rfl (hls.trans hml.symm) rfl rfl (rest := rest) rfl (by rw [hb]; exact d3) (by rw [hb]; exact d4) hout hfr
    (by show 2 * 0 + (1 + (rest.map fun v => v.category).sum) + _ ≤ _; omega) (hlocks := hlocks)
  refine ⟨U, g1, .threw s.heap.size, g2, g3, hq s.heap.size U (Nat.le_refl _) g5.2.1 (fun q hq' => ?_) g4 ⟨ce, g6, g7.vm, g7.cls⟩, [], ⟨g4, g5⟩, fun q hq' => by cases hq'⟩
  obtain ⟨cq, hcq⟩ : ∃ cq, s.heap[q]? = some cq := ⟨_, Array.getElem?_eq_getElem hq'⟩
  rw [hcq]
  exact g5.old_cell hcq
end XO
/-! what a call ends with: .inl v: it returned v; .inr k: it threw an exception of the k-th class -/
abbrev XR : Type := Option Value ⊕ Nat
abbrev XI (v : Int32) : XR := .inl (some (.int v))
abbrev XL (v : Int64) : XR := .inl (some (.long v))
abbrev XV : XR := .inl none
def xi : Int32 ⊕ Nat → XR | .inl v => XI v | .inr k => .inr k
def xl : Int64 ⊕ Nat → XR | .inl v => XL v | .inr k => .inr k
def xu : Unit ⊕ Nat → XR | .inl _ => XV | .inr k => .inr k
def xx_nm : Nat → String
  | 0 => "java/lang/IllegalStateException"
  | 1 => "java/lang/IllegalArgumentException"
  | _ => "java/lang/IndexOutOfBoundsException"
/-- the cell x is an object of the k-th class of exceptions -/
def xx_X (k : Nat) (t : State) (x : Addr) : Prop := ∃ ce : Cell, t.heap[x]? = some ce ∧ ce.vm = .none ∧ t.vm.findClass (xx_nm k) = some ce.cls
/-- a reader's end: the heap is as it was, but for the exception -/
def xx_R (r : XR) (st : State) (o : Outcome) (t : State) : Prop := match r with
  | .inl v => o = .returned v ∧ t.heap = st.heap
  | .inr k => ∃ x, o = .threw x ∧ st.heap.size ≤ x ∧ st.heap.size ≤ t.heap.size ∧ (∀ q, q < st.heap.size → t.heap[q]? = st.heap[q]?) ∧ xx_X k t x
/-- a writer's end, but for its world -/
def xx_O (r : XR) (st : State) (o : Outcome) (t : State) : Prop := match r with
  | .inl v => o = .returned v
  | .inr k => ∃ x, o = .threw x ∧ st.heap.size ≤ x ∧ xx_X k t x
abbrev xx_Q (r : XR) : Array Value → State → Outcome → State → Prop := fun _ st o t => xx_R r st o t
theorem ifp {P : Prop} [Decidable P] {α : Type} {a b r : α} (c : P) (h : (if P then a else b) = r) : a = r := by rw [if_pos c] at h; exact h
theorem ifn {P : Prop} [Decidable P] {α : Type} {a b r : α} (c : ¬ P) (h : (if P then a else b) = r) : b = r := by rw [if_neg c] at h; exact h
theorem obs {α β : Type} {x : Option α} {K : α → Option β} {r : β} (h : x.bind K = some r) : ∃ a, x = some a ∧ K a = some r := by
  cases x with
  | none => cases h
  | some a => exact ⟨a, rfl, h⟩
/-- reads and writes of arrays: nothing where the index is out of range -/
def rdL (f : Nat → Int64) (n : Nat) (i : Int32) : Option Int64 := if i < 0 ∨ n ≤ i.toNatClampNeg then none else some (f i.toNatClampNeg)
def rdI (f : Nat → Int32) (n : Nat) (i : Int32) : Option Int32 := if i < 0 ∨ n ≤ i.toNatClampNeg then none else some (f i.toNatClampNeg)
def wrL (f : Nat → Int64) (n : Nat) (i : Int32) (x : Int64) : Option (Nat → Int64) := if i < 0 ∨ n ≤ i.toNatClampNeg then none else some (vp_updL f i.toNatClampNeg x)
def wrI (f : Nat → Int32) (n : Nat) (i : Int32) (x : Int32) : Option (Nat → Int32) := if i < 0 ∨ n ≤ i.toNatClampNeg then none else some (upd f i.toNatClampNeg x)
theorem rdL_some {β : Type} {f : Nat → Int64} {n : Nat} {i : Int32} {K : Int64 → Option β} {r : β} (h : (rdL f n i).bind K = some r) : ∃ v, f i.toNatClampNeg = v ∧ vp_in i n ∧ K v = some r := by
  unfold rdL at h
  split at h
  · cases h
  · rename_i c; exact ⟨_, rfl, c, h⟩
theorem rdI_some {β : Type} {f : Nat → Int32} {n : Nat} {i : Int32} {K : Int32 → Option β} {r : β} (h : (rdI f n i).bind K = some r) : ∃ v, f i.toNatClampNeg = v ∧ vp_in i n ∧ K v = some r := by
  unfold rdI at h
  split at h
  · cases h
  · rename_i c; exact ⟨_, rfl, c, h⟩
theorem wrL_some {β : Type} {f : Nat → Int64} {n : Nat} {i : Int32} {x : Int64} {K : (Nat → Int64) → Option β} {r : β} (h : (wrL f n i x).bind K = some r) : ∃ v, vp_updL f i.toNatClampNeg x = v ∧ vp_in i n ∧ K v = some r := by
  unfold wrL at h
  split at h
  · cases h
  · rename_i c; exact ⟨_, rfl, c, h⟩
theorem wrI_some {β : Type} {f : Nat → Int32} {n : Nat} {i : Int32} {x : Int32} {K : (Nat → Int32) → Option β} {r : β} (h : (wrI f n i x).bind K = some r) : ∃ v, upd f i.toNatClampNeg x = v ∧ vp_in i n ∧ K v = some r := by
  unfold wrI at h
  split at h
  · cases h
  · rename_i c; exact ⟨_, rfl, c, h⟩
/-- a call that may throw, then the rest -/
def thn {α β : Type} (x : Option (α ⊕ Nat)) (K : α → Option (β ⊕ Nat)) : Option (β ⊕ Nat) := x.bind fun r => match r with | .inl a => K a | .inr k => some (.inr k)
def thnS {α β S : Type} (st : S) (x : Option (α ⊕ Nat)) (K : α → Option ((β ⊕ Nat) × S)) : Option ((β ⊕ Nat) × S) := x.bind fun r => match r with | .inl a => K a | .inr k => some (.inr k, st)
def thnM {α β S : Type} (x : Option ((α ⊕ Nat) × S)) (K : α → S → Option ((β ⊕ Nat) × S)) : Option ((β ⊕ Nat) × S) := x.bind fun r => match r with | (.inl a, st) => K a st | (.inr k, st) => some (.inr k, st)
theorem thn_some {α β : Type} {x : Option (α ⊕ Nat)} {K : α → Option (β ⊕ Nat)} {r : β ⊕ Nat} (h : thn x K = some r) : (∃ a, x = some (.inl a) ∧ K a = some r) ∨ ∃ k, x = some (.inr k) ∧ some (.inr k) = some r := by
  obtain ⟨a, h1, h2⟩ := obs h
  rcases a with a | k
  · exact Or.inl ⟨a, h1, h2⟩
  · exact Or.inr ⟨k, h1, h2⟩
theorem thnS_some {α β S : Type} {st : S} {x : Option (α ⊕ Nat)} {K : α → Option ((β ⊕ Nat) × S)} {r : (β ⊕ Nat) × S} (h : thnS st x K = some r) : (∃ a, x = some (.inl a) ∧ K a = some r) ∨ ∃ k, x = some (.inr k) ∧ some (.inr k, st) = some r := by
  obtain ⟨a, h1, h2⟩ := obs h
  rcases a with a | k
  · exact Or.inl ⟨a, h1, h2⟩
  · exact Or.inr ⟨k, h1, h2⟩
theorem thnM_some {α β S : Type} {x : Option ((α ⊕ Nat) × S)} {K : α → S → Option ((β ⊕ Nat) × S)} {r : (β ⊕ Nat) × S} (h : thnM x K = some r) : (∃ a st, x = some (.inl a, st) ∧ K a st = some r) ∨ ∃ k st, x = some (.inr k, st) ∧ some (.inr k, st) = some r := by
  obtain ⟨⟨a, st⟩, h1, h2⟩ := obs h
  rcases a with a | k
  · exact Or.inl ⟨a, st, h1, h2⟩
  · exact Or.inr ⟨k, st, h1, h2⟩
/-- a static reference of a class: where it lies, and that it lies outside A -/
def zs (C n d : String) (A : Nat → Prop) (U : State) (H : Heap) : Prop := ∃ (c : ClassId) (k : Class) (i : Nat) (f : Field) (a : Nat) (cell : Cell) (v : Value), U.vm.findClass C = some c ∧ U.fieldFound? C n d = some (c, k, i, f) ∧ f.isStatic = true ∧ k.statics = some a ∧ k.staticTypes[f.slot]? = some f.type ∧ H[a]? = some cell ∧ cell.vm.isStatics = true ∧ cell.cls = c ∧ f.slot < cell.slots.size ∧ cell.slots[f.slot]? = some v ∧ (v = .null ∨ ∃ t, v = .ref t) ∧ ¬ A a
theorem zs.moved {C n d : String} {A : Nat → Prop} {u U : State} {H : Heap} (hvm : u.vm.Alike U.vm) (h : zs C n d A u H) : zs C n d A U H := by
  obtain ⟨c, k, i, f, a, cell, v, h0, h1, h2, h3, h4, h5⟩ := h
  obtain ⟨k', hi', he⟩ := State.fieldFound?_setVm hvm h1
  exact ⟨c, k', i, f, a, cell, v, by rw [hvm.findClass]; exact h0, hi', h2, by rw [he]; exact h3, by rw [he]; exact h4, h5⟩
theorem zs.kept {C n d : String} {A : Nat → Prop} {U : State} {H H1 : Heap} (h : zs C n d A U H) (hq : ∀ a : Nat, a < H.size → ¬ A a → H1[a]? = H[a]?) : zs C n d A U H1 := by
  obtain ⟨c, k, i, f, a, cell, v, h0, h1, h2, h3, h4, h5, h6, h7, h8, h9, h10, h11⟩ := h
  exact ⟨c, k, i, f, a, cell, v, h0, h1, h2, h3, h4, by rw [hq a (Array.getElem?_eq_some_iff.mp h5).1 h11]; exact h5, h6, h7, h8, h9, h10, h11⟩
theorem zs.narrow {C n d : String} {A B : Nat → Prop} {U : State} {H : Heap} (h : zs C n d A U H) (hAB : ∀ q, B q → A q) : zs C n d B U H := by
  obtain ⟨c, k, i, f, a, cell, v, h0, h1, h2, h3, h4, h5, h6, h7, h8, h9, h10, h11⟩ := h
  exact ⟨c, k, i, f, a, cell, v, h0, h1, h2, h3, h4, h5, h6, h7, h8, h9, h10, fun z => h11 (hAB a z)⟩
/-- no cell of a world is a cell of statics -/
theorem zs.world {C n d : String} {U : State} {H : Heap} {D : va_G} {cl : List vw_C} {ws : va_W} (hP : va_P D cl ws H) (h : zs C n d (fun _ => False) U H) : zs C n d (va_A ws H.size) U H := by
  obtain ⟨c, k, i, f, a, cell, v, h0, h1, h2, h3, h4, h5, h6, h7, h8, h9, h10, -⟩ := h
  refine ⟨c, k, i, f, a, cell, v, h0, h1, h2, h3, h4, h5, h6, h7, h8, h9, h10, fun hA => ?_⟩
  rcases hA with ⟨k, e, hk⟩ | hk
  · have hat := hP k _ hk
    cases e with
    | inl x =>
      have hat : H[a]? = some (vp_cell x.1 x.2) := hat
      rw [h5] at hat
      have he := Option.some.inj hat
      rw [he] at h6
      obtain ⟨x1, x2, x3⟩ := x
      rcases x3 with f | f | f | f | f <;> cases h6
    | inr o =>
      obtain ⟨r, -, cell', g1, g2, g3, -⟩ := hat
      rw [h5] at g1
      cases g1
      rw [g3] at h6
      cases h6
  · exact absurd (Array.getElem?_eq_some_iff.mp h5).1 (by omega)
theorem zs.of {args : Array Value} {s : State} {C n d : String} {A : Nat → Prop} (hl : (Cond.laysStatic C n d).before args s = true) (hr : (Cond.isRef (.static C n d)).before args s = true) (hA : ∀ a : Nat, a < s.heap.size → ¬ A a) : zs C n d A s s.heap := by
  obtain ⟨c, k, i, f, a, cell, hc, hi, hst, ha, hcell, hs, hcls, hlt, hty⟩ := Cond.laysStatic_spec hl
  obtain ⟨u, hu⟩ := Cond.staticRefV hi hst ha hcell hs hr
  refine ⟨c, k, i, f, a, cell, u.v, hc, hi, hst, ha, hty, hcell, hs, hcls, hlt, hu, ?_, hA a (Array.getElem?_eq_some_iff.mp hcell).1⟩
  obtain ⟨w, hw⟩ := u
  cases w <;> first | exact Or.inl rfl | exact Or.inr ⟨_, rfl⟩ | (simp [Value.isRef] at hw)
theorem zs.lays {C n d : String} {A : Nat → Prop} {s : State} {args : Array Value} (h : zs C n d A s s.heap) : (Cond.laysStatic C n d).before args s = true := by
  obtain ⟨c, k, i, f, a, cell, v, h0, h1, h2, h3, h4, h5, h6, h7, h8, h9, h10, h11⟩ := h
  simp [Cond.before, Cond.holds, Cond.value, h0, h1, h2, h3, h4, h5, h6, h7, h8]
theorem zs.isRef {C n d : String} {A : Nat → Prop} {s : State} {args : Array Value} (h : zs C n d A s s.heap) : (Cond.isRef (.static C n d)).before args s = true := by
  obtain ⟨c, k, i, f, a, cell, v, h0, h1, h2, h3, h4, h5, h6, h7, h8, h9, hv, h11⟩ := h
  rcases hv with rfl | ⟨t, rfl⟩ <;> simp [Cond.before, Cond.holds, Cond.value, Term.eval, State.fieldNamed?, h1, h2, h3, h5, h6, h9]
/-- the two statics of Throwable that a constructor reads -/
def zz (A : Nat → Prop) (U : State) (H : Heap) : Prop := zs "java/lang/Throwable" "UNASSIGNED_STACK" "[Ljava/lang/StackTraceElement;" A U H ∧ zs "java/lang/Throwable" "SUPPRESSED_SENTINEL" "Ljava/util/List;" A U H
theorem zz.moved {A : Nat → Prop} {u U : State} {H : Heap} (hvm : u.vm.Alike U.vm) (h : zz A u H) : zz A U H := ⟨zs.moved hvm h.1, zs.moved hvm h.2⟩
theorem zz.kept {A : Nat → Prop} {U : State} {H H1 : Heap} (h : zz A U H) (hq : ∀ a : Nat, a < H.size → ¬ A a → H1[a]? = H[a]?) : zz A U H1 := ⟨zs.kept h.1 hq, zs.kept h.2 hq⟩
theorem zz.narrow {A B : Nat → Prop} {U : State} {H : Heap} (h : zz A U H) (hAB : ∀ q, B q → A q) : zz B U H := ⟨zs.narrow h.1 hAB, zs.narrow h.2 hAB⟩
theorem zz.at {A : Nat → Prop} {s U : State} {H : Heap} {locs : List Loc} (h : zz A s s.heap) (hS : va_S A s.heap H locs) (hU : U.heap = H) (hvm : s.vm.Alike U.vm) : zz (fun _ => False) U U.heap := by
  rw [hU]
  exact ((h.kept hS.2.1).narrow (fun _ z => z.elim)).moved hvm
theorem zz.world {U : State} {H : Heap} {D : va_G} {cl : List vw_C} {ws : va_W} (hP : va_P D cl ws H) (h : zz (fun _ => False) U H) : zz (va_A ws H.size) U H := ⟨zs.world hP h.1, zs.world hP h.2⟩
/-- words that hold on under warmer tables, whatever the heap -/
def xgood : Cond → Bool
  | .arrayClass _ => true
  | .stringRef .. => true
  | w => w.onTables && w.keepsFace
theorem xword {args a' : Array Value} {s U : State} (hW : s.WarmedH U.vm) {c : Cond} (hc : xgood c = true) (h : c.before args s = true) : c.before a' U = true := by
  have key : ∀ c : Cond, (c.onTables && c.keepsFace) = true → c.before args s = true → c.before a' U = true := by
    intro c hc h
    simp only [Bool.and_eq_true] at hc
    have h1 := Cond.before_shiftedFace (State.Shifted.of_warmed hW) c hc.2 h
    rw [Cond.onTables_vm (A' := a') (U' := U) U.vm c hc.1, State.setVm_self] at h1
    exact h1
  cases c
  case arrayClass ty =>
    have h1 : (Cond.arrayClass ty).before args (s.setVm U.vm) = true := Cond.before_shiftedFace (State.Shifted.of_warmed hW) _ rfl h
    exact h1
  case stringRef own k tx =>
    have h1 := Cond.stringRef_warmed hW h
    exact h1
  all_goals exact key _ hc h
theorem WT.widen {p : Program} {l : Launch} {e : Env} {R : Room} {s : State} {m : MethodId} {args : Array Value} {below : List Frame} {meth : Method} {c : Code} {H : Heap} {locs : List Loc} {cells slots : Nat} {Q : State → Prop} {g : JFrame} {x : Addr} {k n : Nat} (h1 : cells ≤ k) (h2 : slots ≤ n) (kk : WT p l e R s m args below meth c H locs k n Q g x) : WT p l e R s m args below meth c H locs cells slots Q g x := fun T hT X => kk T hT (stand_widen X h1 h2)
/-! AN EXCEPTION IS CAUGHT: the method's own table is searched, its entries one by one; the classes that they name are resolved on the way -/
section XC
/-- the search among the entries es ends with h, and leaves the tables vm' -/
def xGo (e : Env) (S : State) (f : JFrame) (a : Addr) (es : List ExceptionTableEntry) (h : Handler) (vm' : Vm) : Prop :=
  ∀ (Q : Handler → Pre) (E : CtlPost) (d : Bool) (acts : List Action), wp (findHandler.go f a es) Q E e d acts S ↔ Q h d acts (S.setVm vm')
variable {e : Env} {S : State} {f : JFrame} {a : Addr}
theorem xGo.hit {x : ExceptionTableEntry} {t : List ExceptionTableEntry} {c : ClassId} {cell : Cell} (hx : covers x f.pc = true) (h0 : x.catchType ≠ 0)
    (hl : S.vm.ClassLinks e.platform f.method.cls x.catchType c) (hcell : S.heap[a]? = some cell) (hobj : ∀ k, cell.vm ≠ .statics k)
    (hk : ∃ k, S.vm.classes[cell.cls]? = some k) (hc : ∃ k, S.vm.classes[c]? = some k) (hfit : S.vm.assignable cell.cls c = true) :
    xGo e S f a (x :: t) (.found x.handlerPc) (S.vm.noted f.method.cls x.catchType (.cls c)) := by
  intro Q E d acts
  simp only [covers] at hx
  obtain ⟨ha, ht⟩ := (resolveClass_links e.toSetting hl).op (op := VmOp.resolveClass f.method.cls x.catchType) rfl
  have hal : S.vm.Alike (S.vm.noted f.method.cls x.catchType (.cls c)) := (Vm.Alike.refl S.vm).noted _ _ _
  obtain ⟨k1, hk1⟩ := hk
  obtain ⟨k2, hk2⟩ := hc
  obtain ⟨k1', hk1', -⟩ := hal.2.2 _ _ hk1
  obtain ⟨k2', hk2', -⟩ := hal.2.2 _ _ hk2
  have hfit' : (S.vm.noted f.method.cls x.catchType (.cls c)).assignable cell.cls c = true := by rw [hal.assignable]; exact hfit
  simp [findHandler.go, hx, h0, ha, ht, hcell, hobj, hk1', hk2', hfit', VmOp.dirties, VmOp.acts]
theorem xGo.pass {x : ExceptionTableEntry} {t : List ExceptionTableEntry} {c : ClassId} {cell : Cell} {h : Handler} {vm' : Vm} (hx : covers x f.pc = true) (h0 : x.catchType ≠ 0)
    (hl : S.vm.ClassLinks e.platform f.method.cls x.catchType c) (hcell : S.heap[a]? = some cell) (hobj : ∀ k, cell.vm ≠ .statics k)
    (hk : ∃ k, S.vm.classes[cell.cls]? = some k) (hc : ∃ k, S.vm.classes[c]? = some k) (hfit : S.vm.assignable cell.cls c = false)
    (hrest : xGo e (S.setVm (S.vm.noted f.method.cls x.catchType (.cls c))) f a t h vm') : xGo e S f a (x :: t) h vm' := by
  intro Q E d acts
  simp only [covers] at hx
  obtain ⟨ha, ht⟩ := (resolveClass_links e.toSetting hl).op (op := VmOp.resolveClass f.method.cls x.catchType) rfl
  have hal : S.vm.Alike (S.vm.noted f.method.cls x.catchType (.cls c)) := (Vm.Alike.refl S.vm).noted _ _ _
  obtain ⟨k1, hk1⟩ := hk
  obtain ⟨k2, hk2⟩ := hc
  obtain ⟨k1', hk1', -⟩ := hal.2.2 _ _ hk1
  obtain ⟨k2', hk2', -⟩ := hal.2.2 _ _ hk2
  have hfit' : (S.vm.noted f.method.cls x.catchType (.cls c)).assignable cell.cls c = false := by rw [hal.assignable]; exact hfit
  have hr := hrest Q E
  simp only [State.setVm_twice] at hr
  simp [findHandler.go, hx, h0, ha, ht, hcell, hobj, hk1', hk2', hfit', VmOp.dirties, VmOp.acts]
  exact hr _ _
theorem xGo.step {tb : Tables} {s target : State} {g : JFrame} {c : Code} {meth : Method} {below : List Frame} {x : Addr} (h : At s g.method c below) (hm : s.vm.method? g.method = some meth) (hc : meth.code = some c) {pc : Nat} {vm' : Vm}
    (hfind : xGo e ((s.setTop g).pushFrame (.throwing x)) g x c.exceptionTable.toList (.found pc) vm') (hrest : Steps tb e below ((s.setVm vm').setTop { g with pc := pc, stack := [.ref x] }) target) :
    Steps tb e below ((s.setTop g).pushFrame (.throwing x)) target := by
  have hf : ∀ (Q : Handler → Pre) (E : CtlPost) (d : Bool) (acts : List Action), wp (findHandler g x) Q E e d acts ((s.setTop g).pushFrame (.throwing x)) ↔ Q (.found pc) d acts (((s.setTop g).pushFrame (.throwing x)).setVm vm') := by
    intro Q E d acts
    rw [W.findHandler_eq (s := (s.setTop g).pushFrame (.throwing x)) (meth := meth) (code := c) (by rw [Stand.throwing_vm]; exact hm) hc]
    exact hfind Q E d acts
  obtain ⟨hgo, hw⟩ := h.throwing x
  refine Steps.head hgo hw ?_
  rw [stepThread_throwing (frames_entered h.top _)]
  have hstep : ∀ r, (stepThrowing e ((s.setTop g).pushFrame (.throwing x)) x (.java g :: r)).Is ((((s.setTop g).pushFrame (.throwing x)).setVm vm').setFrames (.java { g with pc := pc, stack := [.ref x] } :: r)) [] := by
    intro r
    simp only [stepThrowing, searchFrame, vmDo]
    generalize hr : Sem.go _ e false [] ((s.setTop g).pushFrame (.throwing x)) = res
    obtain ⟨as, rfl, ha⟩ := Sem.eq_ok_of hr (a := Handler.found pc) (s' := ((s.setTop g).pushFrame (.throwing x)).setVm vm') (acts' := []) (by simp [hf _ _ _ _])
    exact ⟨rfl, ha⟩
  rw [(hstep _).1]
  obtain ⟨g₀, hg⟩ := Option.isSome_iff_exists.mp h.top
  obtain ⟨r, hr⟩ := State.topJava?_eq_some.mp hg
  have hr' : (s.setVm vm').frames = .java g₀ :: r := hr
  have key : ∀ (u : State) (F G : List Frame), ((u.setFrames F).setVm vm').setFrames G = (u.setVm vm').setFrames G := by
    intro u F G
    have h1 : (u.setFrames F).setVm vm' = (u.setVm vm').setFrames F := rfl
    rw [h1, State.setFrames_setFrames]
  rw [State.setTop_of_frames _ hr'] at hrest
  rw [hr, List.tail_cons, State.pushFrame, key, State.setTop_of_frames _ hr, key]
  exact hrest
end XC
end
section
/-- the words that every method of ours is given: those of the tables that stay true while the tables get warmer -/
def lw_g : List Cond := lw_tbl.filter xgood
theorem lw_good {args : Array Value} {s : State} (hts : ∀ w ∈ lw_g, w.before args s = true) : ∀ w ∈ lw_g, ∀ (a' : Array Value) (U : State), s.WarmedH U.vm → w.before a' U = true :=
  fun w hw _ _ hW => xword hW (List.mem_filter.mp hw).2 (hts w hw)
theorem callB_x {R : Room} {s : State} {args : Array Value} {own : String} {index : Nat} {y : MethodName} {bytes : ByteArray} {maxL : Nat} {ret : Option FieldType} {rm : Room} (hts : ∀ w ∈ lw_g, w.before args s = true) (hc : Cond.code y bytes maxL ret ∈ lw_g) (n : Nat) (hi : Cond.initialized y.cls ∈ lw_g) (hl : Cond.methodLink own index y ∈ lw_g)
    (hd : y.cls ≠ "java/lang/invoke/MethodHandle" ∧ y.cls ≠ "java/lang/invoke/VarHandle" ∧ (parseMethodDescriptor y.desc).map (fun d => d.parameters.length) = some n) (hR : rm.frames + 1 ≤ R.frames ∧ 8 + (maxL + 11) + rm.locals ≤ R.locals) : CallB R s args own index y bytes maxL ret lw_g rm rm.cells rm.slots n := by
  refine ⟨rfl, rfl, hR.1, hR.2, lw_good hts, hc, hts _ hc, hts _ hi, ⟨hd.1, hd.2.1⟩, fun sig h => ?_, hts _ hl⟩
  have h2 := hd.2.2
  rw [h] at h2
  exact (Option.some.inj h2).symm
def RB : String := "LeafBook"
abbrev kb_put : ByteArray := prog_1_method_2_code
def yb_put : MethodName := ⟨"LeafBook", "put", "(IJ)I"⟩
theorem mcb_put : Cond.code yb_put kb_put 6 (some .int) ∈ lw_g := List.mem_filter.mpr ⟨List.mem_append_right _ (List.mem_of_getElem? (i := 172) (by decide +kernel)), rfl⟩
abbrev kb_drop : ByteArray := prog_1_method_3_code
def yb_drop : MethodName := ⟨"LeafBook", "drop", "(I)I"⟩
theorem mcb_drop : Cond.code yb_drop kb_drop 4 (some .int) ∈ lw_g := List.mem_filter.mpr ⟨List.mem_append_right _ (List.mem_of_getElem? (i := 334) (by decide +kernel)), rfl⟩
abbrev kb_version : ByteArray := prog_1_method_4_code
def yb_version : MethodName := ⟨"LeafBook", "version", "()I"⟩
theorem mcb_version : Cond.code yb_version kb_version 1 (some .int) ∈ lw_g := List.mem_filter.mpr ⟨List.mem_append_right _ (List.mem_of_getElem? (i := 345) (by decide +kernel)), rfl⟩
abbrev kb_has : ByteArray := prog_1_method_5_code
def yb_has : MethodName := ⟨"LeafBook", "has", "(II)Z"⟩
theorem mcb_has : Cond.code yb_has kb_has 3 (some .boolean) ∈ lw_g := List.mem_filter.mpr ⟨List.mem_append_right _ (List.mem_of_getElem? (i := 353) (by decide +kernel)), rfl⟩
abbrev kb_find : ByteArray := prog_1_method_6_code
def yb_find : MethodName := ⟨"LeafBook", "find", "(II)J"⟩
theorem mcb_find : Cond.code yb_find kb_find 4 (some .long) ∈ lw_g := List.mem_filter.mpr ⟨List.mem_append_right _ (List.mem_of_getElem? (i := 384) (by decide +kernel)), rfl⟩
abbrev kb_count : ByteArray := prog_1_method_7_code
def yb_count : MethodName := ⟨"LeafBook", "count", "(II)I"⟩
theorem mcb_count : Cond.code yb_count kb_count 4 (some .int) ∈ lw_g := List.mem_filter.mpr ⟨List.mem_append_right _ (List.mem_of_getElem? (i := 391) (by decide +kernel)), rfl⟩
abbrev kb_key : ByteArray := prog_1_method_8_code
def yb_key : MethodName := ⟨"LeafBook", "key", "(II)I"⟩
theorem mcb_key : Cond.code yb_key kb_key 4 (some .int) ∈ lw_g := List.mem_filter.mpr ⟨List.mem_append_right _ (List.mem_of_getElem? (i := 399) (by decide +kernel)), rfl⟩
abbrev kb_same : ByteArray := prog_1_method_9_code
def yb_same : MethodName := ⟨"LeafBook", "same", "(II)Z"⟩
theorem mcb_same : Cond.code yb_same kb_same 3 (some .boolean) ∈ lw_g := List.mem_filter.mpr ⟨List.mem_append_right _ (List.mem_of_getElem? (i := 411) (by decide +kernel)), rfl⟩
abbrev kb_free : ByteArray := prog_1_method_10_code
def yb_free : MethodName := ⟨"LeafBook", "free", "()I"⟩
theorem mcb_free : Cond.code yb_free kb_free 1 (some .int) ∈ lw_g := List.mem_filter.mpr ⟨List.mem_append_right _ (List.mem_of_getElem? (i := 422) (by decide +kernel)), rfl⟩
abbrev kb_crash : ByteArray := prog_1_method_11_code
def yb_crash : MethodName := ⟨"LeafBook", "crash", "(I)I"⟩
theorem mcb_crash : Cond.code yb_crash kb_crash 2 (some .int) ∈ lw_g := List.mem_filter.mpr ⟨List.mem_append_right _ (List.mem_of_getElem? (i := 435) (by decide +kernel)), rfl⟩
abbrev kb_reopen : ByteArray := prog_1_method_12_code
def yb_reopen : MethodName := ⟨"LeafBook", "reopen", "()I"⟩
theorem mcb_reopen : Cond.code yb_reopen kb_reopen 2 (some .int) ∈ lw_g := List.mem_filter.mpr ⟨List.mem_append_right _ (List.mem_of_getElem? (i := 83) (by decide +kernel)), rfl⟩
abbrev kb_wordAt : ByteArray := prog_1_method_13_code
def yb_wordAt : MethodName := ⟨"LeafBook", "wordAt", "(II)J"⟩
theorem mcb_wordAt : Cond.code yb_wordAt kb_wordAt 3 (some .long) ∈ lw_g := List.mem_filter.mpr ⟨List.mem_append_right _ (List.mem_of_getElem? (i := 452) (by decide +kernel)), rfl⟩
abbrev kb_rootAt : ByteArray := prog_1_method_14_code
def yb_rootAt : MethodName := ⟨"LeafBook", "rootAt", "(II)J"⟩
theorem mcb_rootAt : Cond.code yb_rootAt kb_rootAt 3 (some .long) ∈ lw_g := List.mem_filter.mpr ⟨List.mem_append_right _ (List.mem_of_getElem? (i := 464) (by decide +kernel)), rfl⟩
abbrev kb_poke : ByteArray := prog_1_method_15_code
def yb_poke : MethodName := ⟨"LeafBook", "poke", "(IIJ)V"⟩
theorem mcb_poke : Cond.code yb_poke kb_poke 5 (none) ∈ lw_g := List.mem_filter.mpr ⟨List.mem_append_right _ (List.mem_of_getElem? (i := 476) (by decide +kernel)), rfl⟩
abbrev kb_pokeRoot : ByteArray := prog_1_method_16_code
def yb_pokeRoot : MethodName := ⟨"LeafBook", "pokeRoot", "(IIJ)V"⟩
theorem mcb_pokeRoot : Cond.code yb_pokeRoot kb_pokeRoot 5 (none) ∈ lw_g := List.mem_filter.mpr ⟨List.mem_append_right _ (List.mem_of_getElem? (i := 488) (by decide +kernel)), rfl⟩
abbrev kb_badAt : ByteArray := prog_1_method_17_code
def yb_badAt : MethodName := ⟨"LeafBook", "badAt", "()I"⟩
theorem mcb_badAt : Cond.code yb_badAt kb_badAt 4 (some .int) ∈ lw_g := List.mem_filter.mpr ⟨List.mem_append_right _ (List.mem_of_getElem? (i := 145) (by decide +kernel)), rfl⟩
abbrev kb_requireOpen : ByteArray := prog_1_method_18_code
def yb_requireOpen : MethodName := ⟨"LeafBook", "requireOpen", "()V"⟩
theorem mcb_requireOpen : Cond.code yb_requireOpen kb_requireOpen 1 (none) ∈ lw_g := List.mem_filter.mpr ⟨List.mem_append_right _ (List.mem_of_getElem? (i := 180) (by decide +kernel)), rfl⟩
abbrev kb_requireWritable : ByteArray := prog_1_method_19_code
def yb_requireWritable : MethodName := ⟨"LeafBook", "requireWritable", "()V"⟩
theorem mcb_requireWritable : Cond.code yb_requireWritable kb_requireWritable 1 (none) ∈ lw_g := List.mem_filter.mpr ⟨List.mem_append_right _ (List.mem_of_getElem? (i := 176) (by decide +kernel)), rfl⟩
abbrev kb_requireKey : ByteArray := prog_1_method_20_code
def yb_requireKey : MethodName := ⟨"LeafBook", "requireKey", "(I)V"⟩
theorem mcb_requireKey : Cond.code yb_requireKey kb_requireKey 2 (none) ∈ lw_g := List.mem_filter.mpr ⟨List.mem_append_right _ (List.mem_of_getElem? (i := 257) (by decide +kernel)), rfl⟩
abbrev kb_requireKept : ByteArray := prog_1_method_21_code
def yb_requireKept : MethodName := ⟨"LeafBook", "requireKept", "(I)V"⟩
theorem mcb_requireKept : Cond.code yb_requireKept kb_requireKept 2 (none) ∈ lw_g := List.mem_filter.mpr ⟨List.mem_append_right _ (List.mem_of_getElem? (i := 357) (by decide +kernel)), rfl⟩
abbrev kb_requirePageWord : ByteArray := prog_1_method_22_code
def yb_requirePageWord : MethodName := ⟨"LeafBook", "requirePageWord", "(II)V"⟩
theorem mcb_requirePageWord : Cond.code yb_requirePageWord kb_requirePageWord 3 (none) ∈ lw_g := List.mem_filter.mpr ⟨List.mem_append_right _ (List.mem_of_getElem? (i := 456) (by decide +kernel)), rfl⟩
abbrev kb_requireRootWord : ByteArray := prog_1_method_23_code
def yb_requireRootWord : MethodName := ⟨"LeafBook", "requireRootWord", "(II)V"⟩
theorem mcb_requireRootWord : Cond.code yb_requireRootWord kb_requireRootWord 3 (none) ∈ lw_g := List.mem_filter.mpr ⟨List.mem_append_right _ (List.mem_of_getElem? (i := 468) (by decide +kernel)), rfl⟩
abbrev kb_requireMask : ByteArray := prog_1_method_24_code
def yb_requireMask : MethodName := ⟨"LeafBook", "requireMask", "(J)V"⟩
theorem mcb_requireMask : Cond.code yb_requireMask kb_requireMask 3 (none) ∈ lw_g := List.mem_filter.mpr ⟨List.mem_append_right _ (List.mem_of_getElem? (i := 480) (by decide +kernel)), rfl⟩
abbrev kb_sumOf : ByteArray := prog_1_method_25_code
def yb_sumOf : MethodName := ⟨"LeafBook", "sumOf", "([JII)J"⟩
theorem mcb_sumOf : Cond.code yb_sumOf kb_sumOf 8 (some .long) ∈ lw_g := List.mem_filter.mpr ⟨List.mem_append_right _ (List.mem_of_getElem? (i := 36) (by decide +kernel)), rfl⟩
abbrev kb_isRightPage : ByteArray := prog_1_method_26_code
def yb_isRightPage : MethodName := ⟨"LeafBook", "isRightPage", "(I)Z"⟩
theorem mcb_isRightPage : Cond.code yb_isRightPage kb_isRightPage 10 (some .boolean) ∈ lw_g := List.mem_filter.mpr ⟨List.mem_append_right _ (List.mem_of_getElem? (i := 124) (by decide +kernel)), rfl⟩
abbrev kb_hasRootSum : ByteArray := prog_1_method_27_code
def yb_hasRootSum : MethodName := ⟨"LeafBook", "hasRootSum", "(I)Z"⟩
theorem mcb_hasRootSum : Cond.code yb_hasRootSum kb_hasRootSum 3 (some .boolean) ∈ lw_g := List.mem_filter.mpr ⟨List.mem_append_right _ (List.mem_of_getElem? (i := 103) (by decide +kernel)), rfl⟩
abbrev kb_isBlankRoot : ByteArray := prog_1_method_28_code
def yb_isBlankRoot : MethodName := ⟨"LeafBook", "isBlankRoot", "(I)Z"⟩
theorem mcb_isBlankRoot : Cond.code yb_isBlankRoot kb_isBlankRoot 4 (some .boolean) ∈ lw_g := List.mem_filter.mpr ⟨List.mem_append_right _ (List.mem_of_getElem? (i := 160) (by decide +kernel)), rfl⟩
abbrev kb_isSound : ByteArray := prog_1_method_29_code
def yb_isSound : MethodName := ⟨"LeafBook", "isSound", "(I)Z"⟩
theorem mcb_isSound : Cond.code yb_isSound kb_isSound 8 (some .boolean) ∈ lw_g := List.mem_filter.mpr ⟨List.mem_append_right _ (List.mem_of_getElem? (i := 107) (by decide +kernel)), rfl⟩
abbrev kb_isRightRoot : ByteArray := prog_1_method_30_code
def yb_isRightRoot : MethodName := ⟨"LeafBook", "isRightRoot", "(I)Z"⟩
theorem mcb_isRightRoot : Cond.code yb_isRightRoot kb_isRightRoot 2 (some .boolean) ∈ lw_g := List.mem_filter.mpr ⟨List.mem_append_right _ (List.mem_of_getElem? (i := 99) (by decide +kernel)), rfl⟩
abbrev kb_hasRightLeaves : ByteArray := prog_1_method_31_code
def yb_hasRightLeaves : MethodName := ⟨"LeafBook", "hasRightLeaves", "(I)Z"⟩
theorem mcb_hasRightLeaves : Cond.code yb_hasRightLeaves kb_hasRightLeaves 9 (some .boolean) ∈ lw_g := List.mem_filter.mpr ⟨List.mem_append_right _ (List.mem_of_getElem? (i := 112) (by decide +kernel)), rfl⟩
abbrev kb_isKept : ByteArray := prog_1_method_32_code
def yb_isKept : MethodName := ⟨"LeafBook", "isKept", "(I)Z"⟩
theorem mcb_isKept : Cond.code yb_isKept kb_isKept 3 (some .boolean) ∈ lw_g := List.mem_filter.mpr ⟨List.mem_append_right _ (List.mem_of_getElem? (i := 252) (by decide +kernel)), rfl⟩
abbrev kb_heldPages : ByteArray := prog_1_method_33_code
def yb_heldPages : MethodName := ⟨"LeafBook", "heldPages", "()J"⟩
theorem mcb_heldPages : Cond.code yb_heldPages kb_heldPages 4 (some .long) ∈ lw_g := List.mem_filter.mpr ⟨List.mem_append_right _ (List.mem_of_getElem? (i := 149) (by decide +kernel)), rfl⟩
abbrev kb_pagesOf : ByteArray := prog_1_method_34_code
def yb_pagesOf : MethodName := ⟨"LeafBook", "pagesOf", "(I)J"⟩
theorem mcb_pagesOf : Cond.code yb_pagesOf kb_pagesOf 6 (some .long) ∈ lw_g := List.mem_filter.mpr ⟨List.mem_append_right _ (List.mem_of_getElem? (i := 153) (by decide +kernel)), rfl⟩
abbrev kb_isIn : ByteArray := prog_1_method_35_code
def yb_isIn : MethodName := ⟨"LeafBook", "isIn", "(JI)Z"⟩
theorem mcb_isIn : Cond.code yb_isIn kb_isIn 3 (some .boolean) ∈ lw_g := List.mem_filter.mpr ⟨List.mem_append_right _ (List.mem_of_getElem? (i := 156) (by decide +kernel)), rfl⟩
abbrev kb_greatestWhole : ByteArray := prog_1_method_36_code
def yb_greatestWhole : MethodName := ⟨"LeafBook", "greatestWhole", "()I"⟩
theorem mcb_greatestWhole : Cond.code yb_greatestWhole kb_greatestWhole 7 (some .int) ∈ lw_g := List.mem_filter.mpr ⟨List.mem_append_right _ (List.mem_of_getElem? (i := 87) (by decide +kernel)), rfl⟩
abbrev kb_rootOf : ByteArray := prog_1_method_37_code
def yb_rootOf : MethodName := ⟨"LeafBook", "rootOf", "(I)I"⟩
theorem mcb_rootOf : Cond.code yb_rootOf kb_rootOf 1 (some .int) ∈ lw_g := List.mem_filter.mpr ⟨List.mem_append_right _ (List.mem_of_getElem? (i := 92) (by decide +kernel)), rfl⟩
abbrev kb_leavesOf : ByteArray := prog_1_method_38_code
def yb_leavesOf : MethodName := ⟨"LeafBook", "leavesOf", "(I)I"⟩
theorem mcb_leavesOf : Cond.code yb_leavesOf kb_leavesOf 2 (some .int) ∈ lw_g := List.mem_filter.mpr ⟨List.mem_append_right _ (List.mem_of_getElem? (i := 116) (by decide +kernel)), rfl⟩
abbrev kb_pageOf : ByteArray := prog_1_method_39_code
def yb_pageOf : MethodName := ⟨"LeafBook", "pageOf", "(II)I"⟩
theorem mcb_pageOf : Cond.code yb_pageOf kb_pageOf 3 (some .int) ∈ lw_g := List.mem_filter.mpr ⟨List.mem_append_right _ (List.mem_of_getElem? (i := 120) (by decide +kernel)), rfl⟩
abbrev kb_entriesOfRoot : ByteArray := prog_1_method_40_code
def yb_entriesOfRoot : MethodName := ⟨"LeafBook", "entriesOfRoot", "(I)I"⟩
theorem mcb_entriesOfRoot : Cond.code yb_entriesOfRoot kb_entriesOfRoot 2 (some .int) ∈ lw_g := List.mem_filter.mpr ⟨List.mem_append_right _ (List.mem_of_getElem? (i := 327) (by decide +kernel)), rfl⟩
abbrev kb_entriesOf : ByteArray := prog_1_method_41_code
def yb_entriesOf : MethodName := ⟨"LeafBook", "entriesOf", "(I)I"⟩
theorem mcb_entriesOf : Cond.code yb_entriesOf kb_entriesOf 2 (some .int) ∈ lw_g := List.mem_filter.mpr ⟨List.mem_append_right _ (List.mem_of_getElem? (i := 130) (by decide +kernel)), rfl⟩
abbrev kb_entryAt : ByteArray := prog_1_method_42_code
def yb_entryAt : MethodName := ⟨"LeafBook", "entryAt", "(II)I"⟩
theorem mcb_entryAt : Cond.code yb_entryAt kb_entryAt 2 (some .int) ∈ lw_g := List.mem_filter.mpr ⟨List.mem_append_right _ (List.mem_of_getElem? (i := 137) (by decide +kernel)), rfl⟩
abbrev kb_firstKey : ByteArray := prog_1_method_43_code
def yb_firstKey : MethodName := ⟨"LeafBook", "firstKey", "(I)J"⟩
theorem mcb_firstKey : Cond.code yb_firstKey kb_firstKey 2 (some .long) ∈ lw_g := List.mem_filter.mpr ⟨List.mem_append_right _ (List.mem_of_getElem? (i := 134) (by decide +kernel)), rfl⟩
abbrev kb_lastKey : ByteArray := prog_1_method_44_code
def yb_lastKey : MethodName := ⟨"LeafBook", "lastKey", "(I)J"⟩
theorem mcb_lastKey : Cond.code yb_lastKey kb_lastKey 2 (some .long) ∈ lw_g := List.mem_filter.mpr ⟨List.mem_append_right _ (List.mem_of_getElem? (i := 141) (by decide +kernel)), rfl⟩
abbrev kb_leafFor : ByteArray := prog_1_method_45_code
def yb_leafFor : MethodName := ⟨"LeafBook", "leafFor", "(II)I"⟩
theorem mcb_leafFor : Cond.code yb_leafFor kb_leafFor 6 (some .int) ∈ lw_g := List.mem_filter.mpr ⟨List.mem_append_right _ (List.mem_of_getElem? (i := 278) (by decide +kernel)), rfl⟩
abbrev kb_entryWithKey : ByteArray := prog_1_method_46_code
def yb_entryWithKey : MethodName := ⟨"LeafBook", "entryWithKey", "(II)I"⟩
theorem mcb_entryWithKey : Cond.code yb_entryWithKey kb_entryWithKey 7 (some .int) ∈ lw_g := List.mem_filter.mpr ⟨List.mem_append_right _ (List.mem_of_getElem? (i := 377) (by decide +kernel)), rfl⟩
abbrev kb_entryByNumber : ByteArray := prog_1_method_47_code
def yb_entryByNumber : MethodName := ⟨"LeafBook", "entryByNumber", "(II)I"⟩
theorem mcb_entryByNumber : Cond.code yb_entryByNumber kb_entryByNumber 8 (some .int) ∈ lw_g := List.mem_filter.mpr ⟨List.mem_append_right _ (List.mem_of_getElem? (i := 403) (by decide +kernel)), rfl⟩
abbrev kb_haveSameEntries : ByteArray := prog_1_method_48_code
def yb_haveSameEntries : MethodName := ⟨"LeafBook", "haveSameEntries", "(II)Z"⟩
theorem mcb_haveSameEntries : Cond.code yb_haveSameEntries kb_haveSameEntries 7 (some .boolean) ∈ lw_g := List.mem_filter.mpr ⟨List.mem_append_right _ (List.mem_of_getElem? (i := 415) (by decide +kernel)), rfl⟩
abbrev kb_loadDraft : ByteArray := prog_1_method_49_code
def yb_loadDraft : MethodName := ⟨"LeafBook", "loadDraft", "(II)V"⟩
theorem mcb_loadDraft : Cond.code yb_loadDraft kb_loadDraft 6 (none) ∈ lw_g := List.mem_filter.mpr ⟨List.mem_append_right _ (List.mem_of_getElem? (i := 282) (by decide +kernel)), rfl⟩
abbrev kb_placeInDraft : ByteArray := prog_1_method_50_code
def yb_placeInDraft : MethodName := ⟨"LeafBook", "placeInDraft", "(I)I"⟩
theorem mcb_placeInDraft : Cond.code yb_placeInDraft kb_placeInDraft 3 (some .int) ∈ lw_g := List.mem_filter.mpr ⟨List.mem_append_right _ (List.mem_of_getElem? (i := 290) (by decide +kernel)), rfl⟩
abbrev kb_draftHasAt : ByteArray := prog_1_method_51_code
def yb_draftHasAt : MethodName := ⟨"LeafBook", "draftHasAt", "(II)Z"⟩
theorem mcb_draftHasAt : Cond.code yb_draftHasAt kb_draftHasAt 3 (some .boolean) ∈ lw_g := List.mem_filter.mpr ⟨List.mem_append_right _ (List.mem_of_getElem? (i := 294) (by decide +kernel)), rfl⟩
abbrev kb_putInDraft : ByteArray := prog_1_method_52_code
def yb_putInDraft : MethodName := ⟨"LeafBook", "putInDraft", "(IJ)V"⟩
theorem mcb_putInDraft : Cond.code yb_putInDraft kb_putInDraft 6 (none) ∈ lw_g := List.mem_filter.mpr ⟨List.mem_append_right _ (List.mem_of_getElem? (i := 286) (by decide +kernel)), rfl⟩
abbrev kb_dropFromDraft : ByteArray := prog_1_method_53_code
def yb_dropFromDraft : MethodName := ⟨"LeafBook", "dropFromDraft", "(I)Z"⟩
theorem mcb_dropFromDraft : Cond.code yb_dropFromDraft kb_dropFromDraft 4 (some .boolean) ∈ lw_g := List.mem_filter.mpr ⟨List.mem_append_right _ (List.mem_of_getElem? (i := 338) (by decide +kernel)), rfl⟩
abbrev kb_act : ByteArray := prog_1_method_54_code
def yb_act : MethodName := ⟨"LeafBook", "act", "(II)I"⟩
theorem mcb_act : Cond.code yb_act kb_act 9 (some .int) ∈ lw_g := List.mem_filter.mpr ⟨List.mem_append_right _ (List.mem_of_getElem? (i := 298) (by decide +kernel)), rfl⟩
abbrev kb_pageNotIn : ByteArray := prog_1_method_55_code
def yb_pageNotIn : MethodName := ⟨"LeafBook", "pageNotIn", "(JI)I"⟩
theorem mcb_pageNotIn : Cond.code yb_pageNotIn kb_pageNotIn 5 (some .int) ∈ lw_g := List.mem_filter.mpr ⟨List.mem_append_right _ (List.mem_of_getElem? (i := 303) (by decide +kernel)), rfl⟩
abbrev kb_writeLeaves : ByteArray := prog_1_method_56_code
def yb_writeLeaves : MethodName := ⟨"LeafBook", "writeLeaves", "()V"⟩
theorem mcb_writeLeaves : Cond.code yb_writeLeaves kb_writeLeaves 1 (none) ∈ lw_g := List.mem_filter.mpr ⟨List.mem_append_right _ (List.mem_of_getElem? (i := 315) (by decide +kernel)), rfl⟩
abbrev kb_writeLeaf : ByteArray := prog_1_method_57_code
def yb_writeLeaf : MethodName := ⟨"LeafBook", "writeLeaf", "(III)V"⟩
theorem mcb_writeLeaf : Cond.code yb_writeLeaf kb_writeLeaf 6 (none) ∈ lw_g := List.mem_filter.mpr ⟨List.mem_append_right _ (List.mem_of_getElem? (i := 319) (by decide +kernel)), rfl⟩
abbrev kb_writeRoot : ByteArray := prog_1_method_58_code
def yb_writeRoot : MethodName := ⟨"LeafBook", "writeRoot", "(II)V"⟩
theorem mcb_writeRoot : Cond.code yb_writeRoot kb_writeRoot 9 (none) ∈ lw_g := List.mem_filter.mpr ⟨List.mem_append_right _ (List.mem_of_getElem? (i := 323) (by decide +kernel)), rfl⟩
abbrev kb_clearRoot : ByteArray := prog_1_method_59_code
def yb_clearRoot : MethodName := ⟨"LeafBook", "clearRoot", "(I)V"⟩
theorem mcb_clearRoot : Cond.code yb_clearRoot kb_clearRoot 4 (none) ∈ lw_g := List.mem_filter.mpr ⟨List.mem_append_right _ (List.mem_of_getElem? (i := 33) (by decide +kernel)), rfl⟩
abbrev kb_makeRootZeroAnew : ByteArray := prog_1_method_60_code
def yb_makeRootZeroAnew : MethodName := ⟨"LeafBook", "makeRootZeroAnew", "()V"⟩
theorem mcb_makeRootZeroAnew : Cond.code yb_makeRootZeroAnew kb_makeRootZeroAnew 1 (none) ∈ lw_g := List.mem_filter.mpr ⟨List.mem_append_right _ (List.mem_of_getElem? (i := 29) (by decide +kernel)), rfl⟩
abbrev kb_writtenWords : ByteArray := prog_1_method_61_code
def yb_writtenWords : MethodName := ⟨"LeafBook", "writtenWords", "()I"⟩
theorem mcb_writtenWords : Cond.code yb_writtenWords kb_writtenWords 1 (some .int) ∈ lw_g := List.mem_filter.mpr ⟨List.mem_append_right _ (List.mem_of_getElem? (i := 445) (by decide +kernel)), rfl⟩
abbrev kb_saveWordsBefore : ByteArray := prog_1_method_62_code
def yb_saveWordsBefore : MethodName := ⟨"LeafBook", "saveWordsBefore", "()V"⟩
theorem mcb_saveWordsBefore : Cond.code yb_saveWordsBefore kb_saveWordsBefore 2 (none) ∈ lw_g := List.mem_filter.mpr ⟨List.mem_append_right _ (List.mem_of_getElem? (i := 308) (by decide +kernel)), rfl⟩
abbrev kb_restoreFrom : ByteArray := prog_1_method_63_code
def yb_restoreFrom : MethodName := ⟨"LeafBook", "restoreFrom", "(I)V"⟩
theorem mcb_restoreFrom : Cond.code yb_restoreFrom kb_restoreFrom 5 (none) ∈ lw_g := List.mem_filter.mpr ⟨List.mem_append_right _ (List.mem_of_getElem? (i := 441) (by decide +kernel)), rfl⟩
abbrev kj_floorMod : ByteArray := prog_9_method_50_code
def yj_floorMod : MethodName := ⟨"java/lang/Math", "floorMod", "(II)I"⟩
theorem mcj_floorMod : Cond.code yj_floorMod kj_floorMod 3 (some .int) ∈ lw_g := List.mem_filter.mpr ⟨List.mem_append_right _ (List.mem_of_getElem? (i := 95) (by decide +kernel)), rfl⟩
abbrev kj_max : ByteArray := prog_9_method_65_code
def yj_max : MethodName := ⟨"java/lang/Math", "max", "(II)I"⟩
theorem mcj_max : Cond.code yj_max kj_max 2 (some .int) ∈ lw_g := List.mem_filter.mpr ⟨List.mem_append_right _ (List.mem_of_getElem? (i := 25) (by decide +kernel)), rfl⟩
abbrev kj_min : ByteArray := prog_9_method_69_code
def yj_min : MethodName := ⟨"java/lang/Math", "min", "(II)I"⟩
theorem mcj_min : Cond.code yj_min kj_min 2 (some .int) ∈ lw_g := List.mem_filter.mpr ⟨List.mem_append_right _ (List.mem_of_getElem? (i := 22) (by decide +kernel)), rfl⟩
theorem dj_floorMod_0 : decode kj_floorMod 0 = .ok (.iload_n 0, 1) := by decide +kernel
theorem dj_floorMod_1 : decode kj_floorMod 1 = .ok (.iload_n 1, 1) := by decide +kernel
theorem dj_floorMod_2 : decode kj_floorMod 2 = .ok (.irem, 1) := by decide +kernel
theorem dj_floorMod_3 : decode kj_floorMod 3 = .ok (.istore_n 2, 1) := by decide +kernel
theorem dj_floorMod_4 : decode kj_floorMod 4 = .ok (.iload_n 0, 1) := by decide +kernel
theorem dj_floorMod_5 : decode kj_floorMod 5 = .ok (.iload_n 1, 1) := by decide +kernel
theorem dj_floorMod_6 : decode kj_floorMod 6 = .ok (.ixor, 1) := by decide +kernel
theorem dj_floorMod_7 : decode kj_floorMod 7 = .ok (.ifCond .ge 11, 3) := by decide +kernel
theorem dj_floorMod_10 : decode kj_floorMod 10 = .ok (.iload_n 2, 1) := by decide +kernel
theorem dj_floorMod_11 : decode kj_floorMod 11 = .ok (.ifCond .eq 7, 3) := by decide +kernel
theorem dj_floorMod_14 : decode kj_floorMod 14 = .ok (.iload_n 2, 1) := by decide +kernel
theorem dj_floorMod_15 : decode kj_floorMod 15 = .ok (.iload_n 1, 1) := by decide +kernel
theorem dj_floorMod_16 : decode kj_floorMod 16 = .ok (.iadd, 1) := by decide +kernel
theorem dj_floorMod_17 : decode kj_floorMod 17 = .ok (.ireturn, 1) := by decide +kernel
theorem dj_floorMod_18 : decode kj_floorMod 18 = .ok (.iload_n 2, 1) := by decide +kernel
theorem dj_floorMod_19 : decode kj_floorMod 19 = .ok (.ireturn, 1) := by decide +kernel
theorem dj_max_0 : decode kj_max 0 = .ok (.iload_n 0, 1) := by decide +kernel
theorem dj_max_1 : decode kj_max 1 = .ok (.iload_n 1, 1) := by decide +kernel
theorem dj_max_2 : decode kj_max 2 = .ok (.if_icmp .lt 7, 3) := by decide +kernel
theorem dj_max_5 : decode kj_max 5 = .ok (.iload_n 0, 1) := by decide +kernel
theorem dj_max_6 : decode kj_max 6 = .ok (.goto 4, 3) := by decide +kernel
theorem dj_max_9 : decode kj_max 9 = .ok (.iload_n 1, 1) := by decide +kernel
theorem dj_max_10 : decode kj_max 10 = .ok (.ireturn, 1) := by decide +kernel
theorem dj_min_0 : decode kj_min 0 = .ok (.iload_n 0, 1) := by decide +kernel
theorem dj_min_1 : decode kj_min 1 = .ok (.iload_n 1, 1) := by decide +kernel
theorem dj_min_2 : decode kj_min 2 = .ok (.if_icmp .gt 7, 3) := by decide +kernel
theorem dj_min_5 : decode kj_min 5 = .ok (.iload_n 0, 1) := by decide +kernel
theorem dj_min_6 : decode kj_min 6 = .ok (.goto 4, 3) := by decide +kernel
theorem dj_min_9 : decode kj_min 9 = .ok (.iload_n 1, 1) := by decide +kernel
theorem dj_min_10 : decode kj_min 10 = .ok (.ireturn, 1) := by decide +kernel
abbrev kj_bitCount : ByteArray := prog_8_method_50_code
def yj_bitCount : MethodName := ⟨"java/lang/Long", "bitCount", "(J)I"⟩
theorem mcj_bitCount : Cond.code yj_bitCount kj_bitCount 2 (some .int) ∈ lw_g := List.mem_filter.mpr ⟨List.mem_append_right _ (List.mem_of_getElem? (i := 425) (by decide +kernel)), rfl⟩
theorem dj_bitCount_0 : decode kj_bitCount 0 = .ok (.lload_n 0, 1) := by decide +kernel
theorem dj_bitCount_1 : decode kj_bitCount 1 = .ok (.lload_n 0, 1) := by decide +kernel
theorem dj_bitCount_2 : decode kj_bitCount 2 = .ok (.iconst 1, 1) := by decide +kernel
theorem dj_bitCount_3 : decode kj_bitCount 3 = .ok (.lushr, 1) := by decide +kernel
theorem dj_bitCount_4 : decode kj_bitCount 4 = .ok (.ldc2_w 314, 3) := by decide +kernel
theorem dj_bitCount_7 : decode kj_bitCount 7 = .ok (.land, 1) := by decide +kernel
theorem dj_bitCount_8 : decode kj_bitCount 8 = .ok (.lsub, 1) := by decide +kernel
theorem dj_bitCount_9 : decode kj_bitCount 9 = .ok (.lstore_n 0, 1) := by decide +kernel
theorem dj_bitCount_10 : decode kj_bitCount 10 = .ok (.lload_n 0, 1) := by decide +kernel
theorem dj_bitCount_11 : decode kj_bitCount 11 = .ok (.ldc2_w 316, 3) := by decide +kernel
theorem dj_bitCount_14 : decode kj_bitCount 14 = .ok (.land, 1) := by decide +kernel
theorem dj_bitCount_15 : decode kj_bitCount 15 = .ok (.lload_n 0, 1) := by decide +kernel
theorem dj_bitCount_16 : decode kj_bitCount 16 = .ok (.iconst 2, 1) := by decide +kernel
theorem dj_bitCount_17 : decode kj_bitCount 17 = .ok (.lushr, 1) := by decide +kernel
theorem dj_bitCount_18 : decode kj_bitCount 18 = .ok (.ldc2_w 316, 3) := by decide +kernel
theorem dj_bitCount_21 : decode kj_bitCount 21 = .ok (.land, 1) := by decide +kernel
theorem dj_bitCount_22 : decode kj_bitCount 22 = .ok (.ladd, 1) := by decide +kernel
theorem dj_bitCount_23 : decode kj_bitCount 23 = .ok (.lstore_n 0, 1) := by decide +kernel
theorem dj_bitCount_24 : decode kj_bitCount 24 = .ok (.lload_n 0, 1) := by decide +kernel
theorem dj_bitCount_25 : decode kj_bitCount 25 = .ok (.lload_n 0, 1) := by decide +kernel
theorem dj_bitCount_26 : decode kj_bitCount 26 = .ok (.iconst 4, 1) := by decide +kernel
theorem dj_bitCount_27 : decode kj_bitCount 27 = .ok (.lushr, 1) := by decide +kernel
theorem dj_bitCount_28 : decode kj_bitCount 28 = .ok (.ladd, 1) := by decide +kernel
theorem dj_bitCount_29 : decode kj_bitCount 29 = .ok (.ldc2_w 318, 3) := by decide +kernel
theorem dj_bitCount_32 : decode kj_bitCount 32 = .ok (.land, 1) := by decide +kernel
theorem dj_bitCount_33 : decode kj_bitCount 33 = .ok (.lstore_n 0, 1) := by decide +kernel
theorem dj_bitCount_34 : decode kj_bitCount 34 = .ok (.lload_n 0, 1) := by decide +kernel
theorem dj_bitCount_35 : decode kj_bitCount 35 = .ok (.lload_n 0, 1) := by decide +kernel
theorem dj_bitCount_36 : decode kj_bitCount 36 = .ok (.bipush 8, 2) := by decide +kernel
theorem dj_bitCount_38 : decode kj_bitCount 38 = .ok (.lushr, 1) := by decide +kernel
theorem dj_bitCount_39 : decode kj_bitCount 39 = .ok (.ladd, 1) := by decide +kernel
theorem dj_bitCount_40 : decode kj_bitCount 40 = .ok (.lstore_n 0, 1) := by decide +kernel
theorem dj_bitCount_41 : decode kj_bitCount 41 = .ok (.lload_n 0, 1) := by decide +kernel
theorem dj_bitCount_42 : decode kj_bitCount 42 = .ok (.lload_n 0, 1) := by decide +kernel
theorem dj_bitCount_43 : decode kj_bitCount 43 = .ok (.bipush 16, 2) := by decide +kernel
theorem dj_bitCount_45 : decode kj_bitCount 45 = .ok (.lushr, 1) := by decide +kernel
theorem dj_bitCount_46 : decode kj_bitCount 46 = .ok (.ladd, 1) := by decide +kernel
theorem dj_bitCount_47 : decode kj_bitCount 47 = .ok (.lstore_n 0, 1) := by decide +kernel
theorem dj_bitCount_48 : decode kj_bitCount 48 = .ok (.lload_n 0, 1) := by decide +kernel
theorem dj_bitCount_49 : decode kj_bitCount 49 = .ok (.lload_n 0, 1) := by decide +kernel
theorem dj_bitCount_50 : decode kj_bitCount 50 = .ok (.bipush 32, 2) := by decide +kernel
theorem dj_bitCount_52 : decode kj_bitCount 52 = .ok (.lushr, 1) := by decide +kernel
theorem dj_bitCount_53 : decode kj_bitCount 53 = .ok (.ladd, 1) := by decide +kernel
theorem dj_bitCount_54 : decode kj_bitCount 54 = .ok (.lstore_n 0, 1) := by decide +kernel
theorem dj_bitCount_55 : decode kj_bitCount 55 = .ok (.lload_n 0, 1) := by decide +kernel
theorem dj_bitCount_56 : decode kj_bitCount 56 = .ok (.l2i, 1) := by decide +kernel
theorem dj_bitCount_57 : decode kj_bitCount 57 = .ok (.bipush 127, 2) := by decide +kernel
theorem dj_bitCount_59 : decode kj_bitCount 59 = .ok (.iand, 1) := by decide +kernel
theorem dj_bitCount_60 : decode kj_bitCount 60 = .ok (.ireturn, 1) := by decide +kernel
theorem fl_pageCount : Cond.fieldLink RB 18 "LeafBook" "pageCount" "I" ∈ lw_g := List.mem_filter.mpr ⟨List.mem_append_right _ (List.mem_of_getElem? (i := 38) (by decide +kernel)), rfl⟩
theorem fl_pages : Cond.fieldLink RB 22 "LeafBook" "pages" "[J" ∈ lw_g := List.mem_filter.mpr ⟨List.mem_append_right _ (List.mem_of_getElem? (i := 39) (by decide +kernel)), rfl⟩
theorem fl_roots : Cond.fieldLink RB 26 "LeafBook" "roots" "[J" ∈ lw_g := List.mem_filter.mpr ⟨List.mem_append_right _ (List.mem_of_getElem? (i := 40) (by decide +kernel)), rfl⟩
theorem fl_newest : Cond.fieldLink RB 52 "LeafBook" "newest" "I" ∈ lw_g := List.mem_filter.mpr ⟨List.mem_append_right _ (List.mem_of_getElem? (i := 41) (by decide +kernel)), rfl⟩
theorem fl_closed : Cond.fieldLink RB 135 "LeafBook" "closed" "Z" ∈ lw_g := List.mem_filter.mpr ⟨List.mem_append_right _ (List.mem_of_getElem? (i := 42) (by decide +kernel)), rfl⟩
theorem fl_canBeCut : Cond.fieldLink RB 121 "LeafBook" "canBeCut" "Z" ∈ lw_g := List.mem_filter.mpr ⟨List.mem_append_right _ (List.mem_of_getElem? (i := 43) (by decide +kernel)), rfl⟩
theorem fl_takenPages : Cond.fieldLink RB 29 "LeafBook" "takenPages" "[I" ∈ lw_g := List.mem_filter.mpr ⟨List.mem_append_right _ (List.mem_of_getElem? (i := 44) (by decide +kernel)), rfl⟩
theorem fl_takenCount : Cond.fieldLink RB 250 "LeafBook" "takenCount" "I" ∈ lw_g := List.mem_filter.mpr ⟨List.mem_append_right _ (List.mem_of_getElem? (i := 45) (by decide +kernel)), rfl⟩
theorem fl_writtenRoot : Cond.fieldLink RB 253 "LeafBook" "writtenRoot" "I" ∈ lw_g := List.mem_filter.mpr ⟨List.mem_append_right _ (List.mem_of_getElem? (i := 46) (by decide +kernel)), rfl⟩
theorem fl_wordsBefore : Cond.fieldLink RB 33 "LeafBook" "wordsBefore" "[J" ∈ lw_g := List.mem_filter.mpr ⟨List.mem_append_right _ (List.mem_of_getElem? (i := 47) (by decide +kernel)), rfl⟩
theorem fl_draftKeys : Cond.fieldLink RB 36 "LeafBook" "draftKeys" "[J" ∈ lw_g := List.mem_filter.mpr ⟨List.mem_append_right _ (List.mem_of_getElem? (i := 48) (by decide +kernel)), rfl⟩
theorem fl_draftValues : Cond.fieldLink RB 39 "LeafBook" "draftValues" "[J" ∈ lw_g := List.mem_filter.mpr ⟨List.mem_append_right _ (List.mem_of_getElem? (i := 49) (by decide +kernel)), rfl⟩
theorem fl_draftCount : Cond.fieldLink RB 233 "LeafBook" "draftCount" "I" ∈ lw_g := List.mem_filter.mpr ⟨List.mem_append_right _ (List.mem_of_getElem? (i := 50) (by decide +kernel)), rfl⟩
end
