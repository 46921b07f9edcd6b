section
-- ===== PART A: goes FIRST, ahead of the names: the tables' words, and 'selects' of the private methods out of them =====
/-- a private method of a class that the tables say can be made, by its rows of tables_1 -/
def lw_okq (q : MethodName × Nat) : Prop := (q.1.cls ≠ "java/lang/invoke/MethodHandle" ∧ q.1.cls ≠ "java/lang/invoke/VarHandle") ∧ Cond.instantiable q.1.cls q.2 ∈ tables_1 ∧ Cond.privateMethod q.1 ∈ tables_1 ∧ Cond.instanceMethod q.1 ∈ tables_1
theorem lw_p0 : lw_okq (⟨"LeafBook", "makeRootZeroAnew", "()V"⟩, 13) := ⟨⟨by decide +kernel, by decide +kernel⟩, List.mem_of_getElem? (i := 13) (by decide +kernel), List.mem_of_getElem? (i := 27) (by decide +kernel), List.mem_of_getElem? (i := 28) (by decide +kernel)⟩
theorem lw_p1 : lw_okq (⟨"LeafBook", "clearRoot", "(I)V"⟩, 13) := ⟨⟨by decide +kernel, by decide +kernel⟩, List.mem_of_getElem? (i := 13) (by decide +kernel), List.mem_of_getElem? (i := 31) (by decide +kernel), List.mem_of_getElem? (i := 32) (by decide +kernel)⟩
theorem lw_p2 : lw_okq (⟨"LeafBook", "greatestWhole", "()I"⟩, 13) := ⟨⟨by decide +kernel, by decide +kernel⟩, List.mem_of_getElem? (i := 13) (by decide +kernel), List.mem_of_getElem? (i := 85) (by decide +kernel), List.mem_of_getElem? (i := 86) (by decide +kernel)⟩
theorem lw_p3 : lw_okq (⟨"LeafBook", "isRightRoot", "(I)Z"⟩, 13) := ⟨⟨by decide +kernel, by decide +kernel⟩, List.mem_of_getElem? (i := 13) (by decide +kernel), List.mem_of_getElem? (i := 97) (by decide +kernel), List.mem_of_getElem? (i := 98) (by decide +kernel)⟩
theorem lw_p4 : lw_okq (⟨"LeafBook", "hasRootSum", "(I)Z"⟩, 13) := ⟨⟨by decide +kernel, by decide +kernel⟩, List.mem_of_getElem? (i := 13) (by decide +kernel), List.mem_of_getElem? (i := 101) (by decide +kernel), List.mem_of_getElem? (i := 102) (by decide +kernel)⟩
theorem lw_p5 : lw_okq (⟨"LeafBook", "isSound", "(I)Z"⟩, 13) := ⟨⟨by decide +kernel, by decide +kernel⟩, List.mem_of_getElem? (i := 13) (by decide +kernel), List.mem_of_getElem? (i := 105) (by decide +kernel), List.mem_of_getElem? (i := 106) (by decide +kernel)⟩
theorem lw_p6 : lw_okq (⟨"LeafBook", "hasRightLeaves", "(I)Z"⟩, 13) := ⟨⟨by decide +kernel, by decide +kernel⟩, List.mem_of_getElem? (i := 13) (by decide +kernel), List.mem_of_getElem? (i := 110) (by decide +kernel), List.mem_of_getElem? (i := 111) (by decide +kernel)⟩
theorem lw_p7 : lw_okq (⟨"LeafBook", "leavesOf", "(I)I"⟩, 13) := ⟨⟨by decide +kernel, by decide +kernel⟩, List.mem_of_getElem? (i := 13) (by decide +kernel), List.mem_of_getElem? (i := 114) (by decide +kernel), List.mem_of_getElem? (i := 115) (by decide +kernel)⟩
theorem lw_p8 : lw_okq (⟨"LeafBook", "pageOf", "(II)I"⟩, 13) := ⟨⟨by decide +kernel, by decide +kernel⟩, List.mem_of_getElem? (i := 13) (by decide +kernel), List.mem_of_getElem? (i := 118) (by decide +kernel), List.mem_of_getElem? (i := 119) (by decide +kernel)⟩
theorem lw_p9 : lw_okq (⟨"LeafBook", "isRightPage", "(I)Z"⟩, 13) := ⟨⟨by decide +kernel, by decide +kernel⟩, List.mem_of_getElem? (i := 13) (by decide +kernel), List.mem_of_getElem? (i := 122) (by decide +kernel), List.mem_of_getElem? (i := 123) (by decide +kernel)⟩
theorem lw_p10 : lw_okq (⟨"LeafBook", "entriesOf", "(I)I"⟩, 13) := ⟨⟨by decide +kernel, by decide +kernel⟩, List.mem_of_getElem? (i := 13) (by decide +kernel), List.mem_of_getElem? (i := 128) (by decide +kernel), List.mem_of_getElem? (i := 129) (by decide +kernel)⟩
theorem lw_p11 : lw_okq (⟨"LeafBook", "firstKey", "(I)J"⟩, 13) := ⟨⟨by decide +kernel, by decide +kernel⟩, List.mem_of_getElem? (i := 13) (by decide +kernel), List.mem_of_getElem? (i := 132) (by decide +kernel), List.mem_of_getElem? (i := 133) (by decide +kernel)⟩
theorem lw_p12 : lw_okq (⟨"LeafBook", "lastKey", "(I)J"⟩, 13) := ⟨⟨by decide +kernel, by decide +kernel⟩, List.mem_of_getElem? (i := 13) (by decide +kernel), List.mem_of_getElem? (i := 139) (by decide +kernel), List.mem_of_getElem? (i := 140) (by decide +kernel)⟩
theorem lw_p13 : lw_okq (⟨"LeafBook", "heldPages", "()J"⟩, 13) := ⟨⟨by decide +kernel, by decide +kernel⟩, List.mem_of_getElem? (i := 13) (by decide +kernel), List.mem_of_getElem? (i := 147) (by decide +kernel), List.mem_of_getElem? (i := 148) (by decide +kernel)⟩
theorem lw_p14 : lw_okq (⟨"LeafBook", "pagesOf", "(I)J"⟩, 13) := ⟨⟨by decide +kernel, by decide +kernel⟩, List.mem_of_getElem? (i := 13) (by decide +kernel), List.mem_of_getElem? (i := 151) (by decide +kernel), List.mem_of_getElem? (i := 152) (by decide +kernel)⟩
theorem lw_p15 : lw_okq (⟨"LeafBook", "isBlankRoot", "(I)Z"⟩, 13) := ⟨⟨by decide +kernel, by decide +kernel⟩, List.mem_of_getElem? (i := 13) (by decide +kernel), List.mem_of_getElem? (i := 158) (by decide +kernel), List.mem_of_getElem? (i := 159) (by decide +kernel)⟩
def lw_privs_1 : List (MethodName × Nat) := [(⟨"LeafBook", "makeRootZeroAnew", "()V"⟩, 13), (⟨"LeafBook", "clearRoot", "(I)V"⟩, 13), (⟨"LeafBook", "greatestWhole", "()I"⟩, 13), (⟨"LeafBook", "isRightRoot", "(I)Z"⟩, 13), (⟨"LeafBook", "hasRootSum", "(I)Z"⟩, 13), (⟨"LeafBook", "isSound", "(I)Z"⟩, 13), (⟨"LeafBook", "hasRightLeaves", "(I)Z"⟩, 13), (⟨"LeafBook", "leavesOf", "(I)I"⟩, 13), (⟨"LeafBook", "pageOf", "(II)I"⟩, 13), (⟨"LeafBook", "isRightPage", "(I)Z"⟩, 13), (⟨"LeafBook", "entriesOf", "(I)I"⟩, 13), (⟨"LeafBook", "firstKey", "(I)J"⟩, 13), (⟨"LeafBook", "lastKey", "(I)J"⟩, 13), (⟨"LeafBook", "heldPages", "()J"⟩, 13), (⟨"LeafBook", "pagesOf", "(I)J"⟩, 13), (⟨"LeafBook", "isBlankRoot", "(I)Z"⟩, 13)]
theorem lw_r1 : ∀ q ∈ lw_privs_1, lw_okq q := List.forall_mem_cons.mpr ⟨lw_p0, List.forall_mem_cons.mpr ⟨lw_p1, List.forall_mem_cons.mpr ⟨lw_p2, List.forall_mem_cons.mpr ⟨lw_p3, List.forall_mem_cons.mpr ⟨lw_p4, List.forall_mem_cons.mpr ⟨lw_p5, List.forall_mem_cons.mpr ⟨lw_p6, List.forall_mem_cons.mpr ⟨lw_p7, List.forall_mem_cons.mpr ⟨lw_p8, List.forall_mem_cons.mpr ⟨lw_p9, List.forall_mem_cons.mpr ⟨lw_p10, List.forall_mem_cons.mpr ⟨lw_p11, List.forall_mem_cons.mpr ⟨lw_p12, List.forall_mem_cons.mpr ⟨lw_p13, List.forall_mem_cons.mpr ⟨lw_p14, List.forall_mem_cons.mpr ⟨lw_p15, fun _ h => absurd h List.not_mem_nil⟩⟩⟩⟩⟩⟩⟩⟩⟩⟩⟩⟩⟩⟩⟩⟩
theorem lw_p16 : lw_okq (⟨"LeafBook", "requireWritable", "()V"⟩, 13) := ⟨⟨by decide +kernel, by decide +kernel⟩, List.mem_of_getElem? (i := 13) (by decide +kernel), List.mem_of_getElem? (i := 174) (by decide +kernel), List.mem_of_getElem? (i := 175) (by decide +kernel)⟩
theorem lw_p17 : lw_okq (⟨"LeafBook", "requireOpen", "()V"⟩, 13) := ⟨⟨by decide +kernel, by decide +kernel⟩, List.mem_of_getElem? (i := 13) (by decide +kernel), List.mem_of_getElem? (i := 178) (by decide +kernel), List.mem_of_getElem? (i := 179) (by decide +kernel)⟩
theorem lw_p18 : lw_okq (⟨"java/lang/Throwable", "fillInStackTrace", "(I)Ljava/lang/Throwable;"⟩, 6) := ⟨⟨by decide +kernel, by decide +kernel⟩, List.mem_of_getElem? (i := 220) (by decide +kernel), List.mem_of_getElem? (i := 218) (by decide +kernel), List.mem_of_getElem? (i := 219) (by decide +kernel)⟩
theorem lw_p19 : lw_okq (⟨"LeafBook", "isKept", "(I)Z"⟩, 13) := ⟨⟨by decide +kernel, by decide +kernel⟩, List.mem_of_getElem? (i := 13) (by decide +kernel), List.mem_of_getElem? (i := 250) (by decide +kernel), List.mem_of_getElem? (i := 251) (by decide +kernel)⟩
theorem lw_p20 : lw_okq (⟨"LeafBook", "requireKey", "(I)V"⟩, 13) := ⟨⟨by decide +kernel, by decide +kernel⟩, List.mem_of_getElem? (i := 13) (by decide +kernel), List.mem_of_getElem? (i := 255) (by decide +kernel), List.mem_of_getElem? (i := 256) (by decide +kernel)⟩
theorem lw_p21 : lw_okq (⟨"LeafBook", "leafFor", "(II)I"⟩, 13) := ⟨⟨by decide +kernel, by decide +kernel⟩, List.mem_of_getElem? (i := 13) (by decide +kernel), List.mem_of_getElem? (i := 276) (by decide +kernel), List.mem_of_getElem? (i := 277) (by decide +kernel)⟩
theorem lw_p22 : lw_okq (⟨"LeafBook", "loadDraft", "(II)V"⟩, 13) := ⟨⟨by decide +kernel, by decide +kernel⟩, List.mem_of_getElem? (i := 13) (by decide +kernel), List.mem_of_getElem? (i := 280) (by decide +kernel), List.mem_of_getElem? (i := 281) (by decide +kernel)⟩
theorem lw_p23 : lw_okq (⟨"LeafBook", "putInDraft", "(IJ)V"⟩, 13) := ⟨⟨by decide +kernel, by decide +kernel⟩, List.mem_of_getElem? (i := 13) (by decide +kernel), List.mem_of_getElem? (i := 284) (by decide +kernel), List.mem_of_getElem? (i := 285) (by decide +kernel)⟩
theorem lw_p24 : lw_okq (⟨"LeafBook", "placeInDraft", "(I)I"⟩, 13) := ⟨⟨by decide +kernel, by decide +kernel⟩, List.mem_of_getElem? (i := 13) (by decide +kernel), List.mem_of_getElem? (i := 288) (by decide +kernel), List.mem_of_getElem? (i := 289) (by decide +kernel)⟩
theorem lw_p25 : lw_okq (⟨"LeafBook", "draftHasAt", "(II)Z"⟩, 13) := ⟨⟨by decide +kernel, by decide +kernel⟩, List.mem_of_getElem? (i := 13) (by decide +kernel), List.mem_of_getElem? (i := 292) (by decide +kernel), List.mem_of_getElem? (i := 293) (by decide +kernel)⟩
theorem lw_p26 : lw_okq (⟨"LeafBook", "act", "(II)I"⟩, 13) := ⟨⟨by decide +kernel, by decide +kernel⟩, List.mem_of_getElem? (i := 13) (by decide +kernel), List.mem_of_getElem? (i := 296) (by decide +kernel), List.mem_of_getElem? (i := 297) (by decide +kernel)⟩
theorem lw_p27 : lw_okq (⟨"LeafBook", "pageNotIn", "(JI)I"⟩, 13) := ⟨⟨by decide +kernel, by decide +kernel⟩, List.mem_of_getElem? (i := 13) (by decide +kernel), List.mem_of_getElem? (i := 301) (by decide +kernel), List.mem_of_getElem? (i := 302) (by decide +kernel)⟩
theorem lw_p28 : lw_okq (⟨"LeafBook", "saveWordsBefore", "()V"⟩, 13) := ⟨⟨by decide +kernel, by decide +kernel⟩, List.mem_of_getElem? (i := 13) (by decide +kernel), List.mem_of_getElem? (i := 306) (by decide +kernel), List.mem_of_getElem? (i := 307) (by decide +kernel)⟩
theorem lw_p29 : lw_okq (⟨"LeafBook", "writeLeaves", "()V"⟩, 13) := ⟨⟨by decide +kernel, by decide +kernel⟩, List.mem_of_getElem? (i := 13) (by decide +kernel), List.mem_of_getElem? (i := 313) (by decide +kernel), List.mem_of_getElem? (i := 314) (by decide +kernel)⟩
theorem lw_p30 : lw_okq (⟨"LeafBook", "writeLeaf", "(III)V"⟩, 13) := ⟨⟨by decide +kernel, by decide +kernel⟩, List.mem_of_getElem? (i := 13) (by decide +kernel), List.mem_of_getElem? (i := 317) (by decide +kernel), List.mem_of_getElem? (i := 318) (by decide +kernel)⟩
theorem lw_p31 : lw_okq (⟨"LeafBook", "writeRoot", "(II)V"⟩, 13) := ⟨⟨by decide +kernel, by decide +kernel⟩, List.mem_of_getElem? (i := 13) (by decide +kernel), List.mem_of_getElem? (i := 321) (by decide +kernel), List.mem_of_getElem? (i := 322) (by decide +kernel)⟩
def lw_privs_2 : List (MethodName × Nat) := [(⟨"LeafBook", "requireWritable", "()V"⟩, 13), (⟨"LeafBook", "requireOpen", "()V"⟩, 13), (⟨"java/lang/Throwable", "fillInStackTrace", "(I)Ljava/lang/Throwable;"⟩, 6), (⟨"LeafBook", "isKept", "(I)Z"⟩, 13), (⟨"LeafBook", "requireKey", "(I)V"⟩, 13), (⟨"LeafBook", "leafFor", "(II)I"⟩, 13), (⟨"LeafBook", "loadDraft", "(II)V"⟩, 13), (⟨"LeafBook", "putInDraft", "(IJ)V"⟩, 13), (⟨"LeafBook", "placeInDraft", "(I)I"⟩, 13), (⟨"LeafBook", "draftHasAt", "(II)Z"⟩, 13), (⟨"LeafBook", "act", "(II)I"⟩, 13), (⟨"LeafBook", "pageNotIn", "(JI)I"⟩, 13), (⟨"LeafBook", "saveWordsBefore", "()V"⟩, 13), (⟨"LeafBook", "writeLeaves", "()V"⟩, 13), (⟨"LeafBook", "writeLeaf", "(III)V"⟩, 13), (⟨"LeafBook", "writeRoot", "(II)V"⟩, 13)]
theorem lw_r2 : ∀ q ∈ lw_privs_2, lw_okq q := List.forall_mem_cons.mpr ⟨lw_p16, List.forall_mem_cons.mpr ⟨lw_p17, List.forall_mem_cons.mpr ⟨lw_p18, List.forall_mem_cons.mpr ⟨lw_p19, List.forall_mem_cons.mpr ⟨lw_p20, List.forall_mem_cons.mpr ⟨lw_p21, List.forall_mem_cons.mpr ⟨lw_p22, List.forall_mem_cons.mpr ⟨lw_p23, List.forall_mem_cons.mpr ⟨lw_p24, List.forall_mem_cons.mpr ⟨lw_p25, List.forall_mem_cons.mpr ⟨lw_p26, List.forall_mem_cons.mpr ⟨lw_p27, List.forall_mem_cons.mpr ⟨lw_p28, List.forall_mem_cons.mpr ⟨lw_p29, List.forall_mem_cons.mpr ⟨lw_p30, List.forall_mem_cons.mpr ⟨lw_p31, fun _ h => absurd h List.not_mem_nil⟩⟩⟩⟩⟩⟩⟩⟩⟩⟩⟩⟩⟩⟩⟩⟩
theorem lw_p32 : lw_okq (⟨"LeafBook", "entriesOfRoot", "(I)I"⟩, 13) := ⟨⟨by decide +kernel, by decide +kernel⟩, List.mem_of_getElem? (i := 13) (by decide +kernel), List.mem_of_getElem? (i := 325) (by decide +kernel), List.mem_of_getElem? (i := 326) (by decide +kernel)⟩
theorem lw_p33 : lw_okq (⟨"LeafBook", "dropFromDraft", "(I)Z"⟩, 13) := ⟨⟨by decide +kernel, by decide +kernel⟩, List.mem_of_getElem? (i := 13) (by decide +kernel), List.mem_of_getElem? (i := 336) (by decide +kernel), List.mem_of_getElem? (i := 337) (by decide +kernel)⟩
theorem lw_p34 : lw_okq (⟨"LeafBook", "requireKept", "(I)V"⟩, 13) := ⟨⟨by decide +kernel, by decide +kernel⟩, List.mem_of_getElem? (i := 13) (by decide +kernel), List.mem_of_getElem? (i := 355) (by decide +kernel), List.mem_of_getElem? (i := 356) (by decide +kernel)⟩
theorem lw_p35 : lw_okq (⟨"LeafBook", "entryWithKey", "(II)I"⟩, 13) := ⟨⟨by decide +kernel, by decide +kernel⟩, List.mem_of_getElem? (i := 13) (by decide +kernel), List.mem_of_getElem? (i := 375) (by decide +kernel), List.mem_of_getElem? (i := 376) (by decide +kernel)⟩
theorem lw_p36 : lw_okq (⟨"LeafBook", "entryByNumber", "(II)I"⟩, 13) := ⟨⟨by decide +kernel, by decide +kernel⟩, List.mem_of_getElem? (i := 13) (by decide +kernel), List.mem_of_getElem? (i := 401) (by decide +kernel), List.mem_of_getElem? (i := 402) (by decide +kernel)⟩
theorem lw_p37 : lw_okq (⟨"LeafBook", "haveSameEntries", "(II)Z"⟩, 13) := ⟨⟨by decide +kernel, by decide +kernel⟩, List.mem_of_getElem? (i := 13) (by decide +kernel), List.mem_of_getElem? (i := 413) (by decide +kernel), List.mem_of_getElem? (i := 414) (by decide +kernel)⟩
theorem lw_p38 : lw_okq (⟨"LeafBook", "restoreFrom", "(I)V"⟩, 13) := ⟨⟨by decide +kernel, by decide +kernel⟩, List.mem_of_getElem? (i := 13) (by decide +kernel), List.mem_of_getElem? (i := 439) (by decide +kernel), List.mem_of_getElem? (i := 440) (by decide +kernel)⟩
theorem lw_p39 : lw_okq (⟨"LeafBook", "writtenWords", "()I"⟩, 13) := ⟨⟨by decide +kernel, by decide +kernel⟩, List.mem_of_getElem? (i := 13) (by decide +kernel), List.mem_of_getElem? (i := 443) (by decide +kernel), List.mem_of_getElem? (i := 444) (by decide +kernel)⟩
theorem lw_p40 : lw_okq (⟨"LeafBook", "requirePageWord", "(II)V"⟩, 13) := ⟨⟨by decide +kernel, by decide +kernel⟩, List.mem_of_getElem? (i := 13) (by decide +kernel), List.mem_of_getElem? (i := 454) (by decide +kernel), List.mem_of_getElem? (i := 455) (by decide +kernel)⟩
theorem lw_p41 : lw_okq (⟨"LeafBook", "requireRootWord", "(II)V"⟩, 13) := ⟨⟨by decide +kernel, by decide +kernel⟩, List.mem_of_getElem? (i := 13) (by decide +kernel), List.mem_of_getElem? (i := 466) (by decide +kernel), List.mem_of_getElem? (i := 467) (by decide +kernel)⟩
theorem lw_p42 : lw_okq (⟨"LeafBook", "requireMask", "(J)V"⟩, 13) := ⟨⟨by decide +kernel, by decide +kernel⟩, List.mem_of_getElem? (i := 13) (by decide +kernel), List.mem_of_getElem? (i := 478) (by decide +kernel), List.mem_of_getElem? (i := 479) (by decide +kernel)⟩
theorem lw_p43 : lw_okq (⟨"LeafBookModel", "sum", "(II)J"⟩, 15) := ⟨⟨by decide +kernel, by decide +kernel⟩, List.mem_of_getElem? (i := 490) (by decide +kernel), List.mem_of_getElem? (i := 496) (by decide +kernel), List.mem_of_getElem? (i := 497) (by decide +kernel)⟩
theorem lw_p44 : lw_okq (⟨"LeafBookModel", "isKept", "(I)Z"⟩, 15) := ⟨⟨by decide +kernel, by decide +kernel⟩, List.mem_of_getElem? (i := 490) (by decide +kernel), List.mem_of_getElem? (i := 560) (by decide +kernel), List.mem_of_getElem? (i := 561) (by decide +kernel)⟩
theorem lw_p45 : lw_okq (⟨"LeafBookModel", "isRightRoot", "(I)Z"⟩, 15) := ⟨⟨by decide +kernel, by decide +kernel⟩, List.mem_of_getElem? (i := 490) (by decide +kernel), List.mem_of_getElem? (i := 564) (by decide +kernel), List.mem_of_getElem? (i := 565) (by decide +kernel)⟩
theorem lw_p46 : lw_okq (⟨"LeafBookModel", "isSound", "(I)Z"⟩, 15) := ⟨⟨by decide +kernel, by decide +kernel⟩, List.mem_of_getElem? (i := 490) (by decide +kernel), List.mem_of_getElem? (i := 568) (by decide +kernel), List.mem_of_getElem? (i := 569) (by decide +kernel)⟩
theorem lw_p47 : lw_okq (⟨"LeafBookModel", "isRight", "(I)Z"⟩, 15) := ⟨⟨by decide +kernel, by decide +kernel⟩, List.mem_of_getElem? (i := 490) (by decide +kernel), List.mem_of_getElem? (i := 577) (by decide +kernel), List.mem_of_getElem? (i := 578) (by decide +kernel)⟩
def lw_privs_3 : List (MethodName × Nat) := [(⟨"LeafBook", "entriesOfRoot", "(I)I"⟩, 13), (⟨"LeafBook", "dropFromDraft", "(I)Z"⟩, 13), (⟨"LeafBook", "requireKept", "(I)V"⟩, 13), (⟨"LeafBook", "entryWithKey", "(II)I"⟩, 13), (⟨"LeafBook", "entryByNumber", "(II)I"⟩, 13), (⟨"LeafBook", "haveSameEntries", "(II)Z"⟩, 13), (⟨"LeafBook", "restoreFrom", "(I)V"⟩, 13), (⟨"LeafBook", "writtenWords", "()I"⟩, 13), (⟨"LeafBook", "requirePageWord", "(II)V"⟩, 13), (⟨"LeafBook", "requireRootWord", "(II)V"⟩, 13), (⟨"LeafBook", "requireMask", "(J)V"⟩, 13), (⟨"LeafBookModel", "sum", "(II)J"⟩, 15), (⟨"LeafBookModel", "isKept", "(I)Z"⟩, 15), (⟨"LeafBookModel", "isRightRoot", "(I)Z"⟩, 15), (⟨"LeafBookModel", "isSound", "(I)Z"⟩, 15), (⟨"LeafBookModel", "isRight", "(I)Z"⟩, 15)]
theorem lw_r3 : ∀ q ∈ lw_privs_3, lw_okq q := List.forall_mem_cons.mpr ⟨lw_p32, List.forall_mem_cons.mpr ⟨lw_p33, List.forall_mem_cons.mpr ⟨lw_p34, List.forall_mem_cons.mpr ⟨lw_p35, List.forall_mem_cons.mpr ⟨lw_p36, List.forall_mem_cons.mpr ⟨lw_p37, List.forall_mem_cons.mpr ⟨lw_p38, List.forall_mem_cons.mpr ⟨lw_p39, List.forall_mem_cons.mpr ⟨lw_p40, List.forall_mem_cons.mpr ⟨lw_p41, List.forall_mem_cons.mpr ⟨lw_p42, List.forall_mem_cons.mpr ⟨lw_p43, List.forall_mem_cons.mpr ⟨lw_p44, List.forall_mem_cons.mpr ⟨lw_p45, List.forall_mem_cons.mpr ⟨lw_p46, List.forall_mem_cons.mpr ⟨lw_p47, fun _ h => absurd h List.not_mem_nil⟩⟩⟩⟩⟩⟩⟩⟩⟩⟩⟩⟩⟩⟩⟩⟩
theorem lw_p48 : lw_okq (⟨"LeafBookModel", "check", "(Z)I"⟩, 15) := ⟨⟨by decide +kernel, by decide +kernel⟩, List.mem_of_getElem? (i := 490) (by decide +kernel), List.mem_of_getElem? (i := 583) (by decide +kernel), List.mem_of_getElem? (i := 584) (by decide +kernel)⟩
theorem lw_p49 : lw_okq (⟨"LeafBookModel", "place", "(II)I"⟩, 15) := ⟨⟨by decide +kernel, by decide +kernel⟩, List.mem_of_getElem? (i := 490) (by decide +kernel), List.mem_of_getElem? (i := 587) (by decide +kernel), List.mem_of_getElem? (i := 588) (by decide +kernel)⟩
theorem lw_p50 : lw_okq (⟨"LeafBookModel", "entriesOf", "(I)I"⟩, 15) := ⟨⟨by decide +kernel, by decide +kernel⟩, List.mem_of_getElem? (i := 490) (by decide +kernel), List.mem_of_getElem? (i := 591) (by decide +kernel), List.mem_of_getElem? (i := 592) (by decide +kernel)⟩
theorem lw_p51 : lw_okq (⟨"LeafBookModel", "entry", "(II)I"⟩, 15) := ⟨⟨by decide +kernel, by decide +kernel⟩, List.mem_of_getElem? (i := 490) (by decide +kernel), List.mem_of_getElem? (i := 595) (by decide +kernel), List.mem_of_getElem? (i := 596) (by decide +kernel)⟩
theorem lw_p52 : lw_okq (⟨"LeafBookModel", "leafOf", "(II)I"⟩, 15) := ⟨⟨by decide +kernel, by decide +kernel⟩, List.mem_of_getElem? (i := 490) (by decide +kernel), List.mem_of_getElem? (i := 599) (by decide +kernel), List.mem_of_getElem? (i := 600) (by decide +kernel)⟩
theorem lw_p53 : lw_okq (⟨"LeafBookModel", "leavesOf", "(I)I"⟩, 15) := ⟨⟨by decide +kernel, by decide +kernel⟩, List.mem_of_getElem? (i := 490) (by decide +kernel), List.mem_of_getElem? (i := 611) (by decide +kernel), List.mem_of_getElem? (i := 612) (by decide +kernel)⟩
theorem lw_p54 : lw_okq (⟨"LeafBookModel", "isFree", "(I)Z"⟩, 15) := ⟨⟨by decide +kernel, by decide +kernel⟩, List.mem_of_getElem? (i := 490) (by decide +kernel), List.mem_of_getElem? (i := 627) (by decide +kernel), List.mem_of_getElem? (i := 628) (by decide +kernel)⟩
theorem lw_p55 : lw_okq (⟨"LeafBookModel", "may", "(I)I"⟩, 15) := ⟨⟨by decide +kernel, by decide +kernel⟩, List.mem_of_getElem? (i := 490) (by decide +kernel), List.mem_of_getElem? (i := 635) (by decide +kernel), List.mem_of_getElem? (i := 636) (by decide +kernel)⟩
theorem lw_p56 : lw_okq (⟨"LeafBookModel", "leafFor", "(I)I"⟩, 15) := ⟨⟨by decide +kernel, by decide +kernel⟩, List.mem_of_getElem? (i := 490) (by decide +kernel), List.mem_of_getElem? (i := 640) (by decide +kernel), List.mem_of_getElem? (i := 641) (by decide +kernel)⟩
theorem lw_p57 : lw_okq (⟨"LeafBookModel", "load", "(I)V"⟩, 15) := ⟨⟨by decide +kernel, by decide +kernel⟩, List.mem_of_getElem? (i := 490) (by decide +kernel), List.mem_of_getElem? (i := 644) (by decide +kernel), List.mem_of_getElem? (i := 645) (by decide +kernel)⟩
theorem lw_p58 : lw_okq (⟨"LeafBookModel", "enter", "(IJ)V"⟩, 15) := ⟨⟨by decide +kernel, by decide +kernel⟩, List.mem_of_getElem? (i := 490) (by decide +kernel), List.mem_of_getElem? (i := 648) (by decide +kernel), List.mem_of_getElem? (i := 649) (by decide +kernel)⟩
theorem lw_p59 : lw_okq (⟨"LeafBookModel", "act", "(II)Z"⟩, 15) := ⟨⟨by decide +kernel, by decide +kernel⟩, List.mem_of_getElem? (i := 490) (by decide +kernel), List.mem_of_getElem? (i := 652) (by decide +kernel), List.mem_of_getElem? (i := 653) (by decide +kernel)⟩
theorem lw_p60 : lw_okq (⟨"LeafBookModel", "nextFree", "()I"⟩, 15) := ⟨⟨by decide +kernel, by decide +kernel⟩, List.mem_of_getElem? (i := 490) (by decide +kernel), List.mem_of_getElem? (i := 656) (by decide +kernel), List.mem_of_getElem? (i := 657) (by decide +kernel)⟩
theorem lw_p61 : lw_okq (⟨"LeafBookModel", "writeLeaf", "(III)V"⟩, 15) := ⟨⟨by decide +kernel, by decide +kernel⟩, List.mem_of_getElem? (i := 490) (by decide +kernel), List.mem_of_getElem? (i := 660) (by decide +kernel), List.mem_of_getElem? (i := 661) (by decide +kernel)⟩
theorem lw_p62 : lw_okq (⟨"LeafBookModel", "write", "(IJ)V"⟩, 15) := ⟨⟨by decide +kernel, by decide +kernel⟩, List.mem_of_getElem? (i := 490) (by decide +kernel), List.mem_of_getElem? (i := 664) (by decide +kernel), List.mem_of_getElem? (i := 665) (by decide +kernel)⟩
theorem lw_p63 : lw_okq (⟨"LeafBookModel", "writeRoot", "(IJ)V"⟩, 15) := ⟨⟨by decide +kernel, by decide +kernel⟩, List.mem_of_getElem? (i := 490) (by decide +kernel), List.mem_of_getElem? (i := 668) (by decide +kernel), List.mem_of_getElem? (i := 669) (by decide +kernel)⟩
def lw_privs_4 : List (MethodName × Nat) := [(⟨"LeafBookModel", "check", "(Z)I"⟩, 15), (⟨"LeafBookModel", "place", "(II)I"⟩, 15), (⟨"LeafBookModel", "entriesOf", "(I)I"⟩, 15), (⟨"LeafBookModel", "entry", "(II)I"⟩, 15), (⟨"LeafBookModel", "leafOf", "(II)I"⟩, 15), (⟨"LeafBookModel", "leavesOf", "(I)I"⟩, 15), (⟨"LeafBookModel", "isFree", "(I)Z"⟩, 15), (⟨"LeafBookModel", "may", "(I)I"⟩, 15), (⟨"LeafBookModel", "leafFor", "(I)I"⟩, 15), (⟨"LeafBookModel", "load", "(I)V"⟩, 15), (⟨"LeafBookModel", "enter", "(IJ)V"⟩, 15), (⟨"LeafBookModel", "act", "(II)Z"⟩, 15), (⟨"LeafBookModel", "nextFree", "()I"⟩, 15), (⟨"LeafBookModel", "writeLeaf", "(III)V"⟩, 15), (⟨"LeafBookModel", "write", "(IJ)V"⟩, 15), (⟨"LeafBookModel", "writeRoot", "(IJ)V"⟩, 15)]
theorem lw_r4 : ∀ q ∈ lw_privs_4, lw_okq q := List.forall_mem_cons.mpr ⟨lw_p48, List.forall_mem_cons.mpr ⟨lw_p49, List.forall_mem_cons.mpr ⟨lw_p50, List.forall_mem_cons.mpr ⟨lw_p51, List.forall_mem_cons.mpr ⟨lw_p52, List.forall_mem_cons.mpr ⟨lw_p53, List.forall_mem_cons.mpr ⟨lw_p54, List.forall_mem_cons.mpr ⟨lw_p55, List.forall_mem_cons.mpr ⟨lw_p56, List.forall_mem_cons.mpr ⟨lw_p57, List.forall_mem_cons.mpr ⟨lw_p58, List.forall_mem_cons.mpr ⟨lw_p59, List.forall_mem_cons.mpr ⟨lw_p60, List.forall_mem_cons.mpr ⟨lw_p61, List.forall_mem_cons.mpr ⟨lw_p62, List.forall_mem_cons.mpr ⟨lw_p63, fun _ h => absurd h List.not_mem_nil⟩⟩⟩⟩⟩⟩⟩⟩⟩⟩⟩⟩⟩⟩⟩⟩
theorem lw_p64 : lw_okq (⟨"LeafBookModel", "remove", "(I)V"⟩, 15) := ⟨⟨by decide +kernel, by decide +kernel⟩, List.mem_of_getElem? (i := 490) (by decide +kernel), List.mem_of_getElem? (i := 676) (by decide +kernel), List.mem_of_getElem? (i := 677) (by decide +kernel)⟩
theorem lw_p65 : lw_okq (⟨"LeafBookModel", "noWord", "(II)Z"⟩, 15) := ⟨⟨by decide +kernel, by decide +kernel⟩, List.mem_of_getElem? (i := 490) (by decide +kernel), List.mem_of_getElem? (i := 694) (by decide +kernel), List.mem_of_getElem? (i := 695) (by decide +kernel)⟩
def lw_privs_5 : List (MethodName × Nat) := [(⟨"LeafBookModel", "remove", "(I)V"⟩, 15), (⟨"LeafBookModel", "noWord", "(II)Z"⟩, 15)]
theorem lw_r5 : ∀ q ∈ lw_privs_5, lw_okq q := List.forall_mem_cons.mpr ⟨lw_p64, List.forall_mem_cons.mpr ⟨lw_p65, fun _ h => absurd h List.not_mem_nil⟩⟩
def lw_privs : List (MethodName × Nat) := lw_privs_1 ++ (lw_privs_2 ++ (lw_privs_3 ++ (lw_privs_4 ++ (lw_privs_5))))
def lw_tbl : List Cond := k2_sels lw_privs ++ tables_1
theorem lw_privs_ok : ∀ q ∈ lw_privs, lw_okq q := by
  show ∀ q ∈ lw_privs_1 ++ (lw_privs_2 ++ (lw_privs_3 ++ (lw_privs_4 ++ (lw_privs_5)))), lw_okq q
  exact List.forall_mem_append.mpr ⟨lw_r1, List.forall_mem_append.mpr ⟨lw_r2, List.forall_mem_append.mpr ⟨lw_r3, List.forall_mem_append.mpr ⟨lw_r4, lw_r5⟩⟩⟩⟩
end
section
/-! CONTRACTS OF METHODS THAT RETURN OR THROW: my own layer over the kit's 'MetFree' and 'W' (the kit's 'Met' is of returning methods alone). -/
/-- the frame of an end, either way -/
def xx_E (st t : State) (L : List Loc) (k n : Nat) : Prop := st.WarmedH t.vm ∧ st.sameButNew ({ t with vm := st.vm } : State) L k n
/-- a contract: the method ends (it returns, or it throws) and 'Qc args start outcome end' -/
def MetX (l : Launch) (y : MethodName) (ws : List Cond) (rm : Room) (Pc : Array Value → State → Prop) (Qc : Array Value → State → Outcome → State → Prop) (mc ms : Nat) (free : Addr → Prop) : Prop :=
  MetFree l y (headSpec ws rm) Pc (fun _ _ _ _ _ => True) (fun a st o t => Qc a st o t ∧ ∃ L, xx_E st t L mc ms ∧ ∀ q ∈ L, free q.base)
/-- where the caller stands behind the call -/
def xx_to (U : State) (g : JFrame) (len : Nat) : Outcome → State
  | .returned v => U.setTop { g with pc := g.pc + len, stack := v.toList ++ g.stack }
  | .threw x => (U.setTop g).pushFrame (.throwing x)
/-- the end that a walk under a MetX comes to -/
def MQX (below : List Frame) (Qc : Array Value → State → Outcome → State → Prop) (a : Array Value) (s : State) (mc ms : Nat) (free : Addr → Prop) : State → Prop := fun t =>
  ∃ o, t.status = .running ∧ Ended t below o ∧ Qc a s o t ∧ ∃ L, xx_E s t L mc ms ∧ ∀ q ∈ L, free q.base
theorem MetX.ofMet {l : Launch} {y : MethodName} {ws : List Cond} {rm : Room} {Pc : Array Value → State → Prop} {Qc : Array Value → State → Outcome → State → Prop} {mc ms : Nat} {free : Addr → Prop} (h : Met l y ws rm Pc Qc mc ms free) : MetX l y ws rm Pc Qc mc ms free := by
  intro p e h1 h2 h3 s m args below h4 h5 h6 h7
  obtain ⟨n, o, a1, a2, a3, a4, L, a5, a6⟩ := h p e h1 h2 h3 s m args below h4 h5 h6 h7
  exact ⟨n, o, a1, a2, a3, a4, L, ⟨a5.2.1, a5.2.2⟩, a6⟩
section XB
variable {l : Launch} {R : Room} {p : Program} {e : Env} {below : List Frame} {s : State} {sargs : Array Value} {y : MethodName}
theorem xx_back {ws : List Cond} {rm : Room} {Pc : Array Value → State → Prop} {Qc : Array Value → State → Outcome → State → Prop} {mc ms : Nat} {free : Addr → Prop} {maxL : Nat}
    (hM : MetX l y ws rm Pc Qc mc ms free) (hblind : FrameBlind Pc) (hrc : rm.cells = mc) (hrs : rm.slots = ms)
    (hframes : rm.frames + 1 ≤ R.frames) (hlocals : 8 + (maxL + 11) + rm.locals ≤ R.locals)
    (hws : ∀ w ∈ ws, ∀ (a' : Array Value) (U : State), s.WarmedH U.vm → w.before a' U = true)
    (hcd : ∀ U : State, s.WarmedH U.vm → ∀ mk, U.methodNamed? y = some mk → ∃ meth c, U.vm.method? mk = some meth ∧ meth.code = some c ∧ c.maxLocals = maxL)
    (hinit : ∀ (a' : Array Value) (U : State), s.WarmedH U.vm → (Cond.initialized y.cls).before a' U = true)
    {m : MethodId} {meth : Method} {c : Code} {U : State} {locs : List Loc} {cells slots : Nat} (X : Stand p l e R s m sargs below meth c U locs cells slots)
    {g : JFrame} {ig : Instr} {len : Nat} {mk : MethodId} {a : Array Value} (hg : g.method = m) (hsize : g.locals.size = c.maxLocals) (hdg : decode c.code g.pc = .ok (ig, len))
    (hW : 2 * g.monitorRoom + (g.stack.map fun v => v.category).sum ≤ 8) (hn : U.methodNamed? y = some mk) (hc : cells + mc ≤ R.cells) (hs : slots + ms ≤ R.slots) (hp : Pc a U) :
    ∃ (o : Outcome) (t U' : State) (L : List Loc), U'.heap = t.heap ∧ U'.vm = t.vm ∧ Stand p l e R s m sargs below meth c U' (locs ++ L) (cells + mc) (slots + ms) ∧ (∀ q ∈ L, free q.base) ∧
      Qc a (U.calling g mk a) o t ∧ Steps p.tables e below (doInvoke e (U.setTop g) [] mk a).1 (xx_to U' g len o) := by
  obtain ⟨methY, cY, hmY, hcY, hlY⟩ := hcd U X.warmed mk hn
  obtain ⟨kY, hkY, -⟩ := className_of_methodNamed hn
  have hinitY : kY.init = .initialized := Cond.initialized_spec (findClass_of_methodNamed hn) hkY (hinit a U X.warmed)
  have h : At U g.method c below := by rw [hg]; exact X.here
  have h1 : (headSpec ws rm).pre.before a U = true := atoms_intro fun w hw => hws w hw _ _ X.warmed
  have happ : (headSpec ws rm).appliesLoose y e.platform (U.calling g mk a) = true :=
    Spec.appliesLoose_calling (g := g) h hdg hn hkY hinitY
      (X.room_calling (g := g) (R' := (headSpec ws rm).room) hsize hmY hcY hframes (by rw [hlY]; show _ + (maxL + 11) + rm.locals ≤ _; omega) (by show cells + rm.cells ≤ _; rw [hrc]; exact hc) (by show slots + rm.slots ≤ _; rw [hrs]; exact hs)) h1
  obtain ⟨mid, hmid⟩ := h.above
  have hfr : (U.setTop g).frames = (.java g :: mid) ++ below := by rw [State.frames_setTop' g h.top, hmid]; rfl
  obtain ⟨o, s₂, hsteps, -, hend, hq⟩ := Steps.callFree hM p X.admits X.cas X.clock (acts := []) hfr happ (hblind _ _ _ _ hp) trivial
  have hq' : Qc a (U.calling g mk a) o s₂ ∧ ∃ L, xx_E (U.calling g mk a) s₂ L mc ms ∧ ∀ q ∈ L, free q.base := hq
  obtain ⟨hq1, L, ⟨hW₂, e2, q2, q3, q4, q5, q6⟩, hL⟩ := hq'
  rw [State.frames_setTop' g h.top] at hend
  have e3 : s₂ = ({ (U.calling g mk a).setFrames s₂.frames with heap := s₂.heap, slotsUsed := s₂.slotsUsed } : State).setVm s₂.vm := by
    have : s₂ = ({ s₂ with vm := (U.calling g mk a).vm } : State).setVm s₂.vm := rfl
    rw [e2] at this
    exact this
  have hW' : U.WarmedH s₂.vm := hW₂
  obtain ⟨g₀, hg0⟩ := Option.isSome_iff_exists.mp h.top
  obtain ⟨r, hr⟩ := State.topJava?_eq_some.mp hg0
  have hr' : (({ U with heap := s₂.heap, slotsUsed := s₂.slotsUsed } : State).setVm s₂.vm).frames = .java g₀ :: r := hr
  have hs₂ : s₂ = xx_to (({ U with heap := s₂.heap, slotsUsed := s₂.slotsUsed } : State).setVm s₂.vm) g len o := by
    cases o with
    | returned v =>
      obtain ⟨c₂, i₂, len₂, hc₂, hd₂, hf₂⟩ := hend
      have hcc : c₂ = c := by
        have h1 : s₂.code? g.method = U.code? g.method := by
          rw [State.code?_eq, State.code?_eq, hW'.alike.method?]
        exact Option.some.inj (hc₂.symm.trans (h1.trans h.code))
      subst hcc
      have hlen : len₂ = len := by rw [hdg] at hd₂; cases hd₂; rfl
      subst hlen
      refine e3.trans ?_
      show _ = State.setTop _ _
      rw [hf₂, State.calling_eq h.top, State.setFrames_setFrames, State.setTop_of_frames _ hr', hr]
      rfl
    | threw v =>
      have hf₂ : s₂.frames = .throwing v :: .java g :: U.frames.tail := hend
      refine e3.trans ?_
      show _ = State.pushFrame (State.setTop _ _) _
      rw [hf₂, State.calling_eq h.top, State.setFrames_setFrames, State.pushFrame, State.frames_setTop _ hr', State.setTop_of_frames _ hr', State.setFrames_setFrames, hr]
      rfl
  have hsame : U.sameButNew ({ U with heap := s₂.heap, slotsUsed := s₂.slotsUsed } : State) L mc ms := by
    refine ⟨?_, q2, q3, q4, q5, q6⟩
    obtain ⟨t, ht, -⟩ := State.frames_cons hr
    show ({ U with heap := s₂.heap, slotsUsed := s₂.slotsUsed } : State) = { U.setFrames U.frames with heap := s₂.heap, slotsUsed := s₂.slotsUsed }
    rw [State.setFrames_self ht]
  subst hg
  refine ⟨o, s₂, (({ U with heap := s₂.heap, slotsUsed := s₂.slotsUsed } : State).setVm s₂.vm), L, rfl, rfl,
    ⟨X.admits, X.cas, X.clock, X.frames, X.room, X.hears, X.method, X.code, (X.here.setHeapUsed s₂.heap s₂.slotsUsed).setVm hW'.alike, X.tail, State.WarmedH.trans X.warmed hW', X.limits, X.bytes, X.same.trans (hsame.setVm s.vm)⟩, hL, hq1, ?_⟩
  rw [← hs₂]
  exact hsteps
end XB
section XR
variable {p : Program} {l : Launch} {e : Env} {R : Room} {s : State} {m : MethodId} {args : Array Value} {below : List Frame} {meth : Method} {c : Code} {H : Heap} {locs : List Loc} {cells slots : Nat} {Q : State → Prop}
/-- a call that ends, either way -/
def xx_Run (p : Program) (l : Launch) (e : Env) (R : Room) (s : State) (m : MethodId) (args : Array Value) (below : List Frame) (meth : Method) (c : Code) (H : Heap) (locs : List Loc) (cells slots mc ms : Nat) (g : JFrame) (rest : List Value) (Qa : State → Outcome → State → Prop) (free : Addr → Prop) : Prop :=
  ∀ T : State, T.heap = H → Stand p l e R s m args below meth c T locs cells slots → ∃ (o : Outcome) (st₀ t T' : State) (L : List Loc), st₀.heap = H ∧ Stand p l e R s m args below meth c T' (locs ++ L) (cells + mc) (slots + ms) ∧ (∀ q ∈ L, free q.base) ∧ T'.heap = t.heap ∧ T'.vm = t.vm ∧ Qa st₀ o t ∧
    ∀ tg, Steps p.tables e below (xx_to T' { g with stack := rest } 3 o) tg → Steps p.tables e below (T.setTop g) tg
variable {y : MethodName} {bytes cc : ByteArray} {maxL nL mc ms n index : Nat} {ret : Option FieldType} {ws : List Cond} {rm : Room} {Pc : Array Value → State → Prop} {Qc : Array Value → State → Outcome → State → Prop} {free : Addr → Prop} {Ts : List Cond} {own C : String} {b : Addr} {As rest : List Value} {g : JFrame}
theorem xx_code {bytes : ByteArray} {maxL : Nat} {ret : Option FieldType} (hws : ∀ w ∈ ws, ∀ (a' : Array Value) (U : State), s.WarmedH U.vm → w.before a' U = true) (hcw : Cond.code y bytes maxL ret ∈ ws) :
    ∀ U : State, s.WarmedH U.vm → ∀ mk, U.methodNamed? y = some mk → ∃ meth c, U.vm.method? mk = some meth ∧ meth.code = some c ∧ c.maxLocals = maxL := by
  intro U hU mk hn
  obtain ⟨meth, c, h1, h2, -, h4, -⟩ := Cond.code_spec hn (hws _ hcw #[] U hU)
  exact ⟨meth, c, h1, h2, h4⟩
theorem xx_codeW {bytes : ByteArray} {maxL : Nat} {ret : Option FieldType} {hs : List (Nat × Nat × Nat × Nat)} (hws : ∀ w ∈ ws, ∀ (a' : Array Value) (U : State), s.WarmedH U.vm → w.before a' U = true) (hcw : Cond.codeWith y bytes maxL ret hs ∈ ws) :
    ∀ U : State, s.WarmedH U.vm → ∀ mk, U.methodNamed? y = some mk → ∃ meth c, U.vm.method? mk = some meth ∧ meth.code = some c ∧ c.maxLocals = maxL := by
  intro U hU mk hn
  obtain ⟨mk', meth, c, h0, h1, h2, -, h4, -⟩ := Cond.codeWith_spec (hws _ hcw #[] U hU)
  cases hn.symm.trans h0
  exact ⟨meth, c, h1, h2, h4⟩
theorem xx_init (hini : (Cond.initialized y.cls).before args s = true) : ∀ (a' : Array Value) (U : State), s.WarmedH U.vm → (Cond.initialized y.cls).before a' U = true :=
  fun _ _ hW => word_at hW (Or.inl (by first | rfl | simp [Cond.onTables, Cond.keeps, Cond.steady])) hini
theorem xx_runV (S : CallFix p m c cc nL s args Ts own) (hM : MetX l y ws rm Pc Qc mc ms free) (cw : CallW R s args own C index y bytes maxL ret ws rm mc ms n) (hp : PreV s H C b Pc As)
    (hg : g.method = m) (hn : As.length = n) (hsize : g.locals.size = nL) (hstack : g.stack = As.reverse ++ .ref b :: rest) (hW : 2 * g.monitorRoom + (rest.map fun v => v.category).sum ≤ 8) (hdg : decode cc g.pc = .ok (.invokevirtual index, 3)) (hf : cells + mc ≤ R.cells ∧ slots + ms ≤ R.slots) :
    xx_Run p l e R s m args below meth c H locs cells slots mc ms g rest (Qc (Value.ref b :: As).toArray) free := by
  obtain ⟨⟨hrc, hrs, hfr, hlo, hws, hcw, hcode, hini, hy, hlen, hl⟩, hin, hse⟩ := cw
  obtain ⟨hx, hb, hml, ho, -⟩ := S
  obtain ⟨hbl, ⟨cellB, hcB, hoB, hclB⟩, hPc⟩ := hp
  intro T hT X
  obtain ⟨mk, methM, hnamed, hmethM, hstM, habM⟩ := Cond.instanceMethod_spec hin
  obtain ⟨methM', cM, hmethM', -, -, -, -, -, -, hsigM⟩ := Cond.code_spec hnamed hcode
  cases hmethM.symm.trans hmethM'
  obtain ⟨c2, r2, m2, q1, q2, q3, q4, kP, hkP, hkPi⟩ := Cond.selects_spec hse
  cases hclB.symm.trans q1
  cases (State.methodFound?_of_named hnamed hy).symm.trans q2
  cases hnamed.symm.trans q3
  have hselP : selectMethod e.platform s.vm cellB.cls mk = .method mk := by rw [Launch.admits_selectMethod X.admits]; exact q4
  obtain ⟨vm₁, X₁, hstep₁⟩ := X.invokevirtual hx ho hl hnamed hmethM hstM hkP hkPi hy (a := b) (cell := cellB) (by rw [hT]; exact hcB)
    (fun z h => by rw [h] at hoB; cases hoB) hselP hmethM habM hkP hkPi (g := g) hg (argsL := As) (rest := rest) (hn.trans (hlen _ hsigM)) hstack (by rw [hb]; exact hdg)
  obtain ⟨o, t, U', L, e1, e2, X', hL, hq, hst⟩ := xx_back (maxL := maxL) hM hbl hrc hrs hfr hlo hws (xx_code hws hcw) (xx_init hini) X₁ (g := { g with stack := rest }) (ig := .invokevirtual index) (len := 3) (mk := mk) (a := (Value.ref b :: As).toArray) hg (hsize.trans hml.symm) (by rw [hb]; exact hdg) hW (X₁.named hnamed) hf.1 hf.2 (hPc _ hT X₁.warmed)
  exact ⟨o, (T.setVm vm₁).calling { g with stack := rest } mk (Value.ref b :: As).toArray, t, U', L, hT, X', hL, e1, e2, hq, fun tg h => hstep₁ _ fun acts => by rw [doInvoke_state]; exact hst.trans h⟩
theorem xx_runS (S : CallFix p m c cc nL s args Ts own) (hM : MetX l y ws rm Pc Qc mc ms free) (cw : CallB R s args own index y bytes maxL ret ws rm mc ms n ∧ (Cond.static y).before args s = true) (hp : PreS s H Pc As)
    (hg : g.method = m) (hn : As.length = n) (hsize : g.locals.size = nL) (hstack : g.stack = As.reverse ++ rest) (hW : 2 * g.monitorRoom + (rest.map fun v => v.category).sum ≤ 8) (hdg : decode cc g.pc = .ok (.invokestatic index, 3)) (hf : cells + mc ≤ R.cells ∧ slots + ms ≤ R.slots) :
    xx_Run p l e R s m args below meth c H locs cells slots mc ms g rest (Qc As.toArray) free := by
  obtain ⟨⟨hrc, hrs, hfr, hlo, hws, hcw, hcode, hini, hy, hlen, hl⟩, hstt⟩ := cw
  obtain ⟨hx, hb, hml, ho, -⟩ := S
  intro T hT X
  obtain ⟨mk, hnamed⟩ := Cond.code_named hcode
  obtain ⟨methM, cM, hmethM, -, -, -, -, -, -, hsigM⟩ := Cond.code_spec hnamed hcode
  have hstatic : methM.isStatic = true := Cond.static_spec hnamed hmethM hstt
  obtain ⟨kP, hkP, -⟩ := className_of_methodNamed hnamed
  have hinitP : kP.init = .initialized := Cond.initialized_spec (findClass_of_methodNamed hnamed) hkP hini
  obtain ⟨vm₁, X₁, hstep₁⟩ := X.invokestatic hx ho hl hnamed hmethM hstatic hkP hinitP hy (g := g) hg (argsL := As) (rest := rest) (hn.trans (hlen _ hsigM)) hstack (by rw [hb]; exact hdg)
  obtain ⟨o, t, U', L, e1, e2, X', hL, hq, hst⟩ := xx_back (maxL := maxL) hM hp.1 hrc hrs hfr hlo hws (xx_code hws hcw) (xx_init hini) X₁ (g := { g with stack := rest }) (ig := .invokestatic index) (len := 3) (mk := mk) (a := As.toArray) hg (hsize.trans hml.symm) (by rw [hb]; exact hdg) hW (X₁.named hnamed) hf.1 hf.2 (hp.2 _ hT X₁.warmed)
  exact ⟨o, (T.setVm vm₁).calling { g with stack := rest } mk As.toArray, t, U', L, hT, X', hL, e1, e2, hq, fun tg h => hstep₁ _ fun acts => by rw [doInvoke_state]; exact hst.trans h⟩
/-- a static method with handlers (the law's wrappers) -/
theorem xx_runSW {hs : List (Nat × Nat × Nat × Nat)} (S : CallFix p m c cc nL s args Ts own) (hM : MetX l y ws rm Pc Qc mc ms free)
    (hrc : rm.cells = mc) (hrs : rm.slots = ms) (hR : rm.frames + 1 ≤ R.frames ∧ 8 + (maxL + 11) + rm.locals ≤ R.locals) (hws : ∀ w ∈ ws, ∀ (a' : Array Value) (U : State), s.WarmedH U.vm → w.before a' U = true) (hcw : Cond.codeWith y bytes maxL ret hs ∈ ws)
    (hini : (Cond.initialized y.cls).before args s = true) (hd : y.cls ≠ "java/lang/invoke/MethodHandle" ∧ y.cls ≠ "java/lang/invoke/VarHandle" ∧ (parseMethodDescriptor y.desc).map (fun d => d.parameters.length) = some n) (hl : (Cond.methodLink own index y).before args s = true) (hstt : (Cond.static y).before args s = true) (hp : PreS s H Pc As)
    (hg : g.method = m) (hn : As.length = n) (hsize : g.locals.size = nL) (hstack : g.stack = As.reverse ++ rest) (hW : 2 * g.monitorRoom + (rest.map fun v => v.category).sum ≤ 8) (hdg : decode cc g.pc = .ok (.invokestatic index, 3)) (hf : cells + mc ≤ R.cells ∧ slots + ms ≤ R.slots) :
    xx_Run p l e R s m args below meth c H locs cells slots mc ms g rest (Qc As.toArray) free := by
  obtain ⟨hx, hb, hml, ho, -⟩ := S
  intro T hT X
  obtain ⟨mk, methM, cM, hnamed, hmethM, -, -, -, -, -, -, hsigM⟩ := Cond.codeWith_spec (hws _ hcw args s (State.WarmedH.refl s))
  have hstatic : methM.isStatic = true := Cond.static_spec hnamed hmethM hstt
  obtain ⟨kP, hkP, -⟩ := className_of_methodNamed hnamed
  have hinitP : kP.init = .initialized := Cond.initialized_spec (findClass_of_methodNamed hnamed) hkP hini
  have hlen : n = methM.sig.parameters.length := by
    have h2 := hd.2.2
    rw [hsigM] at h2
    exact (Option.some.inj h2).symm
  obtain ⟨vm₁, X₁, hstep₁⟩ := X.invokestatic hx ho hl hnamed hmethM hstatic hkP hinitP ⟨hd.1, hd.2.1⟩ (g := g) hg (argsL := As) (rest := rest) (hn.trans hlen) hstack (by rw [hb]; exact hdg)
  obtain ⟨o, t, U', L, e1, e2, X', hL, hq, hst⟩ := xx_back (maxL := maxL) hM hp.1 hrc hrs hR.1 hR.2 hws (xx_codeW hws hcw) (xx_init hini) X₁ (g := { g with stack := rest }) (ig := .invokestatic index) (len := 3) (mk := mk) (a := As.toArray) hg (hsize.trans hml.symm) (by rw [hb]; exact hdg) hW (X₁.named hnamed) hf.1 hf.2 (hp.2 _ hT X₁.warmed)
  exact ⟨o, (T.setVm vm₁).calling { g with stack := rest } mk As.toArray, t, U', L, hT, X', hL, e1, e2, hq, fun tg h => hstep₁ _ fun acts => by rw [doInvoke_state]; exact hst.trans h⟩
theorem xx_runI (S : CallFix p m c cc nL s args Ts own) (hM : MetX l y ws rm Pc Qc mc ms free) (cw : CallB R s args own index y bytes maxL none ws rm mc ms n ∧ y.name = "<init>" ∧ (Cond.instanceMethod y).before args s = true) (hp : PreS s H Pc (.ref b :: As))
    (hg : g.method = m) (hn : As.length = n) (hsize : g.locals.size = nL) (hstack : g.stack = As.reverse ++ .ref b :: rest) (hW : 2 * g.monitorRoom + (rest.map fun v => v.category).sum ≤ 8) (hdg : decode cc g.pc = .ok (.invokespecial index, 3)) (hf : cells + mc ≤ R.cells ∧ slots + ms ≤ R.slots) :
    xx_Run p l e R s m args below meth c H locs cells slots mc ms g rest (Qc (Value.ref b :: As).toArray) free := by
  obtain ⟨⟨hrc, hrs, hfr, hlo, hws, hcw, hcode, hini, hy, hlen, hl⟩, hy1, hin⟩ := cw
  obtain ⟨hx, hb, hml, ho, -⟩ := S
  intro T hT X
  subst hg
  have hpl : e.platform.magicAccessors = ({} : Platform).magicAccessors := by rw [X.admits.platform]
  obtain ⟨mk, methM, cM, kP, vm₁, hnamed, hmethM, hcodeM, -, hlocalsM, -, hkP, -, hW₁, hstep₁⟩ := Steps.initColdArgs (e := e) X.here hx X.warmed hpl ho hy1 hy hl hin hcode (f := g) rfl (fun sig h => hn.trans (hlen sig h)) hstack (by rw [hb]; exact hdg)
  have X₁ := X.noted hW₁
  obtain ⟨o, t, U', L, e1, e2, X', hL, hq, hst⟩ := xx_back (maxL := maxL) hM hp.1 hrc hrs hfr hlo hws (xx_code hws hcw) (xx_init hini) X₁ (g := { g with stack := rest }) (ig := .invokespecial index) (len := 3) (mk := mk) (a := (Value.ref b :: As).toArray) rfl (hsize.trans hml.symm) (by rw [hb]; exact hdg) hW (X₁.named hnamed) hf.1 hf.2 (hp.2 _ hT X₁.warmed)
  exact ⟨o, (T.setVm vm₁).calling { g with stack := rest } mk (Value.ref b :: As).toArray, t, U', L, hT, X', hL, e1, e2, hq, fun tg h => hstep₁ _ fun acts => by rw [doInvoke_state]; exact hst.trans h⟩
/-- the machine with the exception x in flight at the frame g -/
def WT (p : Program) (l : Launch) (e : Env) (R : Room) (s : State) (m : MethodId) (args : Array Value) (below : List Frame) (meth : Method) (c : Code) (H : Heap) (locs : List Loc) (cells slots : Nat) (Q : State → Prop) (g : JFrame) (x : Addr) : Prop :=
  ∀ T : State, T.heap = H → Stand p l e R s m args below meth c T locs cells slots → ∃ t, Steps p.tables e below ((T.setTop g).pushFrame (.throwing x)) t ∧ Q t
/-- behind a call -/
theorem xx_call {Qa : State → Outcome → State → Prop} {pc : Nat} {ls : Array Slot} {st0 : List Value} (hr : xx_Run p l e R s m args below meth c H locs cells slots mc ms (F0 m pc ls st0) rest Qa free)
    (kr : ∀ (v : Option Value) (st₀ t : State) (L : List Loc), st₀.heap = H → s.WarmedH t.vm → (∀ q ∈ L, free q.base) → Qa st₀ (.returned v) t → W p l e R s m args below meth c t.heap (locs ++ L) (cells + mc) (slots + ms) Q (F0 m (pc + 3) ls (v.toList ++ rest)))
    (kt : ∀ (x : Addr) (st₀ t : State) (L : List Loc), st₀.heap = H → s.WarmedH t.vm → (∀ q ∈ L, free q.base) → Qa st₀ (.threw x) t → WT p l e R s m args below meth c t.heap (locs ++ L) (cells + mc) (slots + ms) Q (F0 m pc ls rest) x) :
    W p l e R s m args below meth c H locs cells slots Q (F0 m pc ls st0) := by
  intro T hT X
  obtain ⟨o, st₀, t, T', L, h0, X', hL, e1, e2, hq, st⟩ := hr T hT X
  cases o with
  | returned v =>
    obtain ⟨t2, a1, b1⟩ := kr v st₀ t L h0 (by rw [← e2]; exact X'.warmed) hL hq T' e1 X'
    exact ⟨t2, st t2 a1, b1⟩
  | threw x =>
    obtain ⟨t2, a1, b1⟩ := kt x st₀ t L h0 (by rw [← e2]; exact X'.warmed) hL hq T' e1 X'
    exact ⟨t2, st t2 a1, b1⟩
/-- the exception leaves the method: no handler covers it -/
theorem WT.out {pc : Nat} {ls : Array Slot} {st : List Value} {x : Addr} (hout : ∀ h ∈ c.exceptionTable.toList, covers h pc = false) (hlocks : meth.locks = false)
    (hq : ∀ t : State, t.heap = H → s.WarmedH t.vm → Qc args s (.threw x) t) (hf : ∀ q ∈ locs, free q.base) : WT p l e R s m args below meth c H locs cells slots (MQX below Qc args s cells slots free) (F0 m pc ls st) x := by
  intro T hT X
  obtain ⟨h1, h2, h3, h4, h5⟩ := X.leaveThrown x (g := F0 m pc ls st) rfl rfl rfl hout (hlocks := hlocks)
  exact ⟨_, h1, .threw x, h2, h3, hq _ hT h4, locs, ⟨h4, h5⟩, hf⟩
end XR
section XO
variable {p : Program} {l : Launch} {e : Env} {R : Room} {s : State} {m : MethodId} {args : Array Value} {below : List Frame} {meth : Method} {c : Code} {H : Heap} {locs : List Loc} {cells slots : Nat}
variable {y : MethodName} {cc : ByteArray} {maxL nL mc ms : Nat} {ret : Option FieldType} {ws : List Cond} {rm : Room} {Pc : Array Value → State → Prop} {Qc : Array Value → State → Outcome → State → Prop} {free : Addr → Prop}
theorem W.toX {g : JFrame} (h : W p l e R s m args below meth c H locs cells slots (MQ below Qc args s mc ms free) g) : W p l e R s m args below meth c H locs cells slots (MQX below Qc args s mc ms free) g := by
  intro T hT X
  obtain ⟨t, a1, o, b1, b2, b3, L, b4, b5⟩ := h T hT X
  exact ⟨t, a1, o, b1, b2, b3, L, ⟨b4.2.1, b4.2.2⟩, b5⟩
theorem MetX.ofW (hy : plainFor y = true) (hw : Cond.code y cc maxL ret ∈ ws)
    (body : ∀ p e s m args below meth c s₁, BodyLoose p l y (headSpec ws rm) cc maxL ret e s m args below meth c s₁ → c.maxLocals = maxL → Pc args s →
      W p l e rm s m args below meth c s.heap [] 0 0 (MQX below Qc args s mc ms free) (entryFrame m args maxL)) : MetX l y ws rm Pc Qc mc ms free := by
  refine MetFree.of_bodySF (code := cc) (maxLocals := maxL) (ret := ret) hy ?_ ?_
  · intro args s m h hn
    obtain ⟨meth, c, h1, h2, h3, h4, h5, h6, -, -⟩ := Cond.code_spec hn (atoms_spec (ws := ws) h _ hw)
    exact ⟨meth, c, h1, h2, h3, h4, h5, h6⟩
  · intro p e s m args below meth c s₁ B hml hP _
    have hh0 : s₁.heap = s.heap := by rw [B.state]; rfl
    obtain ⟨t, a1, o, b1, b2, b3⟩ := body p e s m args below meth c s₁ B hml hP s₁ hh0 (Stand.of_body B)
    exact ⟨t, o, a1, b1, b2, ⟨b3.1, b3.2⟩⟩
theorem MetX.ofWW {hs : List (Nat × Nat × Nat × Nat)} (hy : plainFor y = true) (hw : Cond.codeWith y cc maxL ret hs ∈ ws)
    (body : ∀ p e s m args below meth c s₁, BodyLoose p l y (headSpec ws rm) cc maxL ret e s m args below meth c s₁ → c.maxLocals = maxL → c.exceptionTable.toList.map (fun h => (h.startPc, h.endPc, h.handlerPc, h.catchType)) = hs → Pc args s →
      W p l e rm s m args below meth c s.heap [] 0 0 (MQX below Qc args s mc ms free) (entryFrame m args maxL)) : MetX l y ws rm Pc Qc mc ms free := by
  refine MetFree.of_bodySF (code := cc) (maxLocals := maxL) (ret := ret) hy ?_ ?_
  · intro args s m h hn
    obtain ⟨m', meth, c, h0, h1, h2, h3, h4, -, h5, h6, -⟩ := Cond.codeWith_spec (atoms_spec (ws := ws) h _ hw)
    cases hn.symm.trans h0
    exact ⟨meth, c, h1, h2, h3, h4, h5, h6⟩
  · intro p e s m args below meth c s₁ B hml hP _
    have hh0 : s₁.heap = s.heap := by rw [B.state]; rfl
    have htab : c.exceptionTable.toList.map (fun h => (h.startPc, h.endPc, h.handlerPc, h.catchType)) = hs := by
      obtain ⟨m', meth', c', h0, h1, h2, -, -, h5, -⟩ := Cond.codeWith_spec (atoms_spec (ws := ws) B.pre _ hw)
      cases B.named.symm.trans h0
      cases B.method.symm.trans h1
      cases (Stand.of_body B).code.symm.trans h2
      exact h5
    obtain ⟨t, a1, o, b1, b2, b3⟩ := body p e s m args below meth c s₁ B hml htab hP s₁ hh0 (Stand.of_body B)
    exact ⟨t, o, a1, b1, b2, ⟨b3.1, b3.2⟩⟩
/-- throw new X("..") out of a method that has written nothing: five instructions -/
theorem xx_thrownew {pc i1 i2 i3 : Nat} {ls : Array Slot} {rest : List Value} {own X tx : String} {names : List String}
    (hx : p.tables.exec = Jvm.exec) (hb : c.code = cc) (hml : c.maxLocals = nL) (htr : e.platform.stackTraces = false) (hown : s.vm.findClass own = some m.cls) (hlocks : meth.locks = false)
    (hX : Bundle.fit X = true) (hN : ∀ n ∈ names, Bundle.fit n = true) (h : ∀ w ∈ Bundle.ownAtoms own i3 X names, w.before args s = true)
    (hcl : (Cond.classLink own i1 X).before args s = true) (hini : (Cond.initialized X).before args s = true) (hst : (Cond.stringRef own i2 tx).before args s = true)
    (hout : ∀ h ∈ c.exceptionTable.toList, covers h (pc + 3 + 1 + 2 + 3) = false) (hls : ls.size = nL)
    (hcells : cells + 1 ≤ R.cells) (hslots : slots + 6 ≤ R.slots) (hfr : names.length + 3 < R.frames) (hlo : 1 + (rest.map fun v => v.category).sum + (13 * (names.length + 1) + 42) ≤ R.locals)
    (d0 : decode cc pc = .ok (.new i1, 3)) (d1 : decode cc (pc + 3) = .ok (.dup, 1)) (d2 : decode cc (pc + 3 + 1) = .ok (.ldc i2, 2)) (d3 : decode cc (pc + 3 + 1 + 2) = .ok (.invokespecial i3, 3)) (d4 : decode cc (pc + 3 + 1 + 2 + 3) = .ok (.athrow, 1))
    (hq : ∀ (x : Addr) (t : State), s.heap.size ≤ x → s.heap.size ≤ t.heap.size → (∀ q, q < s.heap.size → t.heap[q]? = s.heap[q]?) → s.WarmedH t.vm → (∃ ce : Cell, t.heap[x]? = some ce ∧ ce.vm = .none ∧ s.vm.findClass X = some ce.cls) → Qc args s (.threw x) t) :
    W p l e R s m args below meth c s.heap [] cells slots (MQX below Qc args s (cells + 1) (slots + 6) free) (F0 m pc ls rest) := by
  have hins : (Cond.instantiable X 6).before args s = true := h _ (by simp [Bundle.ownAtoms])
  obtain ⟨cX, kX, hfX, -⟩ := Cond.instantiable_spec hins
  refine W.newcK hx hb hown hcl hins hini (g := F0 m pc ls rest) rfl d0 hcells hslots hfX rfl fun H' kC hkC e1 z1 o1 => ?_
  refine W.eq (g2 := F0 m (pc + 3) ls (.ref s.heap.size :: rest)) rfl ?_
  refine lv_dup hx hb d1 rfl ?_
  obtain ⟨-, -, -, sa, -, -, -, -, -, hev⟩ := Cond.stringRef_spec hown hst
  refine va_ldcS hx hb hown (vk_R.of hst hev) d2 ?_
  intro T hT X'
  obtain ⟨U, g1, g2, g3, g4, g5, ce, g6, g7⟩ := X'.ctorThrowS hx htr hown hX hN h (fun x hx' => by cases hx') hfX hkC (a := s.heap.size) (by rw [hT]; exact e1) (Nat.le_refl _) (msg := .ref sa) rfl (g := F0 m (pc + 3 + 1 + 2) ls (.ref sa :: .ref s.heap.size :: .ref s.heap.size :: rest)) rfl (hls.trans hml.symm) rfl rfl (rest := rest) rfl (by rw [hb]; exact d3) (by rw [hb]; exact d4) hout hfr
    (by show 2 * 0 + (1 + (rest.map fun v => v.category).sum) + _ ≤ _; omega) (hlocks := hlocks)
  refine ⟨U, g1, .threw s.heap.size, g2, g3, hq s.heap.size U (Nat.le_refl _) g5.2.1 (fun q hq' => ?_) g4 ⟨ce, g6, g7.vm, g7.cls⟩, [], ⟨g4, g5⟩, fun q hq' => by cases hq'⟩
  obtain ⟨cq, hcq⟩ : ∃ cq, s.heap[q]? = some cq := ⟨_, Array.getElem?_eq_getElem hq'⟩
  rw [hcq]
  exact g5.old_cell hcq
end XO
/-! what a call ends with: .inl v: it returned v; .inr k: it threw an exception of the k-th class -/
abbrev XR : Type := Option Value ⊕ Nat
abbrev XI (v : Int32) : XR := .inl (some (.int v))
abbrev XL (v : Int64) : XR := .inl (some (.long v))
abbrev XV : XR := .inl none
def xi : Int32 ⊕ Nat → XR | .inl v => XI v | .inr k => .inr k
def xl : Int64 ⊕ Nat → XR | .inl v => XL v | .inr k => .inr k
def xu : Unit ⊕ Nat → XR | .inl _ => XV | .inr k => .inr k
def xx_nm : Nat → String
  | 0 => "java/lang/IllegalStateException"
  | 1 => "java/lang/IllegalArgumentException"
  | _ => "java/lang/IndexOutOfBoundsException"
/-- the cell x is an object of the k-th class of exceptions -/
def xx_X (k : Nat) (t : State) (x : Addr) : Prop := ∃ ce : Cell, t.heap[x]? = some ce ∧ ce.vm = .none ∧ t.vm.findClass (xx_nm k) = some ce.cls
/-- a reader's end: the heap is as it was, but for the exception -/
def xx_R (r : XR) (st : State) (o : Outcome) (t : State) : Prop := match r with
  | .inl v => o = .returned v ∧ t.heap = st.heap
  | .inr k => ∃ x, o = .threw x ∧ st.heap.size ≤ x ∧ st.heap.size ≤ t.heap.size ∧ (∀ q, q < st.heap.size → t.heap[q]? = st.heap[q]?) ∧ xx_X k t x
/-- a writer's end, but for its world -/
def xx_O (r : XR) (st : State) (o : Outcome) (t : State) : Prop := match r with
  | .inl v => o = .returned v
  | .inr k => ∃ x, o = .threw x ∧ st.heap.size ≤ x ∧ xx_X k t x
abbrev xx_Q (r : XR) : Array Value → State → Outcome → State → Prop := fun _ st o t => xx_R r st o t
theorem ifp {P : Prop} [Decidable P] {α : Type} {a b r : α} (c : P) (h : (if P then a else b) = r) : a = r := by rw [if_pos c] at h; exact h
theorem ifn {P : Prop} [Decidable P] {α : Type} {a b r : α} (c : ¬ P) (h : (if P then a else b) = r) : b = r := by rw [if_neg c] at h; exact h
theorem obs {α β : Type} {x : Option α} {K : α → Option β} {r : β} (h : x.bind K = some r) : ∃ a, x = some a ∧ K a = some r := by
  cases x with
  | none => cases h
  | some a => exact ⟨a, rfl, h⟩
/-- reads and writes of arrays: nothing where the index is out of range -/
def rdL (f : Nat → Int64) (n : Nat) (i : Int32) : Option Int64 := if i < 0 ∨ n ≤ i.toNatClampNeg then none else some (f i.toNatClampNeg)
def rdI (f : Nat → Int32) (n : Nat) (i : Int32) : Option Int32 := if i < 0 ∨ n ≤ i.toNatClampNeg then none else some (f i.toNatClampNeg)
def wrL (f : Nat → Int64) (n : Nat) (i : Int32) (x : Int64) : Option (Nat → Int64) := if i < 0 ∨ n ≤ i.toNatClampNeg then none else some (vp_updL f i.toNatClampNeg x)
def wrI (f : Nat → Int32) (n : Nat) (i : Int32) (x : Int32) : Option (Nat → Int32) := if i < 0 ∨ n ≤ i.toNatClampNeg then none else some (upd f i.toNatClampNeg x)
theorem rdL_some {β : Type} {f : Nat → Int64} {n : Nat} {i : Int32} {K : Int64 → Option β} {r : β} (h : (rdL f n i).bind K = some r) : ∃ v, f i.toNatClampNeg = v ∧ vp_in i n ∧ K v = some r := by
  unfold rdL at h
  split at h
  · cases h
  · rename_i c; exact ⟨_, rfl, c, h⟩
theorem rdI_some {β : Type} {f : Nat → Int32} {n : Nat} {i : Int32} {K : Int32 → Option β} {r : β} (h : (rdI f n i).bind K = some r) : ∃ v, f i.toNatClampNeg = v ∧ vp_in i n ∧ K v = some r := by
  unfold rdI at h
  split at h
  · cases h
  · rename_i c; exact ⟨_, rfl, c, h⟩
theorem wrL_some {β : Type} {f : Nat → Int64} {n : Nat} {i : Int32} {x : Int64} {K : (Nat → Int64) → Option β} {r : β} (h : (wrL f n i x).bind K = some r) : ∃ v, vp_updL f i.toNatClampNeg x = v ∧ vp_in i n ∧ K v = some r := by
  unfold wrL at h
  split at h
  · cases h
  · rename_i c; exact ⟨_, rfl, c, h⟩
theorem wrI_some {β : Type} {f : Nat → Int32} {n : Nat} {i : Int32} {x : Int32} {K : (Nat → Int32) → Option β} {r : β} (h : (wrI f n i x).bind K = some r) : ∃ v, upd f i.toNatClampNeg x = v ∧ vp_in i n ∧ K v = some r := by
  unfold wrI at h
  split at h
  · cases h
  · rename_i c; exact ⟨_, rfl, c, h⟩
/-- System.arraycopy of longs -/
def cpIn (sp dp n : Int32) (n0 n1 : Nat) : Prop := ¬ sp < 0 ∧ ¬ dp < 0 ∧ ¬ n < 0 ∧ sp.toNatClampNeg + n.toNatClampNeg ≤ n0 ∧ dp.toNatClampNeg + n.toNatClampNeg ≤ n1
def cpL (f : Nat → Int64) (n0 : Nat) (sp : Int32) (g : Nat → Int64) (n1 : Nat) (dp n : Int32) : Option (Nat → Int64) := if ¬ sp < 0 ∧ ¬ dp < 0 ∧ ¬ n < 0 ∧ sp.toNatClampNeg + n.toNatClampNeg ≤ n0 ∧ dp.toNatClampNeg + n.toNatClampNeg ≤ n1 then some (va_cpy f g sp.toNatClampNeg dp.toNatClampNeg n.toNatClampNeg) else none
theorem cpL_some {β : Type} {f g : Nat → Int64} {n0 n1 : Nat} {sp dp n : Int32} {K : (Nat → Int64) → Option β} {r : β} (h : (cpL f n0 sp g n1 dp n).bind K = some r) : ∃ v, va_cpy f g sp.toNatClampNeg dp.toNatClampNeg n.toNatClampNeg = v ∧ cpIn sp dp n n0 n1 ∧ K v = some r := by
  unfold cpL at h
  split at h
  · rename_i c; exact ⟨_, rfl, c, h⟩
  · cases h
/-- a call that may throw, then the rest -/
def thn {α β : Type} (x : Option (α ⊕ Nat)) (K : α → Option (β ⊕ Nat)) : Option (β ⊕ Nat) := x.bind fun r => match r with | .inl a => K a | .inr k => some (.inr k)
def thnS {α β S : Type} (st : S) (x : Option (α ⊕ Nat)) (K : α → Option ((β ⊕ Nat) × S)) : Option ((β ⊕ Nat) × S) := x.bind fun r => match r with | .inl a => K a | .inr k => some (.inr k, st)
def thnM {α β S : Type} (x : Option ((α ⊕ Nat) × S)) (K : α → S → Option ((β ⊕ Nat) × S)) : Option ((β ⊕ Nat) × S) := x.bind fun r => match r with | (.inl a, st) => K a st | (.inr k, st) => some (.inr k, st)
theorem thn_some {α β : Type} {x : Option (α ⊕ Nat)} {K : α → Option (β ⊕ Nat)} {r : β ⊕ Nat} (h : thn x K = some r) : (∃ a, x = some (.inl a) ∧ K a = some r) ∨ ∃ k, x = some (.inr k) ∧ some (.inr k) = some r := by
  obtain ⟨a, h1, h2⟩ := obs h
  rcases a with a | k
  · exact Or.inl ⟨a, h1, h2⟩
  · exact Or.inr ⟨k, h1, h2⟩
theorem thnS_some {α β S : Type} {st : S} {x : Option (α ⊕ Nat)} {K : α → Option ((β ⊕ Nat) × S)} {r : (β ⊕ Nat) × S} (h : thnS st x K = some r) : (∃ a, x = some (.inl a) ∧ K a = some r) ∨ ∃ k, x = some (.inr k) ∧ some (.inr k, st) = some r := by
  obtain ⟨a, h1, h2⟩ := obs h
  rcases a with a | k
  · exact Or.inl ⟨a, h1, h2⟩
  · exact Or.inr ⟨k, h1, h2⟩
theorem thnM_some {α β S : Type} {x : Option ((α ⊕ Nat) × S)} {K : α → S → Option ((β ⊕ Nat) × S)} {r : (β ⊕ Nat) × S} (h : thnM x K = some r) : (∃ a st, x = some (.inl a, st) ∧ K a st = some r) ∨ ∃ k st, x = some (.inr k, st) ∧ some (.inr k, st) = some r := by
  obtain ⟨⟨a, st⟩, h1, h2⟩ := obs h
  rcases a with a | k
  · exact Or.inl ⟨a, st, h1, h2⟩
  · exact Or.inr ⟨k, st, h1, h2⟩
/-- a static reference of a class: where it lies, and that it lies outside A -/
def zs (C n d : String) (A : Nat → Prop) (U : State) (H : Heap) : Prop := ∃ (c : ClassId) (k : Class) (i : Nat) (f : Field) (a : Nat) (cell : Cell) (v : Value), U.vm.findClass C = some c ∧ U.fieldFound? C n d = some (c, k, i, f) ∧ f.isStatic = true ∧ k.statics = some a ∧ k.staticTypes[f.slot]? = some f.type ∧ H[a]? = some cell ∧ cell.vm.isStatics = true ∧ cell.cls = c ∧ f.slot < cell.slots.size ∧ cell.slots[f.slot]? = some v ∧ (v = .null ∨ ∃ t, v = .ref t) ∧ ¬ A a
theorem zs.moved {C n d : String} {A : Nat → Prop} {u U : State} {H : Heap} (hvm : u.vm.Alike U.vm) (h : zs C n d A u H) : zs C n d A U H := by
  obtain ⟨c, k, i, f, a, cell, v, h0, h1, h2, h3, h4, h5⟩ := h
  obtain ⟨k', hi', he⟩ := State.fieldFound?_setVm hvm h1
  exact ⟨c, k', i, f, a, cell, v, by rw [hvm.findClass]; exact h0, hi', h2, by rw [he]; exact h3, by rw [he]; exact h4, h5⟩
theorem zs.kept {C n d : String} {A : Nat → Prop} {U : State} {H H1 : Heap} (h : zs C n d A U H) (hq : ∀ a : Nat, a < H.size → ¬ A a → H1[a]? = H[a]?) : zs C n d A U H1 := by
  obtain ⟨c, k, i, f, a, cell, v, h0, h1, h2, h3, h4, h5, h6, h7, h8, h9, h10, h11⟩ := h
  exact ⟨c, k, i, f, a, cell, v, h0, h1, h2, h3, h4, by rw [hq a (Array.getElem?_eq_some_iff.mp h5).1 h11]; exact h5, h6, h7, h8, h9, h10, h11⟩
theorem zs.narrow {C n d : String} {A B : Nat → Prop} {U : State} {H : Heap} (h : zs C n d A U H) (hAB : ∀ q, B q → A q) : zs C n d B U H := by
  obtain ⟨c, k, i, f, a, cell, v, h0, h1, h2, h3, h4, h5, h6, h7, h8, h9, h10, h11⟩ := h
  exact ⟨c, k, i, f, a, cell, v, h0, h1, h2, h3, h4, h5, h6, h7, h8, h9, h10, fun z => h11 (hAB a z)⟩
/-- no cell of a world is a cell of statics -/
theorem zs.world {C n d : String} {U : State} {H : Heap} {D : va_G} {cl : List vw_C} {ws : va_W} (hP : va_P D cl ws H) (h : zs C n d (fun _ => False) U H) : zs C n d (va_A ws H.size) U H := by
  obtain ⟨c, k, i, f, a, cell, v, h0, h1, h2, h3, h4, h5, h6, h7, h8, h9, h10, -⟩ := h
  refine ⟨c, k, i, f, a, cell, v, h0, h1, h2, h3, h4, h5, h6, h7, h8, h9, h10, fun hA => ?_⟩
  rcases hA with ⟨k, e, hk⟩ | hk
  · have hat := hP k _ hk
    cases e with
    | inl x =>
      have hat : H[a]? = some (vp_cell x.1 x.2) := hat
      rw [h5] at hat
      have he := Option.some.inj hat
      rw [he] at h6
      obtain ⟨x1, x2, x3⟩ := x
      rcases x3 with f | f | f | f | f <;> cases h6
    | inr o =>
      obtain ⟨r, -, cell', g1, g2, g3, -⟩ := hat
      rw [h5] at g1
      cases g1
      rw [g3] at h6
      cases h6
  · exact absurd (Array.getElem?_eq_some_iff.mp h5).1 (by omega)
theorem zs.of {args : Array Value} {s : State} {C n d : String} {A : Nat → Prop} (hl : (Cond.laysStatic C n d).before args s = true) (hr : (Cond.isRef (.static C n d)).before args s = true) (hA : ∀ a : Nat, a < s.heap.size → ¬ A a) : zs C n d A s s.heap := by
  obtain ⟨c, k, i, f, a, cell, hc, hi, hst, ha, hcell, hs, hcls, hlt, hty⟩ := Cond.laysStatic_spec hl
  obtain ⟨u, hu⟩ := Cond.staticRefV hi hst ha hcell hs hr
  refine ⟨c, k, i, f, a, cell, u.v, hc, hi, hst, ha, hty, hcell, hs, hcls, hlt, hu, ?_, hA a (Array.getElem?_eq_some_iff.mp hcell).1⟩
  obtain ⟨w, hw⟩ := u
  cases w <;> first | exact Or.inl rfl | exact Or.inr ⟨_, rfl⟩ | (simp [Value.isRef] at hw)
theorem zs.lays {C n d : String} {A : Nat → Prop} {s : State} {args : Array Value} (h : zs C n d A s s.heap) : (Cond.laysStatic C n d).before args s = true := by
  obtain ⟨c, k, i, f, a, cell, v, h0, h1, h2, h3, h4, h5, h6, h7, h8, h9, h10, h11⟩ := h
  simp [Cond.before, Cond.holds, Cond.value, h0, h1, h2, h3, h4, h5, h6, h7, h8]
theorem zs.isRef {C n d : String} {A : Nat → Prop} {s : State} {args : Array Value} (h : zs C n d A s s.heap) : (Cond.isRef (.static C n d)).before args s = true := by
  obtain ⟨c, k, i, f, a, cell, v, h0, h1, h2, h3, h4, h5, h6, h7, h8, h9, hv, h11⟩ := h
  rcases hv with rfl | ⟨t, rfl⟩ <;> simp [Cond.before, Cond.holds, Cond.value, Term.eval, State.fieldNamed?, h1, h2, h3, h5, h6, h9]
/-- the two statics of Throwable that a constructor reads -/
def zz (A : Nat → Prop) (U : State) (H : Heap) : Prop := zs "java/lang/Throwable" "UNASSIGNED_STACK" "[Ljava/lang/StackTraceElement;" A U H ∧ zs "java/lang/Throwable" "SUPPRESSED_SENTINEL" "Ljava/util/List;" A U H
theorem zz.moved {A : Nat → Prop} {u U : State} {H : Heap} (hvm : u.vm.Alike U.vm) (h : zz A u H) : zz A U H := ⟨zs.moved hvm h.1, zs.moved hvm h.2⟩
theorem zz.kept {A : Nat → Prop} {U : State} {H H1 : Heap} (h : zz A U H) (hq : ∀ a : Nat, a < H.size → ¬ A a → H1[a]? = H[a]?) : zz A U H1 := ⟨zs.kept h.1 hq, zs.kept h.2 hq⟩
theorem zz.narrow {A B : Nat → Prop} {U : State} {H : Heap} (h : zz A U H) (hAB : ∀ q, B q → A q) : zz B U H := ⟨zs.narrow h.1 hAB, zs.narrow h.2 hAB⟩
theorem zz.at {A : Nat → Prop} {s U : State} {H : Heap} {locs : List Loc} (h : zz A s s.heap) (hS : va_S A s.heap H locs) (hU : U.heap = H) (hvm : s.vm.Alike U.vm) : zz (fun _ => False) U U.heap := by
  rw [hU]
  exact ((h.kept hS.2.1).narrow (fun _ z => z.elim)).moved hvm
theorem zz.world {U : State} {H : Heap} {D : va_G} {cl : List vw_C} {ws : va_W} (hP : va_P D cl ws H) (h : zz (fun _ => False) U H) : zz (va_A ws H.size) U H := ⟨zs.world hP h.1, zs.world hP h.2⟩
/-- words that hold on under warmer tables, whatever the heap -/
def xgood : Cond → Bool
  | .arrayClass _ => true
  | .stringRef .. => true
  | w => w.onTables && w.keepsFace
theorem xword {args a' : Array Value} {s U : State} (hW : s.WarmedH U.vm) {c : Cond} (hc : xgood c = true) (h : c.before args s = true) : c.before a' U = true := by
  have key : ∀ c : Cond, (c.onTables && c.keepsFace) = true → c.before args s = true → c.before a' U = true := by
    intro c hc h
    simp only [Bool.and_eq_true] at hc
    have h1 := Cond.before_shiftedFace (State.Shifted.of_warmed hW) c hc.2 h
    rw [Cond.onTables_vm (A' := a') (U' := U) U.vm c hc.1, State.setVm_self] at h1
    exact h1
  cases c
  case arrayClass ty =>
    have h1 : (Cond.arrayClass ty).before args (s.setVm U.vm) = true := Cond.before_shiftedFace (State.Shifted.of_warmed hW) _ rfl h
    exact h1
  case stringRef own k tx =>
    have h1 := Cond.stringRef_warmed hW h
    exact h1
  all_goals exact key _ hc h
theorem WT.widen {p : Program} {l : Launch} {e : Env} {R : Room} {s : State} {m : MethodId} {args : Array Value} {below : List Frame} {meth : Method} {c : Code} {H : Heap} {locs : List Loc} {cells slots : Nat} {Q : State → Prop} {g : JFrame} {x : Addr} {k n : Nat} (h1 : cells ≤ k) (h2 : slots ≤ n) (kk : WT p l e R s m args below meth c H locs k n Q g x) : WT p l e R s m args below meth c H locs cells slots Q g x := fun T hT X => kk T hT (stand_widen X h1 h2)
/-! AN EXCEPTION IS CAUGHT: the method's own table is searched, its entries one by one; the classes that they name are resolved on the way -/
section XC
/-- the search among the entries es ends with h, and leaves the tables vm' -/
def xGo (e : Env) (S : State) (f : JFrame) (a : Addr) (es : List ExceptionTableEntry) (h : Handler) (vm' : Vm) : Prop :=
  ∀ (Q : Handler → Pre) (E : CtlPost) (d : Bool) (acts : List Action), wp (findHandler.go f a es) Q E e d acts S ↔ Q h d acts (S.setVm vm')
variable {e : Env} {S : State} {f : JFrame} {a : Addr}
theorem xGo.hit {x : ExceptionTableEntry} {t : List ExceptionTableEntry} {c : ClassId} {cell : Cell} (hx : covers x f.pc = true) (h0 : x.catchType ≠ 0)
    (hl : S.vm.ClassLinks e.platform f.method.cls x.catchType c) (hcell : S.heap[a]? = some cell) (hobj : ∀ k, cell.vm ≠ .statics k)
    (hk : ∃ k, S.vm.classes[cell.cls]? = some k) (hc : ∃ k, S.vm.classes[c]? = some k) (hfit : S.vm.assignable cell.cls c = true) :
    xGo e S f a (x :: t) (.found x.handlerPc) (S.vm.noted f.method.cls x.catchType (.cls c)) := by
  intro Q E d acts
  simp only [covers] at hx
  obtain ⟨ha, ht⟩ := (resolveClass_links e.toSetting hl).op (op := VmOp.resolveClass f.method.cls x.catchType) rfl
  have hal : S.vm.Alike (S.vm.noted f.method.cls x.catchType (.cls c)) := (Vm.Alike.refl S.vm).noted _ _ _
  obtain ⟨k1, hk1⟩ := hk
  obtain ⟨k2, hk2⟩ := hc
  obtain ⟨k1', hk1', -⟩ := hal.2.2 _ _ hk1
  obtain ⟨k2', hk2', -⟩ := hal.2.2 _ _ hk2
  have hfit' : (S.vm.noted f.method.cls x.catchType (.cls c)).assignable cell.cls c = true := by rw [hal.assignable]; exact hfit
  simp [findHandler.go, hx, h0, ha, ht, hcell, hobj, hk1', hk2', hfit', VmOp.dirties, VmOp.acts]
theorem xGo.pass {x : ExceptionTableEntry} {t : List ExceptionTableEntry} {c : ClassId} {cell : Cell} {h : Handler} {vm' : Vm} (hx : covers x f.pc = true) (h0 : x.catchType ≠ 0)
    (hl : S.vm.ClassLinks e.platform f.method.cls x.catchType c) (hcell : S.heap[a]? = some cell) (hobj : ∀ k, cell.vm ≠ .statics k)
    (hk : ∃ k, S.vm.classes[cell.cls]? = some k) (hc : ∃ k, S.vm.classes[c]? = some k) (hfit : S.vm.assignable cell.cls c = false)
    (hrest : xGo e (S.setVm (S.vm.noted f.method.cls x.catchType (.cls c))) f a t h vm') : xGo e S f a (x :: t) h vm' := by
  intro Q E d acts
  simp only [covers] at hx
  obtain ⟨ha, ht⟩ := (resolveClass_links e.toSetting hl).op (op := VmOp.resolveClass f.method.cls x.catchType) rfl
  have hal : S.vm.Alike (S.vm.noted f.method.cls x.catchType (.cls c)) := (Vm.Alike.refl S.vm).noted _ _ _
  obtain ⟨k1, hk1⟩ := hk
  obtain ⟨k2, hk2⟩ := hc
  obtain ⟨k1', hk1', -⟩ := hal.2.2 _ _ hk1
  obtain ⟨k2', hk2', -⟩ := hal.2.2 _ _ hk2
  have hfit' : (S.vm.noted f.method.cls x.catchType (.cls c)).assignable cell.cls c = false := by rw [hal.assignable]; exact hfit
  have hr := hrest Q E
  simp only [State.setVm_twice] at hr
  simp [findHandler.go, hx, h0, ha, ht, hcell, hobj, hk1', hk2', hfit', VmOp.dirties, VmOp.acts]
  exact hr _ _
theorem xGo.step {tb : Tables} {s target : State} {g : JFrame} {c : Code} {meth : Method} {below : List Frame} {x : Addr} (h : At s g.method c below) (hm : s.vm.method? g.method = some meth) (hc : meth.code = some c) {pc : Nat} {vm' : Vm}
    (hfind : xGo e ((s.setTop g).pushFrame (.throwing x)) g x c.exceptionTable.toList (.found pc) vm') (hrest : Steps tb e below ((s.setVm vm').setTop { g with pc := pc, stack := [.ref x] }) target) :
    Steps tb e below ((s.setTop g).pushFrame (.throwing x)) target := by
  have hf : ∀ (Q : Handler → Pre) (E : CtlPost) (d : Bool) (acts : List Action), wp (findHandler g x) Q E e d acts ((s.setTop g).pushFrame (.throwing x)) ↔ Q (.found pc) d acts (((s.setTop g).pushFrame (.throwing x)).setVm vm') := by
    intro Q E d acts
    rw [W.findHandler_eq (s := (s.setTop g).pushFrame (.throwing x)) (meth := meth) (code := c) (by rw [Stand.throwing_vm]; exact hm) hc]
    exact hfind Q E d acts
  obtain ⟨hgo, hw⟩ := h.throwing x
  refine Steps.head hgo hw ?_
  rw [stepThread_throwing (frames_entered h.top _)]
  have hstep : ∀ r, (stepThrowing e ((s.setTop g).pushFrame (.throwing x)) x (.java g :: r)).Is ((((s.setTop g).pushFrame (.throwing x)).setVm vm').setFrames (.java { g with pc := pc, stack := [.ref x] } :: r)) [] := by
    intro r
    simp only [stepThrowing, searchFrame, vmDo]
    generalize hr : Sem.go _ e false [] ((s.setTop g).pushFrame (.throwing x)) = res
    obtain ⟨as, rfl, ha⟩ := Sem.eq_ok_of hr (a := Handler.found pc) (s' := ((s.setTop g).pushFrame (.throwing x)).setVm vm') (acts' := []) (by simp [hf _ _ _ _])
    exact ⟨rfl, ha⟩
  rw [(hstep _).1]
  obtain ⟨g₀, hg⟩ := Option.isSome_iff_exists.mp h.top
  obtain ⟨r, hr⟩ := State.topJava?_eq_some.mp hg
  have hr' : (s.setVm vm').frames = .java g₀ :: r := hr
  have key : ∀ (u : State) (F G : List Frame), ((u.setFrames F).setVm vm').setFrames G = (u.setVm vm').setFrames G := by
    intro u F G
    have h1 : (u.setFrames F).setVm vm' = (u.setVm vm').setFrames F := rfl
    rw [h1, State.setFrames_setFrames]
  rw [State.setTop_of_frames _ hr'] at hrest
  rw [hr, List.tail_cons, State.pushFrame, key, State.setTop_of_frames _ hr, key]
  exact hrest
end XC
end
section
/-- the words that every method of ours is given: those of the tables that stay true while the tables get warmer -/
def lw_g : List Cond := lw_tbl.filter xgood
theorem lw_good {args : Array Value} {s : State} (hts : ∀ w ∈ lw_g, w.before args s = true) : ∀ w ∈ lw_g, ∀ (a' : Array Value) (U : State), s.WarmedH U.vm → w.before a' U = true :=
  fun w hw _ _ hW => xword hW (List.mem_filter.mp hw).2 (hts w hw)
theorem callB_x {R : Room} {s : State} {args : Array Value} {own : String} {index : Nat} {y : MethodName} {bytes : ByteArray} {maxL : Nat} {ret : Option FieldType} {rm : Room} (hts : ∀ w ∈ lw_g, w.before args s = true) (hc : Cond.code y bytes maxL ret ∈ lw_g) (n : Nat) (hi : Cond.initialized y.cls ∈ lw_g) (hl : Cond.methodLink own index y ∈ lw_g)
    (hd : y.cls ≠ "java/lang/invoke/MethodHandle" ∧ y.cls ≠ "java/lang/invoke/VarHandle" ∧ (parseMethodDescriptor y.desc).map (fun d => d.parameters.length) = some n) (hR : rm.frames + 1 ≤ R.frames ∧ 8 + (maxL + 11) + rm.locals ≤ R.locals) : CallB R s args own index y bytes maxL ret lw_g rm rm.cells rm.slots n := by
  refine ⟨rfl, rfl, hR.1, hR.2, lw_good hts, hc, hts _ hc, hts _ hi, ⟨hd.1, hd.2.1⟩, fun sig h => ?_, hts _ hl⟩
  have h2 := hd.2.2
  rw [h] at h2
  exact (Option.some.inj h2).symm
def RB : String := "LeafBook"
abbrev kb_put : ByteArray := prog_1_method_2_code
def yb_put : MethodName := ⟨"LeafBook", "put", "(IJ)I"⟩
theorem mcb_put : Cond.code yb_put kb_put 6 (some .int) ∈ lw_g := List.mem_filter.mpr ⟨List.mem_append_right _ (List.mem_of_getElem? (i := 172) (by decide +kernel)), rfl⟩
abbrev kb_drop : ByteArray := prog_1_method_3_code
def yb_drop : MethodName := ⟨"LeafBook", "drop", "(I)I"⟩
theorem mcb_drop : Cond.code yb_drop kb_drop 4 (some .int) ∈ lw_g := List.mem_filter.mpr ⟨List.mem_append_right _ (List.mem_of_getElem? (i := 334) (by decide +kernel)), rfl⟩
abbrev kb_version : ByteArray := prog_1_method_4_code
def yb_version : MethodName := ⟨"LeafBook", "version", "()I"⟩
theorem mcb_version : Cond.code yb_version kb_version 1 (some .int) ∈ lw_g := List.mem_filter.mpr ⟨List.mem_append_right _ (List.mem_of_getElem? (i := 345) (by decide +kernel)), rfl⟩
abbrev kb_has : ByteArray := prog_1_method_5_code
def yb_has : MethodName := ⟨"LeafBook", "has", "(II)Z"⟩
theorem mcb_has : Cond.code yb_has kb_has 3 (some .boolean) ∈ lw_g := List.mem_filter.mpr ⟨List.mem_append_right _ (List.mem_of_getElem? (i := 353) (by decide +kernel)), rfl⟩
abbrev kb_find : ByteArray := prog_1_method_6_code
def yb_find : MethodName := ⟨"LeafBook", "find", "(II)J"⟩
theorem mcb_find : Cond.code yb_find kb_find 4 (some .long) ∈ lw_g := List.mem_filter.mpr ⟨List.mem_append_right _ (List.mem_of_getElem? (i := 384) (by decide +kernel)), rfl⟩
abbrev kb_count : ByteArray := prog_1_method_7_code
def yb_count : MethodName := ⟨"LeafBook", "count", "(II)I"⟩
theorem mcb_count : Cond.code yb_count kb_count 4 (some .int) ∈ lw_g := List.mem_filter.mpr ⟨List.mem_append_right _ (List.mem_of_getElem? (i := 391) (by decide +kernel)), rfl⟩
abbrev kb_key : ByteArray := prog_1_method_8_code
def yb_key : MethodName := ⟨"LeafBook", "key", "(II)I"⟩
theorem mcb_key : Cond.code yb_key kb_key 4 (some .int) ∈ lw_g := List.mem_filter.mpr ⟨List.mem_append_right _ (List.mem_of_getElem? (i := 399) (by decide +kernel)), rfl⟩
abbrev kb_same : ByteArray := prog_1_method_9_code
def yb_same : MethodName := ⟨"LeafBook", "same", "(II)Z"⟩
theorem mcb_same : Cond.code yb_same kb_same 3 (some .boolean) ∈ lw_g := List.mem_filter.mpr ⟨List.mem_append_right _ (List.mem_of_getElem? (i := 411) (by decide +kernel)), rfl⟩
abbrev kb_free : ByteArray := prog_1_method_10_code
def yb_free : MethodName := ⟨"LeafBook", "free", "()I"⟩
theorem mcb_free : Cond.code yb_free kb_free 1 (some .int) ∈ lw_g := List.mem_filter.mpr ⟨List.mem_append_right _ (List.mem_of_getElem? (i := 422) (by decide +kernel)), rfl⟩
abbrev kb_crash : ByteArray := prog_1_method_11_code
def yb_crash : MethodName := ⟨"LeafBook", "crash", "(I)I"⟩
theorem mcb_crash : Cond.code yb_crash kb_crash 2 (some .int) ∈ lw_g := List.mem_filter.mpr ⟨List.mem_append_right _ (List.mem_of_getElem? (i := 435) (by decide +kernel)), rfl⟩
abbrev kb_reopen : ByteArray := prog_1_method_12_code
def yb_reopen : MethodName := ⟨"LeafBook", "reopen", "()I"⟩
theorem mcb_reopen : Cond.code yb_reopen kb_reopen 2 (some .int) ∈ lw_g := List.mem_filter.mpr ⟨List.mem_append_right _ (List.mem_of_getElem? (i := 83) (by decide +kernel)), rfl⟩
abbrev kb_wordAt : ByteArray := prog_1_method_13_code
def yb_wordAt : MethodName := ⟨"LeafBook", "wordAt", "(II)J"⟩
theorem mcb_wordAt : Cond.code yb_wordAt kb_wordAt 3 (some .long) ∈ lw_g := List.mem_filter.mpr ⟨List.mem_append_right _ (List.mem_of_getElem? (i := 452) (by decide +kernel)), rfl⟩
abbrev kb_rootAt : ByteArray := prog_1_method_14_code
def yb_rootAt : MethodName := ⟨"LeafBook", "rootAt", "(II)J"⟩
theorem mcb_rootAt : Cond.code yb_rootAt kb_rootAt 3 (some .long) ∈ lw_g := List.mem_filter.mpr ⟨List.mem_append_right _ (List.mem_of_getElem? (i := 464) (by decide +kernel)), rfl⟩
abbrev kb_poke : ByteArray := prog_1_method_15_code
def yb_poke : MethodName := ⟨"LeafBook", "poke", "(IIJ)V"⟩
theorem mcb_poke : Cond.code yb_poke kb_poke 5 (none) ∈ lw_g := List.mem_filter.mpr ⟨List.mem_append_right _ (List.mem_of_getElem? (i := 476) (by decide +kernel)), rfl⟩
abbrev kb_pokeRoot : ByteArray := prog_1_method_16_code
def yb_pokeRoot : MethodName := ⟨"LeafBook", "pokeRoot", "(IIJ)V"⟩
theorem mcb_pokeRoot : Cond.code yb_pokeRoot kb_pokeRoot 5 (none) ∈ lw_g := List.mem_filter.mpr ⟨List.mem_append_right _ (List.mem_of_getElem? (i := 488) (by decide +kernel)), rfl⟩
abbrev kb_badAt : ByteArray := prog_1_method_17_code
def yb_badAt : MethodName := ⟨"LeafBook", "badAt", "()I"⟩
theorem mcb_badAt : Cond.code yb_badAt kb_badAt 4 (some .int) ∈ lw_g := List.mem_filter.mpr ⟨List.mem_append_right _ (List.mem_of_getElem? (i := 145) (by decide +kernel)), rfl⟩
abbrev kb_requireOpen : ByteArray := prog_1_method_18_code
def yb_requireOpen : MethodName := ⟨"LeafBook", "requireOpen", "()V"⟩
theorem mcb_requireOpen : Cond.code yb_requireOpen kb_requireOpen 1 (none) ∈ lw_g := List.mem_filter.mpr ⟨List.mem_append_right _ (List.mem_of_getElem? (i := 180) (by decide +kernel)), rfl⟩
abbrev kb_requireWritable : ByteArray := prog_1_method_19_code
def yb_requireWritable : MethodName := ⟨"LeafBook", "requireWritable", "()V"⟩
theorem mcb_requireWritable : Cond.code yb_requireWritable kb_requireWritable 1 (none) ∈ lw_g := List.mem_filter.mpr ⟨List.mem_append_right _ (List.mem_of_getElem? (i := 176) (by decide +kernel)), rfl⟩
abbrev kb_requireKey : ByteArray := prog_1_method_20_code
def yb_requireKey : MethodName := ⟨"LeafBook", "requireKey", "(I)V"⟩
theorem mcb_requireKey : Cond.code yb_requireKey kb_requireKey 2 (none) ∈ lw_g := List.mem_filter.mpr ⟨List.mem_append_right _ (List.mem_of_getElem? (i := 257) (by decide +kernel)), rfl⟩
abbrev kb_requireKept : ByteArray := prog_1_method_21_code
def yb_requireKept : MethodName := ⟨"LeafBook", "requireKept", "(I)V"⟩
theorem mcb_requireKept : Cond.code yb_requireKept kb_requireKept 2 (none) ∈ lw_g := List.mem_filter.mpr ⟨List.mem_append_right _ (List.mem_of_getElem? (i := 357) (by decide +kernel)), rfl⟩
abbrev kb_requirePageWord : ByteArray := prog_1_method_22_code
def yb_requirePageWord : MethodName := ⟨"LeafBook", "requirePageWord", "(II)V"⟩
theorem mcb_requirePageWord : Cond.code yb_requirePageWord kb_requirePageWord 3 (none) ∈ lw_g := List.mem_filter.mpr ⟨List.mem_append_right _ (List.mem_of_getElem? (i := 456) (by decide +kernel)), rfl⟩
abbrev kb_requireRootWord : ByteArray := prog_1_method_23_code
def yb_requireRootWord : MethodName := ⟨"LeafBook", "requireRootWord", "(II)V"⟩
theorem mcb_requireRootWord : Cond.code yb_requireRootWord kb_requireRootWord 3 (none) ∈ lw_g := List.mem_filter.mpr ⟨List.mem_append_right _ (List.mem_of_getElem? (i := 468) (by decide +kernel)), rfl⟩
abbrev kb_requireMask : ByteArray := prog_1_method_24_code
def yb_requireMask : MethodName := ⟨"LeafBook", "requireMask", "(J)V"⟩
theorem mcb_requireMask : Cond.code yb_requireMask kb_requireMask 3 (none) ∈ lw_g := List.mem_filter.mpr ⟨List.mem_append_right _ (List.mem_of_getElem? (i := 480) (by decide +kernel)), rfl⟩
abbrev kb_sumOf : ByteArray := prog_1_method_25_code
def yb_sumOf : MethodName := ⟨"LeafBook", "sumOf", "([JII)J"⟩
theorem mcb_sumOf : Cond.code yb_sumOf kb_sumOf 8 (some .long) ∈ lw_g := List.mem_filter.mpr ⟨List.mem_append_right _ (List.mem_of_getElem? (i := 36) (by decide +kernel)), rfl⟩
abbrev kb_isRightPage : ByteArray := prog_1_method_26_code
def yb_isRightPage : MethodName := ⟨"LeafBook", "isRightPage", "(I)Z"⟩
theorem mcb_isRightPage : Cond.code yb_isRightPage kb_isRightPage 10 (some .boolean) ∈ lw_g := List.mem_filter.mpr ⟨List.mem_append_right _ (List.mem_of_getElem? (i := 124) (by decide +kernel)), rfl⟩
abbrev kb_hasRootSum : ByteArray := prog_1_method_27_code
def yb_hasRootSum : MethodName := ⟨"LeafBook", "hasRootSum", "(I)Z"⟩
theorem mcb_hasRootSum : Cond.code yb_hasRootSum kb_hasRootSum 3 (some .boolean) ∈ lw_g := List.mem_filter.mpr ⟨List.mem_append_right _ (List.mem_of_getElem? (i := 103) (by decide +kernel)), rfl⟩
abbrev kb_isBlankRoot : ByteArray := prog_1_method_28_code
def yb_isBlankRoot : MethodName := ⟨"LeafBook", "isBlankRoot", "(I)Z"⟩
theorem mcb_isBlankRoot : Cond.code yb_isBlankRoot kb_isBlankRoot 4 (some .boolean) ∈ lw_g := List.mem_filter.mpr ⟨List.mem_append_right _ (List.mem_of_getElem? (i := 160) (by decide +kernel)), rfl⟩
abbrev kb_isSound : ByteArray := prog_1_method_29_code
def yb_isSound : MethodName := ⟨"LeafBook", "isSound", "(I)Z"⟩
theorem mcb_isSound : Cond.code yb_isSound kb_isSound 8 (some .boolean) ∈ lw_g := List.mem_filter.mpr ⟨List.mem_append_right _ (List.mem_of_getElem? (i := 107) (by decide +kernel)), rfl⟩
abbrev kb_isRightRoot : ByteArray := prog_1_method_30_code
def yb_isRightRoot : MethodName := ⟨"LeafBook", "isRightRoot", "(I)Z"⟩
theorem mcb_isRightRoot : Cond.code yb_isRightRoot kb_isRightRoot 2 (some .boolean) ∈ lw_g := List.mem_filter.mpr ⟨List.mem_append_right _ (List.mem_of_getElem? (i := 99) (by decide +kernel)), rfl⟩
abbrev kb_hasRightLeaves : ByteArray := prog_1_method_31_code
def yb_hasRightLeaves : MethodName := ⟨"LeafBook", "hasRightLeaves", "(I)Z"⟩
theorem mcb_hasRightLeaves : Cond.code yb_hasRightLeaves kb_hasRightLeaves 9 (some .boolean) ∈ lw_g := List.mem_filter.mpr ⟨List.mem_append_right _ (List.mem_of_getElem? (i := 112) (by decide +kernel)), rfl⟩
abbrev kb_isKept : ByteArray := prog_1_method_32_code
def yb_isKept : MethodName := ⟨"LeafBook", "isKept", "(I)Z"⟩
theorem mcb_isKept : Cond.code yb_isKept kb_isKept 3 (some .boolean) ∈ lw_g := List.mem_filter.mpr ⟨List.mem_append_right _ (List.mem_of_getElem? (i := 252) (by decide +kernel)), rfl⟩
abbrev kb_heldPages : ByteArray := prog_1_method_33_code
def yb_heldPages : MethodName := ⟨"LeafBook", "heldPages", "()J"⟩
theorem mcb_heldPages : Cond.code yb_heldPages kb_heldPages 4 (some .long) ∈ lw_g := List.mem_filter.mpr ⟨List.mem_append_right _ (List.mem_of_getElem? (i := 149) (by decide +kernel)), rfl⟩
abbrev kb_pagesOf : ByteArray := prog_1_method_34_code
def yb_pagesOf : MethodName := ⟨"LeafBook", "pagesOf", "(I)J"⟩
theorem mcb_pagesOf : Cond.code yb_pagesOf kb_pagesOf 6 (some .long) ∈ lw_g := List.mem_filter.mpr ⟨List.mem_append_right _ (List.mem_of_getElem? (i := 153) (by decide +kernel)), rfl⟩
abbrev kb_isIn : ByteArray := prog_1_method_35_code
def yb_isIn : MethodName := ⟨"LeafBook", "isIn", "(JI)Z"⟩
theorem mcb_isIn : Cond.code yb_isIn kb_isIn 3 (some .boolean) ∈ lw_g := List.mem_filter.mpr ⟨List.mem_append_right _ (List.mem_of_getElem? (i := 156) (by decide +kernel)), rfl⟩
abbrev kb_greatestWhole : ByteArray := prog_1_method_36_code
def yb_greatestWhole : MethodName := ⟨"LeafBook", "greatestWhole", "()I"⟩
theorem mcb_greatestWhole : Cond.code yb_greatestWhole kb_greatestWhole 7 (some .int) ∈ lw_g := List.mem_filter.mpr ⟨List.mem_append_right _ (List.mem_of_getElem? (i := 87) (by decide +kernel)), rfl⟩
abbrev kb_rootOf : ByteArray := prog_1_method_37_code
def yb_rootOf : MethodName := ⟨"LeafBook", "rootOf", "(I)I"⟩
theorem mcb_rootOf : Cond.code yb_rootOf kb_rootOf 1 (some .int) ∈ lw_g := List.mem_filter.mpr ⟨List.mem_append_right _ (List.mem_of_getElem? (i := 92) (by decide +kernel)), rfl⟩
abbrev kb_leavesOf : ByteArray := prog_1_method_38_code
def yb_leavesOf : MethodName := ⟨"LeafBook", "leavesOf", "(I)I"⟩
theorem mcb_leavesOf : Cond.code yb_leavesOf kb_leavesOf 2 (some .int) ∈ lw_g := List.mem_filter.mpr ⟨List.mem_append_right _ (List.mem_of_getElem? (i := 116) (by decide +kernel)), rfl⟩
abbrev kb_pageOf : ByteArray := prog_1_method_39_code
def yb_pageOf : MethodName := ⟨"LeafBook", "pageOf", "(II)I"⟩
theorem mcb_pageOf : Cond.code yb_pageOf kb_pageOf 3 (some .int) ∈ lw_g := List.mem_filter.mpr ⟨List.mem_append_right _ (List.mem_of_getElem? (i := 120) (by decide +kernel)), rfl⟩
abbrev kb_entriesOfRoot : ByteArray := prog_1_method_40_code
def yb_entriesOfRoot : MethodName := ⟨"LeafBook", "entriesOfRoot", "(I)I"⟩
theorem mcb_entriesOfRoot : Cond.code yb_entriesOfRoot kb_entriesOfRoot 2 (some .int) ∈ lw_g := List.mem_filter.mpr ⟨List.mem_append_right _ (List.mem_of_getElem? (i := 327) (by decide +kernel)), rfl⟩
abbrev kb_entriesOf : ByteArray := prog_1_method_41_code
def yb_entriesOf : MethodName := ⟨"LeafBook", "entriesOf", "(I)I"⟩
theorem mcb_entriesOf : Cond.code yb_entriesOf kb_entriesOf 2 (some .int) ∈ lw_g := List.mem_filter.mpr ⟨List.mem_append_right _ (List.mem_of_getElem? (i := 130) (by decide +kernel)), rfl⟩
abbrev kb_entryAt : ByteArray := prog_1_method_42_code
def yb_entryAt : MethodName := ⟨"LeafBook", "entryAt", "(II)I"⟩
theorem mcb_entryAt : Cond.code yb_entryAt kb_entryAt 2 (some .int) ∈ lw_g := List.mem_filter.mpr ⟨List.mem_append_right _ (List.mem_of_getElem? (i := 137) (by decide +kernel)), rfl⟩
abbrev kb_firstKey : ByteArray := prog_1_method_43_code
def yb_firstKey : MethodName := ⟨"LeafBook", "firstKey", "(I)J"⟩
theorem mcb_firstKey : Cond.code yb_firstKey kb_firstKey 2 (some .long) ∈ lw_g := List.mem_filter.mpr ⟨List.mem_append_right _ (List.mem_of_getElem? (i := 134) (by decide +kernel)), rfl⟩
abbrev kb_lastKey : ByteArray := prog_1_method_44_code
def yb_lastKey : MethodName := ⟨"LeafBook", "lastKey", "(I)J"⟩
theorem mcb_lastKey : Cond.code yb_lastKey kb_lastKey 2 (some .long) ∈ lw_g := List.mem_filter.mpr ⟨List.mem_append_right _ (List.mem_of_getElem? (i := 141) (by decide +kernel)), rfl⟩
abbrev kb_leafFor : ByteArray := prog_1_method_45_code
def yb_leafFor : MethodName := ⟨"LeafBook", "leafFor", "(II)I"⟩
theorem mcb_leafFor : Cond.code yb_leafFor kb_leafFor 6 (some .int) ∈ lw_g := List.mem_filter.mpr ⟨List.mem_append_right _ (List.mem_of_getElem? (i := 278) (by decide +kernel)), rfl⟩
abbrev kb_entryWithKey : ByteArray := prog_1_method_46_code
def yb_entryWithKey : MethodName := ⟨"LeafBook", "entryWithKey", "(II)I"⟩
theorem mcb_entryWithKey : Cond.code yb_entryWithKey kb_entryWithKey 7 (some .int) ∈ lw_g := List.mem_filter.mpr ⟨List.mem_append_right _ (List.mem_of_getElem? (i := 377) (by decide +kernel)), rfl⟩
abbrev kb_entryByNumber : ByteArray := prog_1_method_47_code
def yb_entryByNumber : MethodName := ⟨"LeafBook", "entryByNumber", "(II)I"⟩
theorem mcb_entryByNumber : Cond.code yb_entryByNumber kb_entryByNumber 8 (some .int) ∈ lw_g := List.mem_filter.mpr ⟨List.mem_append_right _ (List.mem_of_getElem? (i := 403) (by decide +kernel)), rfl⟩
abbrev kb_haveSameEntries : ByteArray := prog_1_method_48_code
def yb_haveSameEntries : MethodName := ⟨"LeafBook", "haveSameEntries", "(II)Z"⟩
theorem mcb_haveSameEntries : Cond.code yb_haveSameEntries kb_haveSameEntries 7 (some .boolean) ∈ lw_g := List.mem_filter.mpr ⟨List.mem_append_right _ (List.mem_of_getElem? (i := 415) (by decide +kernel)), rfl⟩
abbrev kb_loadDraft : ByteArray := prog_1_method_49_code
def yb_loadDraft : MethodName := ⟨"LeafBook", "loadDraft", "(II)V"⟩
theorem mcb_loadDraft : Cond.code yb_loadDraft kb_loadDraft 6 (none) ∈ lw_g := List.mem_filter.mpr ⟨List.mem_append_right _ (List.mem_of_getElem? (i := 282) (by decide +kernel)), rfl⟩
abbrev kb_placeInDraft : ByteArray := prog_1_method_50_code
def yb_placeInDraft : MethodName := ⟨"LeafBook", "placeInDraft", "(I)I"⟩
theorem mcb_placeInDraft : Cond.code yb_placeInDraft kb_placeInDraft 3 (some .int) ∈ lw_g := List.mem_filter.mpr ⟨List.mem_append_right _ (List.mem_of_getElem? (i := 290) (by decide +kernel)), rfl⟩
abbrev kb_draftHasAt : ByteArray := prog_1_method_51_code
def yb_draftHasAt : MethodName := ⟨"LeafBook", "draftHasAt", "(II)Z"⟩
theorem mcb_draftHasAt : Cond.code yb_draftHasAt kb_draftHasAt 3 (some .boolean) ∈ lw_g := List.mem_filter.mpr ⟨List.mem_append_right _ (List.mem_of_getElem? (i := 294) (by decide +kernel)), rfl⟩
abbrev kb_putInDraft : ByteArray := prog_1_method_52_code
def yb_putInDraft : MethodName := ⟨"LeafBook", "putInDraft", "(IJ)V"⟩
theorem mcb_putInDraft : Cond.code yb_putInDraft kb_putInDraft 6 (none) ∈ lw_g := List.mem_filter.mpr ⟨List.mem_append_right _ (List.mem_of_getElem? (i := 286) (by decide +kernel)), rfl⟩
abbrev kb_dropFromDraft : ByteArray := prog_1_method_53_code
def yb_dropFromDraft : MethodName := ⟨"LeafBook", "dropFromDraft", "(I)Z"⟩
theorem mcb_dropFromDraft : Cond.code yb_dropFromDraft kb_dropFromDraft 4 (some .boolean) ∈ lw_g := List.mem_filter.mpr ⟨List.mem_append_right _ (List.mem_of_getElem? (i := 338) (by decide +kernel)), rfl⟩
abbrev kb_act : ByteArray := prog_1_method_54_code
def yb_act : MethodName := ⟨"LeafBook", "act", "(II)I"⟩
theorem mcb_act : Cond.code yb_act kb_act 9 (some .int) ∈ lw_g := List.mem_filter.mpr ⟨List.mem_append_right _ (List.mem_of_getElem? (i := 298) (by decide +kernel)), rfl⟩
abbrev kb_pageNotIn : ByteArray := prog_1_method_55_code
def yb_pageNotIn : MethodName := ⟨"LeafBook", "pageNotIn", "(JI)I"⟩
theorem mcb_pageNotIn : Cond.code yb_pageNotIn kb_pageNotIn 5 (some .int) ∈ lw_g := List.mem_filter.mpr ⟨List.mem_append_right _ (List.mem_of_getElem? (i := 303) (by decide +kernel)), rfl⟩
abbrev kb_writeLeaves : ByteArray := prog_1_method_56_code
def yb_writeLeaves : MethodName := ⟨"LeafBook", "writeLeaves", "()V"⟩
theorem mcb_writeLeaves : Cond.code yb_writeLeaves kb_writeLeaves 1 (none) ∈ lw_g := List.mem_filter.mpr ⟨List.mem_append_right _ (List.mem_of_getElem? (i := 315) (by decide +kernel)), rfl⟩
abbrev kb_writeLeaf : ByteArray := prog_1_method_57_code
def yb_writeLeaf : MethodName := ⟨"LeafBook", "writeLeaf", "(III)V"⟩
theorem mcb_writeLeaf : Cond.code yb_writeLeaf kb_writeLeaf 6 (none) ∈ lw_g := List.mem_filter.mpr ⟨List.mem_append_right _ (List.mem_of_getElem? (i := 319) (by decide +kernel)), rfl⟩
abbrev kb_writeRoot : ByteArray := prog_1_method_58_code
def yb_writeRoot : MethodName := ⟨"LeafBook", "writeRoot", "(II)V"⟩
theorem mcb_writeRoot : Cond.code yb_writeRoot kb_writeRoot 9 (none) ∈ lw_g := List.mem_filter.mpr ⟨List.mem_append_right _ (List.mem_of_getElem? (i := 323) (by decide +kernel)), rfl⟩
abbrev kb_clearRoot : ByteArray := prog_1_method_59_code
def yb_clearRoot : MethodName := ⟨"LeafBook", "clearRoot", "(I)V"⟩
theorem mcb_clearRoot : Cond.code yb_clearRoot kb_clearRoot 4 (none) ∈ lw_g := List.mem_filter.mpr ⟨List.mem_append_right _ (List.mem_of_getElem? (i := 33) (by decide +kernel)), rfl⟩
abbrev kb_makeRootZeroAnew : ByteArray := prog_1_method_60_code
def yb_makeRootZeroAnew : MethodName := ⟨"LeafBook", "makeRootZeroAnew", "()V"⟩
theorem mcb_makeRootZeroAnew : Cond.code yb_makeRootZeroAnew kb_makeRootZeroAnew 1 (none) ∈ lw_g := List.mem_filter.mpr ⟨List.mem_append_right _ (List.mem_of_getElem? (i := 29) (by decide +kernel)), rfl⟩
abbrev kb_writtenWords : ByteArray := prog_1_method_61_code
def yb_writtenWords : MethodName := ⟨"LeafBook", "writtenWords", "()I"⟩
theorem mcb_writtenWords : Cond.code yb_writtenWords kb_writtenWords 1 (some .int) ∈ lw_g := List.mem_filter.mpr ⟨List.mem_append_right _ (List.mem_of_getElem? (i := 445) (by decide +kernel)), rfl⟩
abbrev kb_saveWordsBefore : ByteArray := prog_1_method_62_code
def yb_saveWordsBefore : MethodName := ⟨"LeafBook", "saveWordsBefore", "()V"⟩
theorem mcb_saveWordsBefore : Cond.code yb_saveWordsBefore kb_saveWordsBefore 2 (none) ∈ lw_g := List.mem_filter.mpr ⟨List.mem_append_right _ (List.mem_of_getElem? (i := 308) (by decide +kernel)), rfl⟩
abbrev kb_restoreFrom : ByteArray := prog_1_method_63_code
def yb_restoreFrom : MethodName := ⟨"LeafBook", "restoreFrom", "(I)V"⟩
theorem mcb_restoreFrom : Cond.code yb_restoreFrom kb_restoreFrom 5 (none) ∈ lw_g := List.mem_filter.mpr ⟨List.mem_append_right _ (List.mem_of_getElem? (i := 441) (by decide +kernel)), rfl⟩
abbrev kj_floorMod : ByteArray := prog_9_method_50_code
def yj_floorMod : MethodName := ⟨"java/lang/Math", "floorMod", "(II)I"⟩
theorem mcj_floorMod : Cond.code yj_floorMod kj_floorMod 3 (some .int) ∈ lw_g := List.mem_filter.mpr ⟨List.mem_append_right _ (List.mem_of_getElem? (i := 95) (by decide +kernel)), rfl⟩
abbrev kj_max : ByteArray := prog_9_method_65_code
def yj_max : MethodName := ⟨"java/lang/Math", "max", "(II)I"⟩
theorem mcj_max : Cond.code yj_max kj_max 2 (some .int) ∈ lw_g := List.mem_filter.mpr ⟨List.mem_append_right _ (List.mem_of_getElem? (i := 25) (by decide +kernel)), rfl⟩
abbrev kj_min : ByteArray := prog_9_method_69_code
def yj_min : MethodName := ⟨"java/lang/Math", "min", "(II)I"⟩
theorem mcj_min : Cond.code yj_min kj_min 2 (some .int) ∈ lw_g := List.mem_filter.mpr ⟨List.mem_append_right _ (List.mem_of_getElem? (i := 22) (by decide +kernel)), rfl⟩
theorem dj_floorMod_0 : decode kj_floorMod 0 = .ok (.iload_n 0, 1) := by decide +kernel
theorem dj_floorMod_1 : decode kj_floorMod 1 = .ok (.iload_n 1, 1) := by decide +kernel
theorem dj_floorMod_2 : decode kj_floorMod 2 = .ok (.irem, 1) := by decide +kernel
theorem dj_floorMod_3 : decode kj_floorMod 3 = .ok (.istore_n 2, 1) := by decide +kernel
theorem dj_floorMod_4 : decode kj_floorMod 4 = .ok (.iload_n 0, 1) := by decide +kernel
theorem dj_floorMod_5 : decode kj_floorMod 5 = .ok (.iload_n 1, 1) := by decide +kernel
theorem dj_floorMod_6 : decode kj_floorMod 6 = .ok (.ixor, 1) := by decide +kernel
theorem dj_floorMod_7 : decode kj_floorMod 7 = .ok (.ifCond .ge 11, 3) := by decide +kernel
theorem dj_floorMod_10 : decode kj_floorMod 10 = .ok (.iload_n 2, 1) := by decide +kernel
theorem dj_floorMod_11 : decode kj_floorMod 11 = .ok (.ifCond .eq 7, 3) := by decide +kernel
theorem dj_floorMod_14 : decode kj_floorMod 14 = .ok (.iload_n 2, 1) := by decide +kernel
theorem dj_floorMod_15 : decode kj_floorMod 15 = .ok (.iload_n 1, 1) := by decide +kernel
theorem dj_floorMod_16 : decode kj_floorMod 16 = .ok (.iadd, 1) := by decide +kernel
theorem dj_floorMod_17 : decode kj_floorMod 17 = .ok (.ireturn, 1) := by decide +kernel
theorem dj_floorMod_18 : decode kj_floorMod 18 = .ok (.iload_n 2, 1) := by decide +kernel
theorem dj_floorMod_19 : decode kj_floorMod 19 = .ok (.ireturn, 1) := by decide +kernel
theorem dj_max_0 : decode kj_max 0 = .ok (.iload_n 0, 1) := by decide +kernel
theorem dj_max_1 : decode kj_max 1 = .ok (.iload_n 1, 1) := by decide +kernel
theorem dj_max_2 : decode kj_max 2 = .ok (.if_icmp .lt 7, 3) := by decide +kernel
theorem dj_max_5 : decode kj_max 5 = .ok (.iload_n 0, 1) := by decide +kernel
theorem dj_max_6 : decode kj_max 6 = .ok (.goto 4, 3) := by decide +kernel
theorem dj_max_9 : decode kj_max 9 = .ok (.iload_n 1, 1) := by decide +kernel
theorem dj_max_10 : decode kj_max 10 = .ok (.ireturn, 1) := by decide +kernel
theorem dj_min_0 : decode kj_min 0 = .ok (.iload_n 0, 1) := by decide +kernel
theorem dj_min_1 : decode kj_min 1 = .ok (.iload_n 1, 1) := by decide +kernel
theorem dj_min_2 : decode kj_min 2 = .ok (.if_icmp .gt 7, 3) := by decide +kernel
theorem dj_min_5 : decode kj_min 5 = .ok (.iload_n 0, 1) := by decide +kernel
theorem dj_min_6 : decode kj_min 6 = .ok (.goto 4, 3) := by decide +kernel
theorem dj_min_9 : decode kj_min 9 = .ok (.iload_n 1, 1) := by decide +kernel
theorem dj_min_10 : decode kj_min 10 = .ok (.ireturn, 1) := by decide +kernel
abbrev kj_bitCount : ByteArray := prog_8_method_50_code
def yj_bitCount : MethodName := ⟨"java/lang/Long", "bitCount", "(J)I"⟩
theorem mcj_bitCount : Cond.code yj_bitCount kj_bitCount 2 (some .int) ∈ lw_g := List.mem_filter.mpr ⟨List.mem_append_right _ (List.mem_of_getElem? (i := 425) (by decide +kernel)), rfl⟩
theorem dj_bitCount_0 : decode kj_bitCount 0 = .ok (.lload_n 0, 1) := by decide +kernel
theorem dj_bitCount_1 : decode kj_bitCount 1 = .ok (.lload_n 0, 1) := by decide +kernel
theorem dj_bitCount_2 : decode kj_bitCount 2 = .ok (.iconst 1, 1) := by decide +kernel
theorem dj_bitCount_3 : decode kj_bitCount 3 = .ok (.lushr, 1) := by decide +kernel
theorem dj_bitCount_4 : decode kj_bitCount 4 = .ok (.ldc2_w 314, 3) := by decide +kernel
theorem dj_bitCount_7 : decode kj_bitCount 7 = .ok (.land, 1) := by decide +kernel
theorem dj_bitCount_8 : decode kj_bitCount 8 = .ok (.lsub, 1) := by decide +kernel
theorem dj_bitCount_9 : decode kj_bitCount 9 = .ok (.lstore_n 0, 1) := by decide +kernel
theorem dj_bitCount_10 : decode kj_bitCount 10 = .ok (.lload_n 0, 1) := by decide +kernel
theorem dj_bitCount_11 : decode kj_bitCount 11 = .ok (.ldc2_w 316, 3) := by decide +kernel
theorem dj_bitCount_14 : decode kj_bitCount 14 = .ok (.land, 1) := by decide +kernel
theorem dj_bitCount_15 : decode kj_bitCount 15 = .ok (.lload_n 0, 1) := by decide +kernel
theorem dj_bitCount_16 : decode kj_bitCount 16 = .ok (.iconst 2, 1) := by decide +kernel
theorem dj_bitCount_17 : decode kj_bitCount 17 = .ok (.lushr, 1) := by decide +kernel
theorem dj_bitCount_18 : decode kj_bitCount 18 = .ok (.ldc2_w 316, 3) := by decide +kernel
theorem dj_bitCount_21 : decode kj_bitCount 21 = .ok (.land, 1) := by decide +kernel
theorem dj_bitCount_22 : decode kj_bitCount 22 = .ok (.ladd, 1) := by decide +kernel
theorem dj_bitCount_23 : decode kj_bitCount 23 = .ok (.lstore_n 0, 1) := by decide +kernel
theorem dj_bitCount_24 : decode kj_bitCount 24 = .ok (.lload_n 0, 1) := by decide +kernel
theorem dj_bitCount_25 : decode kj_bitCount 25 = .ok (.lload_n 0, 1) := by decide +kernel
theorem dj_bitCount_26 : decode kj_bitCount 26 = .ok (.iconst 4, 1) := by decide +kernel
theorem dj_bitCount_27 : decode kj_bitCount 27 = .ok (.lushr, 1) := by decide +kernel
theorem dj_bitCount_28 : decode kj_bitCount 28 = .ok (.ladd, 1) := by decide +kernel
theorem dj_bitCount_29 : decode kj_bitCount 29 = .ok (.ldc2_w 318, 3) := by decide +kernel
theorem dj_bitCount_32 : decode kj_bitCount 32 = .ok (.land, 1) := by decide +kernel
theorem dj_bitCount_33 : decode kj_bitCount 33 = .ok (.lstore_n 0, 1) := by decide +kernel
theorem dj_bitCount_34 : decode kj_bitCount 34 = .ok (.lload_n 0, 1) := by decide +kernel
theorem dj_bitCount_35 : decode kj_bitCount 35 = .ok (.lload_n 0, 1) := by decide +kernel
theorem dj_bitCount_36 : decode kj_bitCount 36 = .ok (.bipush 8, 2) := by decide +kernel
theorem dj_bitCount_38 : decode kj_bitCount 38 = .ok (.lushr, 1) := by decide +kernel
theorem dj_bitCount_39 : decode kj_bitCount 39 = .ok (.ladd, 1) := by decide +kernel
theorem dj_bitCount_40 : decode kj_bitCount 40 = .ok (.lstore_n 0, 1) := by decide +kernel
theorem dj_bitCount_41 : decode kj_bitCount 41 = .ok (.lload_n 0, 1) := by decide +kernel
theorem dj_bitCount_42 : decode kj_bitCount 42 = .ok (.lload_n 0, 1) := by decide +kernel
theorem dj_bitCount_43 : decode kj_bitCount 43 = .ok (.bipush 16, 2) := by decide +kernel
theorem dj_bitCount_45 : decode kj_bitCount 45 = .ok (.lushr, 1) := by decide +kernel
theorem dj_bitCount_46 : decode kj_bitCount 46 = .ok (.ladd, 1) := by decide +kernel
theorem dj_bitCount_47 : decode kj_bitCount 47 = .ok (.lstore_n 0, 1) := by decide +kernel
theorem dj_bitCount_48 : decode kj_bitCount 48 = .ok (.lload_n 0, 1) := by decide +kernel
theorem dj_bitCount_49 : decode kj_bitCount 49 = .ok (.lload_n 0, 1) := by decide +kernel
theorem dj_bitCount_50 : decode kj_bitCount 50 = .ok (.bipush 32, 2) := by decide +kernel
theorem dj_bitCount_52 : decode kj_bitCount 52 = .ok (.lushr, 1) := by decide +kernel
theorem dj_bitCount_53 : decode kj_bitCount 53 = .ok (.ladd, 1) := by decide +kernel
theorem dj_bitCount_54 : decode kj_bitCount 54 = .ok (.lstore_n 0, 1) := by decide +kernel
theorem dj_bitCount_55 : decode kj_bitCount 55 = .ok (.lload_n 0, 1) := by decide +kernel
theorem dj_bitCount_56 : decode kj_bitCount 56 = .ok (.l2i, 1) := by decide +kernel
theorem dj_bitCount_57 : decode kj_bitCount 57 = .ok (.bipush 127, 2) := by decide +kernel
theorem dj_bitCount_59 : decode kj_bitCount 59 = .ok (.iand, 1) := by decide +kernel
theorem dj_bitCount_60 : decode kj_bitCount 60 = .ok (.ireturn, 1) := by decide +kernel
theorem fl_pageCount : Cond.fieldLink RB 18 "LeafBook" "pageCount" "I" ∈ lw_g := List.mem_filter.mpr ⟨List.mem_append_right _ (List.mem_of_getElem? (i := 38) (by decide +kernel)), rfl⟩
theorem fl_pages : Cond.fieldLink RB 22 "LeafBook" "pages" "[J" ∈ lw_g := List.mem_filter.mpr ⟨List.mem_append_right _ (List.mem_of_getElem? (i := 39) (by decide +kernel)), rfl⟩
theorem fl_roots : Cond.fieldLink RB 26 "LeafBook" "roots" "[J" ∈ lw_g := List.mem_filter.mpr ⟨List.mem_append_right _ (List.mem_of_getElem? (i := 40) (by decide +kernel)), rfl⟩
theorem fl_newest : Cond.fieldLink RB 52 "LeafBook" "newest" "I" ∈ lw_g := List.mem_filter.mpr ⟨List.mem_append_right _ (List.mem_of_getElem? (i := 41) (by decide +kernel)), rfl⟩
theorem fl_closed : Cond.fieldLink RB 135 "LeafBook" "closed" "Z" ∈ lw_g := List.mem_filter.mpr ⟨List.mem_append_right _ (List.mem_of_getElem? (i := 42) (by decide +kernel)), rfl⟩
theorem fl_canBeCut : Cond.fieldLink RB 121 "LeafBook" "canBeCut" "Z" ∈ lw_g := List.mem_filter.mpr ⟨List.mem_append_right _ (List.mem_of_getElem? (i := 43) (by decide +kernel)), rfl⟩
theorem fl_takenPages : Cond.fieldLink RB 29 "LeafBook" "takenPages" "[I" ∈ lw_g := List.mem_filter.mpr ⟨List.mem_append_right _ (List.mem_of_getElem? (i := 44) (by decide +kernel)), rfl⟩
theorem fl_takenCount : Cond.fieldLink RB 250 "LeafBook" "takenCount" "I" ∈ lw_g := List.mem_filter.mpr ⟨List.mem_append_right _ (List.mem_of_getElem? (i := 45) (by decide +kernel)), rfl⟩
theorem fl_writtenRoot : Cond.fieldLink RB 253 "LeafBook" "writtenRoot" "I" ∈ lw_g := List.mem_filter.mpr ⟨List.mem_append_right _ (List.mem_of_getElem? (i := 46) (by decide +kernel)), rfl⟩
theorem fl_wordsBefore : Cond.fieldLink RB 33 "LeafBook" "wordsBefore" "[J" ∈ lw_g := List.mem_filter.mpr ⟨List.mem_append_right _ (List.mem_of_getElem? (i := 47) (by decide +kernel)), rfl⟩
theorem fl_draftKeys : Cond.fieldLink RB 36 "LeafBook" "draftKeys" "[J" ∈ lw_g := List.mem_filter.mpr ⟨List.mem_append_right _ (List.mem_of_getElem? (i := 48) (by decide +kernel)), rfl⟩
theorem fl_draftValues : Cond.fieldLink RB 39 "LeafBook" "draftValues" "[J" ∈ lw_g := List.mem_filter.mpr ⟨List.mem_append_right _ (List.mem_of_getElem? (i := 49) (by decide +kernel)), rfl⟩
theorem fl_draftCount : Cond.fieldLink RB 233 "LeafBook" "draftCount" "I" ∈ lw_g := List.mem_filter.mpr ⟨List.mem_append_right _ (List.mem_of_getElem? (i := 50) (by decide +kernel)), rfl⟩
theorem ac_link : Cond.methodLink RB 272 arraycopyName ∈ lw_g := List.mem_filter.mpr ⟨List.mem_append_right _ (List.mem_of_getElem? (i := 309) (by decide +kernel)), rfl⟩
theorem ac_static : Cond.static arraycopyName ∈ lw_g := List.mem_filter.mpr ⟨List.mem_append_right _ (List.mem_of_getElem? (i := 310) (by decide +kernel)), rfl⟩
theorem ac_native : Cond.native arraycopyName ∈ lw_g := List.mem_filter.mpr ⟨List.mem_append_right _ (List.mem_of_getElem? (i := 311) (by decide +kernel)), rfl⟩
theorem ac_init : Cond.initialized "java/lang/System" ∈ lw_g := List.mem_filter.mpr ⟨List.mem_append_right _ (List.mem_of_getElem? (i := 9) (by decide +kernel)), rfl⟩
end
section
theorem db_put_0 : decode kb_put 0 = .ok (.aload_n 0, 1) := by decide +kernel
theorem db_put_1 : decode kb_put 1 = .ok (.invokevirtual 45, 3) := by decide +kernel
theorem db_put_4 : decode kb_put 4 = .ok (.aload_n 0, 1) := by decide +kernel
theorem db_put_5 : decode kb_put 5 = .ok (.iload_n 1, 1) := by decide +kernel
theorem db_put_6 : decode kb_put 6 = .ok (.invokevirtual 48, 3) := by decide +kernel
theorem db_put_9 : decode kb_put 9 = .ok (.aload_n 0, 1) := by decide +kernel
theorem db_put_10 : decode kb_put 10 = .ok (.getfield 52, 3) := by decide +kernel
theorem db_put_13 : decode kb_put 13 = .ok (.invokestatic 55, 3) := by decide +kernel
theorem db_put_16 : decode kb_put 16 = .ok (.istore 4, 2) := by decide +kernel
theorem db_put_18 : decode kb_put 18 = .ok (.aload_n 0, 1) := by decide +kernel
theorem db_put_19 : decode kb_put 19 = .ok (.iload 4, 2) := by decide +kernel
theorem db_put_21 : decode kb_put 21 = .ok (.iload_n 1, 1) := by decide +kernel
theorem db_put_22 : decode kb_put 22 = .ok (.invokevirtual 59, 3) := by decide +kernel
theorem db_put_25 : decode kb_put 25 = .ok (.istore 5, 2) := by decide +kernel
theorem db_put_27 : decode kb_put 27 = .ok (.aload_n 0, 1) := by decide +kernel
theorem db_put_28 : decode kb_put 28 = .ok (.iload 4, 2) := by decide +kernel
theorem db_put_30 : decode kb_put 30 = .ok (.iload 5, 2) := by decide +kernel
theorem db_put_32 : decode kb_put 32 = .ok (.invokevirtual 62, 3) := by decide +kernel
theorem db_put_35 : decode kb_put 35 = .ok (.aload_n 0, 1) := by decide +kernel
theorem db_put_36 : decode kb_put 36 = .ok (.iload_n 1, 1) := by decide +kernel
theorem db_put_37 : decode kb_put 37 = .ok (.lload_n 2, 1) := by decide +kernel
theorem db_put_38 : decode kb_put 38 = .ok (.invokevirtual 66, 3) := by decide +kernel
theorem db_put_41 : decode kb_put 41 = .ok (.aload_n 0, 1) := by decide +kernel
theorem db_put_42 : decode kb_put 42 = .ok (.iload 4, 2) := by decide +kernel
theorem db_put_44 : decode kb_put 44 = .ok (.iload 5, 2) := by decide +kernel
theorem db_put_46 : decode kb_put 46 = .ok (.invokevirtual 70, 3) := by decide +kernel
theorem db_put_49 : decode kb_put 49 = .ok (.ireturn, 1) := by decide +kernel
theorem db_drop_0 : decode kb_drop 0 = .ok (.aload_n 0, 1) := by decide +kernel
theorem db_drop_1 : decode kb_drop 1 = .ok (.invokevirtual 45, 3) := by decide +kernel
theorem db_drop_4 : decode kb_drop 4 = .ok (.aload_n 0, 1) := by decide +kernel
theorem db_drop_5 : decode kb_drop 5 = .ok (.iload_n 1, 1) := by decide +kernel
theorem db_drop_6 : decode kb_drop 6 = .ok (.invokevirtual 48, 3) := by decide +kernel
theorem db_drop_9 : decode kb_drop 9 = .ok (.aload_n 0, 1) := by decide +kernel
theorem db_drop_10 : decode kb_drop 10 = .ok (.getfield 52, 3) := by decide +kernel
theorem db_drop_13 : decode kb_drop 13 = .ok (.invokestatic 55, 3) := by decide +kernel
theorem db_drop_16 : decode kb_drop 16 = .ok (.istore_n 2, 1) := by decide +kernel
theorem db_drop_17 : decode kb_drop 17 = .ok (.aload_n 0, 1) := by decide +kernel
theorem db_drop_18 : decode kb_drop 18 = .ok (.iload_n 2, 1) := by decide +kernel
theorem db_drop_19 : decode kb_drop 19 = .ok (.iload_n 1, 1) := by decide +kernel
theorem db_drop_20 : decode kb_drop 20 = .ok (.invokevirtual 59, 3) := by decide +kernel
theorem db_drop_23 : decode kb_drop 23 = .ok (.istore_n 3, 1) := by decide +kernel
theorem db_drop_24 : decode kb_drop 24 = .ok (.aload_n 0, 1) := by decide +kernel
theorem db_drop_25 : decode kb_drop 25 = .ok (.iload_n 2, 1) := by decide +kernel
theorem db_drop_26 : decode kb_drop 26 = .ok (.iload_n 3, 1) := by decide +kernel
theorem db_drop_27 : decode kb_drop 27 = .ok (.invokevirtual 62, 3) := by decide +kernel
theorem db_drop_30 : decode kb_drop 30 = .ok (.aload_n 0, 1) := by decide +kernel
theorem db_drop_31 : decode kb_drop 31 = .ok (.iload_n 1, 1) := by decide +kernel
theorem db_drop_32 : decode kb_drop 32 = .ok (.invokevirtual 73, 3) := by decide +kernel
theorem db_drop_35 : decode kb_drop 35 = .ok (.ifCond .ne 5, 3) := by decide +kernel
theorem db_drop_38 : decode kb_drop 38 = .ok (.iconst 0, 1) := by decide +kernel
theorem db_drop_39 : decode kb_drop 39 = .ok (.ireturn, 1) := by decide +kernel
theorem db_drop_40 : decode kb_drop 40 = .ok (.aload_n 0, 1) := by decide +kernel
theorem db_drop_41 : decode kb_drop 41 = .ok (.iload_n 2, 1) := by decide +kernel
theorem db_drop_42 : decode kb_drop 42 = .ok (.iload_n 3, 1) := by decide +kernel
theorem db_drop_43 : decode kb_drop 43 = .ok (.invokevirtual 70, 3) := by decide +kernel
theorem db_drop_46 : decode kb_drop 46 = .ok (.ireturn, 1) := by decide +kernel
theorem db_version_0 : decode kb_version 0 = .ok (.aload_n 0, 1) := by decide +kernel
theorem db_version_1 : decode kb_version 1 = .ok (.invokevirtual 77, 3) := by decide +kernel
theorem db_version_4 : decode kb_version 4 = .ok (.aload_n 0, 1) := by decide +kernel
theorem db_version_5 : decode kb_version 5 = .ok (.getfield 52, 3) := by decide +kernel
theorem db_version_8 : decode kb_version 8 = .ok (.ireturn, 1) := by decide +kernel
theorem db_has_0 : decode kb_has 0 = .ok (.aload_n 0, 1) := by decide +kernel
theorem db_has_1 : decode kb_has 1 = .ok (.invokevirtual 77, 3) := by decide +kernel
theorem db_has_4 : decode kb_has 4 = .ok (.aload_n 0, 1) := by decide +kernel
theorem db_has_5 : decode kb_has 5 = .ok (.iload_n 1, 1) := by decide +kernel
theorem db_has_6 : decode kb_has 6 = .ok (.invokevirtual 80, 3) := by decide +kernel
theorem db_has_9 : decode kb_has 9 = .ok (.aload_n 0, 1) := by decide +kernel
theorem db_has_10 : decode kb_has 10 = .ok (.iload_n 1, 1) := by decide +kernel
theorem db_has_11 : decode kb_has 11 = .ok (.invokestatic 55, 3) := by decide +kernel
theorem db_has_14 : decode kb_has 14 = .ok (.iload_n 2, 1) := by decide +kernel
theorem db_has_15 : decode kb_has 15 = .ok (.invokevirtual 83, 3) := by decide +kernel
theorem db_has_18 : decode kb_has 18 = .ok (.iconst (-1), 1) := by decide +kernel
theorem db_has_19 : decode kb_has 19 = .ok (.if_icmp .eq 7, 3) := by decide +kernel
theorem db_has_22 : decode kb_has 22 = .ok (.iconst 1, 1) := by decide +kernel
theorem db_has_23 : decode kb_has 23 = .ok (.goto 4, 3) := by decide +kernel
theorem db_has_26 : decode kb_has 26 = .ok (.iconst 0, 1) := by decide +kernel
theorem db_has_27 : decode kb_has 27 = .ok (.ireturn, 1) := by decide +kernel
theorem db_find_0 : decode kb_find 0 = .ok (.aload_n 0, 1) := by decide +kernel
theorem db_find_1 : decode kb_find 1 = .ok (.invokevirtual 77, 3) := by decide +kernel
theorem db_find_4 : decode kb_find 4 = .ok (.aload_n 0, 1) := by decide +kernel
theorem db_find_5 : decode kb_find 5 = .ok (.iload_n 1, 1) := by decide +kernel
theorem db_find_6 : decode kb_find 6 = .ok (.invokevirtual 80, 3) := by decide +kernel
theorem db_find_9 : decode kb_find 9 = .ok (.aload_n 0, 1) := by decide +kernel
theorem db_find_10 : decode kb_find 10 = .ok (.iload_n 1, 1) := by decide +kernel
theorem db_find_11 : decode kb_find 11 = .ok (.invokestatic 55, 3) := by decide +kernel
theorem db_find_14 : decode kb_find 14 = .ok (.iload_n 2, 1) := by decide +kernel
theorem db_find_15 : decode kb_find 15 = .ok (.invokevirtual 83, 3) := by decide +kernel
theorem db_find_18 : decode kb_find 18 = .ok (.istore_n 3, 1) := by decide +kernel
theorem db_find_19 : decode kb_find 19 = .ok (.iload_n 3, 1) := by decide +kernel
theorem db_find_20 : decode kb_find 20 = .ok (.iconst (-1), 1) := by decide +kernel
theorem db_find_21 : decode kb_find 21 = .ok (.if_icmp .ne 7, 3) := by decide +kernel
theorem db_find_24 : decode kb_find 24 = .ok (.lconst 0, 1) := by decide +kernel
theorem db_find_25 : decode kb_find 25 = .ok (.goto 11, 3) := by decide +kernel
theorem db_find_28 : decode kb_find 28 = .ok (.aload_n 0, 1) := by decide +kernel
theorem db_find_29 : decode kb_find 29 = .ok (.getfield 22, 3) := by decide +kernel
theorem db_find_32 : decode kb_find 32 = .ok (.iload_n 3, 1) := by decide +kernel
theorem db_find_33 : decode kb_find 33 = .ok (.iconst 1, 1) := by decide +kernel
theorem db_find_34 : decode kb_find 34 = .ok (.iadd, 1) := by decide +kernel
theorem db_find_35 : decode kb_find 35 = .ok (.laload, 1) := by decide +kernel
theorem db_find_36 : decode kb_find 36 = .ok (.lreturn, 1) := by decide +kernel
theorem db_count_0 : decode kb_count 0 = .ok (.aload_n 0, 1) := by decide +kernel
theorem db_count_1 : decode kb_count 1 = .ok (.invokevirtual 77, 3) := by decide +kernel
theorem db_count_4 : decode kb_count 4 = .ok (.aload_n 0, 1) := by decide +kernel
theorem db_count_5 : decode kb_count 5 = .ok (.iload_n 1, 1) := by decide +kernel
theorem db_count_6 : decode kb_count 6 = .ok (.invokevirtual 80, 3) := by decide +kernel
theorem db_count_9 : decode kb_count 9 = .ok (.iload_n 2, 1) := by decide +kernel
theorem db_count_10 : decode kb_count 10 = .ok (.ifCond .eq 18, 3) := by decide +kernel
theorem db_count_13 : decode kb_count 13 = .ok (.iload_n 2, 1) := by decide +kernel
theorem db_count_14 : decode kb_count 14 = .ok (.iconst 1, 1) := by decide +kernel
theorem db_count_15 : decode kb_count 15 = .ok (.if_icmp .eq 13, 3) := by decide +kernel
theorem db_count_18 : decode kb_count 18 = .ok (.new 86, 3) := by decide +kernel
theorem db_count_21 : decode kb_count 21 = .ok (.dup, 1) := by decide +kernel
theorem db_count_22 : decode kb_count 22 = .ok (.ldc 88, 2) := by decide +kernel
theorem db_count_24 : decode kb_count 24 = .ok (.invokespecial 90, 3) := by decide +kernel
theorem db_count_27 : decode kb_count 27 = .ok (.athrow, 1) := by decide +kernel
theorem db_count_28 : decode kb_count 28 = .ok (.iload_n 1, 1) := by decide +kernel
theorem db_count_29 : decode kb_count 29 = .ok (.invokestatic 55, 3) := by decide +kernel
theorem db_count_32 : decode kb_count 32 = .ok (.istore_n 3, 1) := by decide +kernel
theorem db_count_33 : decode kb_count 33 = .ok (.iload_n 2, 1) := by decide +kernel
theorem db_count_34 : decode kb_count 34 = .ok (.ifCond .ne 11, 3) := by decide +kernel
theorem db_count_37 : decode kb_count 37 = .ok (.aload_n 0, 1) := by decide +kernel
theorem db_count_38 : decode kb_count 38 = .ok (.iload_n 3, 1) := by decide +kernel
theorem db_count_39 : decode kb_count 39 = .ok (.invokevirtual 93, 3) := by decide +kernel
theorem db_count_42 : decode kb_count 42 = .ok (.goto 8, 3) := by decide +kernel
theorem db_count_45 : decode kb_count 45 = .ok (.aload_n 0, 1) := by decide +kernel
theorem db_count_46 : decode kb_count 46 = .ok (.iload_n 3, 1) := by decide +kernel
theorem db_count_47 : decode kb_count 47 = .ok (.invokevirtual 96, 3) := by decide +kernel
theorem db_count_50 : decode kb_count 50 = .ok (.ireturn, 1) := by decide +kernel
theorem db_key_0 : decode kb_key 0 = .ok (.aload_n 0, 1) := by decide +kernel
theorem db_key_1 : decode kb_key 1 = .ok (.invokevirtual 77, 3) := by decide +kernel
theorem db_key_4 : decode kb_key 4 = .ok (.aload_n 0, 1) := by decide +kernel
theorem db_key_5 : decode kb_key 5 = .ok (.iload_n 1, 1) := by decide +kernel
theorem db_key_6 : decode kb_key 6 = .ok (.invokevirtual 80, 3) := by decide +kernel
theorem db_key_9 : decode kb_key 9 = .ok (.aload_n 0, 1) := by decide +kernel
theorem db_key_10 : decode kb_key 10 = .ok (.iload_n 1, 1) := by decide +kernel
theorem db_key_11 : decode kb_key 11 = .ok (.invokestatic 55, 3) := by decide +kernel
theorem db_key_14 : decode kb_key 14 = .ok (.iload_n 2, 1) := by decide +kernel
theorem db_key_15 : decode kb_key 15 = .ok (.invokevirtual 99, 3) := by decide +kernel
theorem db_key_18 : decode kb_key 18 = .ok (.istore_n 3, 1) := by decide +kernel
theorem db_key_19 : decode kb_key 19 = .ok (.iload_n 3, 1) := by decide +kernel
theorem db_key_20 : decode kb_key 20 = .ok (.iconst (-1), 1) := by decide +kernel
theorem db_key_21 : decode kb_key 21 = .ok (.if_icmp .ne 13, 3) := by decide +kernel
theorem db_key_24 : decode kb_key 24 = .ok (.new 102, 3) := by decide +kernel
theorem db_key_27 : decode kb_key 27 = .ok (.dup, 1) := by decide +kernel
theorem db_key_28 : decode kb_key 28 = .ok (.ldc 104, 2) := by decide +kernel
theorem db_key_30 : decode kb_key 30 = .ok (.invokespecial 106, 3) := by decide +kernel
theorem db_key_33 : decode kb_key 33 = .ok (.athrow, 1) := by decide +kernel
theorem db_key_34 : decode kb_key 34 = .ok (.aload_n 0, 1) := by decide +kernel
theorem db_key_35 : decode kb_key 35 = .ok (.getfield 22, 3) := by decide +kernel
theorem db_key_38 : decode kb_key 38 = .ok (.iload_n 3, 1) := by decide +kernel
theorem db_key_39 : decode kb_key 39 = .ok (.laload, 1) := by decide +kernel
theorem db_key_40 : decode kb_key 40 = .ok (.l2i, 1) := by decide +kernel
theorem db_key_41 : decode kb_key 41 = .ok (.ireturn, 1) := by decide +kernel
theorem db_same_0 : decode kb_same 0 = .ok (.aload_n 0, 1) := by decide +kernel
theorem db_same_1 : decode kb_same 1 = .ok (.invokevirtual 77, 3) := by decide +kernel
theorem db_same_4 : decode kb_same 4 = .ok (.aload_n 0, 1) := by decide +kernel
theorem db_same_5 : decode kb_same 5 = .ok (.iload_n 1, 1) := by decide +kernel
theorem db_same_6 : decode kb_same 6 = .ok (.invokevirtual 80, 3) := by decide +kernel
theorem db_same_9 : decode kb_same 9 = .ok (.aload_n 0, 1) := by decide +kernel
theorem db_same_10 : decode kb_same 10 = .ok (.iload_n 2, 1) := by decide +kernel
theorem db_same_11 : decode kb_same 11 = .ok (.invokevirtual 80, 3) := by decide +kernel
theorem db_same_14 : decode kb_same 14 = .ok (.aload_n 0, 1) := by decide +kernel
theorem db_same_15 : decode kb_same 15 = .ok (.iload_n 1, 1) := by decide +kernel
theorem db_same_16 : decode kb_same 16 = .ok (.invokestatic 55, 3) := by decide +kernel
theorem db_same_19 : decode kb_same 19 = .ok (.iload_n 2, 1) := by decide +kernel
theorem db_same_20 : decode kb_same 20 = .ok (.invokestatic 55, 3) := by decide +kernel
theorem db_same_23 : decode kb_same 23 = .ok (.invokevirtual 107, 3) := by decide +kernel
theorem db_same_26 : decode kb_same 26 = .ok (.ireturn, 1) := by decide +kernel
theorem db_free_0 : decode kb_free 0 = .ok (.aload_n 0, 1) := by decide +kernel
theorem db_free_1 : decode kb_free 1 = .ok (.invokevirtual 77, 3) := by decide +kernel
theorem db_free_4 : decode kb_free 4 = .ok (.aload_n 0, 1) := by decide +kernel
theorem db_free_5 : decode kb_free 5 = .ok (.getfield 18, 3) := by decide +kernel
theorem db_free_8 : decode kb_free 8 = .ok (.aload_n 0, 1) := by decide +kernel
theorem db_free_9 : decode kb_free 9 = .ok (.invokevirtual 111, 3) := by decide +kernel
theorem db_free_12 : decode kb_free 12 = .ok (.invokestatic 115, 3) := by decide +kernel
theorem db_free_15 : decode kb_free 15 = .ok (.isub, 1) := by decide +kernel
theorem db_free_16 : decode kb_free 16 = .ok (.ireturn, 1) := by decide +kernel
theorem db_crash_0 : decode kb_crash 0 = .ok (.aload_n 0, 1) := by decide +kernel
theorem db_crash_1 : decode kb_crash 1 = .ok (.invokevirtual 77, 3) := by decide +kernel
theorem db_crash_4 : decode kb_crash 4 = .ok (.aload_n 0, 1) := by decide +kernel
theorem db_crash_5 : decode kb_crash 5 = .ok (.getfield 121, 3) := by decide +kernel
theorem db_crash_8 : decode kb_crash 8 = .ok (.ifCond .ne 13, 3) := by decide +kernel
theorem db_crash_11 : decode kb_crash 11 = .ok (.new 125, 3) := by decide +kernel
theorem db_crash_14 : decode kb_crash 14 = .ok (.dup, 1) := by decide +kernel
theorem db_crash_15 : decode kb_crash 15 = .ok (.ldc 127, 2) := by decide +kernel
theorem db_crash_17 : decode kb_crash 17 = .ok (.invokespecial 129, 3) := by decide +kernel
theorem db_crash_20 : decode kb_crash 20 = .ok (.athrow, 1) := by decide +kernel
theorem db_crash_21 : decode kb_crash 21 = .ok (.iload_n 1, 1) := by decide +kernel
theorem db_crash_22 : decode kb_crash 22 = .ok (.ifCond .ge 13, 3) := by decide +kernel
theorem db_crash_25 : decode kb_crash 25 = .ok (.new 86, 3) := by decide +kernel
theorem db_crash_28 : decode kb_crash 28 = .ok (.dup, 1) := by decide +kernel
theorem db_crash_29 : decode kb_crash 29 = .ok (.ldc 130, 2) := by decide +kernel
theorem db_crash_31 : decode kb_crash 31 = .ok (.invokespecial 90, 3) := by decide +kernel
theorem db_crash_34 : decode kb_crash 34 = .ok (.athrow, 1) := by decide +kernel
theorem db_crash_35 : decode kb_crash 35 = .ok (.aload_n 0, 1) := by decide +kernel
theorem db_crash_36 : decode kb_crash 36 = .ok (.iload_n 1, 1) := by decide +kernel
theorem db_crash_37 : decode kb_crash 37 = .ok (.invokevirtual 132, 3) := by decide +kernel
theorem db_crash_40 : decode kb_crash 40 = .ok (.aload_n 0, 1) := by decide +kernel
theorem db_crash_41 : decode kb_crash 41 = .ok (.iconst 1, 1) := by decide +kernel
theorem db_crash_42 : decode kb_crash 42 = .ok (.putfield 135, 3) := by decide +kernel
theorem db_crash_45 : decode kb_crash 45 = .ok (.aload_n 0, 1) := by decide +kernel
theorem db_crash_46 : decode kb_crash 46 = .ok (.invokevirtual 138, 3) := by decide +kernel
theorem db_crash_49 : decode kb_crash 49 = .ok (.ireturn, 1) := by decide +kernel
theorem db_reopen_0 : decode kb_reopen 0 = .ok (.aload_n 0, 1) := by decide +kernel
theorem db_reopen_1 : decode kb_reopen 1 = .ok (.invokevirtual 142, 3) := by decide +kernel
theorem db_reopen_4 : decode kb_reopen 4 = .ok (.istore_n 1, 1) := by decide +kernel
theorem db_reopen_5 : decode kb_reopen 5 = .ok (.iload_n 1, 1) := by decide +kernel
theorem db_reopen_6 : decode kb_reopen 6 = .ok (.iconst (-1), 1) := by decide +kernel
theorem db_reopen_7 : decode kb_reopen 7 = .ok (.if_icmp .ne 9, 3) := by decide +kernel
theorem db_reopen_10 : decode kb_reopen 10 = .ok (.aload_n 0, 1) := by decide +kernel
theorem db_reopen_11 : decode kb_reopen 11 = .ok (.invokevirtual 42, 3) := by decide +kernel
theorem db_reopen_14 : decode kb_reopen 14 = .ok (.iconst 0, 1) := by decide +kernel
theorem db_reopen_15 : decode kb_reopen 15 = .ok (.istore_n 1, 1) := by decide +kernel
theorem db_reopen_16 : decode kb_reopen 16 = .ok (.aload_n 0, 1) := by decide +kernel
theorem db_reopen_17 : decode kb_reopen 17 = .ok (.iload_n 1, 1) := by decide +kernel
theorem db_reopen_18 : decode kb_reopen 18 = .ok (.putfield 52, 3) := by decide +kernel
theorem db_reopen_21 : decode kb_reopen 21 = .ok (.aload_n 0, 1) := by decide +kernel
theorem db_reopen_22 : decode kb_reopen 22 = .ok (.iconst 0, 1) := by decide +kernel
theorem db_reopen_23 : decode kb_reopen 23 = .ok (.putfield 135, 3) := by decide +kernel
theorem db_reopen_26 : decode kb_reopen 26 = .ok (.aload_n 0, 1) := by decide +kernel
theorem db_reopen_27 : decode kb_reopen 27 = .ok (.iconst 0, 1) := by decide +kernel
theorem db_reopen_28 : decode kb_reopen 28 = .ok (.putfield 121, 3) := by decide +kernel
theorem db_reopen_31 : decode kb_reopen 31 = .ok (.aload_n 0, 1) := by decide +kernel
theorem db_reopen_32 : decode kb_reopen 32 = .ok (.getfield 52, 3) := by decide +kernel
theorem db_reopen_35 : decode kb_reopen 35 = .ok (.ireturn, 1) := by decide +kernel
theorem db_wordAt_0 : decode kb_wordAt 0 = .ok (.aload_n 0, 1) := by decide +kernel
theorem db_wordAt_1 : decode kb_wordAt 1 = .ok (.iload_n 1, 1) := by decide +kernel
theorem db_wordAt_2 : decode kb_wordAt 2 = .ok (.iload_n 2, 1) := by decide +kernel
theorem db_wordAt_3 : decode kb_wordAt 3 = .ok (.invokevirtual 145, 3) := by decide +kernel
theorem db_wordAt_6 : decode kb_wordAt 6 = .ok (.aload_n 0, 1) := by decide +kernel
theorem db_wordAt_7 : decode kb_wordAt 7 = .ok (.getfield 22, 3) := by decide +kernel
theorem db_wordAt_10 : decode kb_wordAt 10 = .ok (.iload_n 1, 1) := by decide +kernel
theorem db_wordAt_11 : decode kb_wordAt 11 = .ok (.bipush 16, 2) := by decide +kernel
theorem db_wordAt_13 : decode kb_wordAt 13 = .ok (.imul, 1) := by decide +kernel
theorem db_wordAt_14 : decode kb_wordAt 14 = .ok (.iload_n 2, 1) := by decide +kernel
theorem db_wordAt_15 : decode kb_wordAt 15 = .ok (.iadd, 1) := by decide +kernel
theorem db_wordAt_16 : decode kb_wordAt 16 = .ok (.laload, 1) := by decide +kernel
theorem db_wordAt_17 : decode kb_wordAt 17 = .ok (.lreturn, 1) := by decide +kernel
theorem db_rootAt_0 : decode kb_rootAt 0 = .ok (.aload_n 0, 1) := by decide +kernel
theorem db_rootAt_1 : decode kb_rootAt 1 = .ok (.iload_n 1, 1) := by decide +kernel
theorem db_rootAt_2 : decode kb_rootAt 2 = .ok (.iload_n 2, 1) := by decide +kernel
theorem db_rootAt_3 : decode kb_rootAt 3 = .ok (.invokevirtual 148, 3) := by decide +kernel
theorem db_rootAt_6 : decode kb_rootAt 6 = .ok (.aload_n 0, 1) := by decide +kernel
theorem db_rootAt_7 : decode kb_rootAt 7 = .ok (.getfield 26, 3) := by decide +kernel
theorem db_rootAt_10 : decode kb_rootAt 10 = .ok (.iload_n 1, 1) := by decide +kernel
theorem db_rootAt_11 : decode kb_rootAt 11 = .ok (.bipush 20, 2) := by decide +kernel
theorem db_rootAt_13 : decode kb_rootAt 13 = .ok (.imul, 1) := by decide +kernel
theorem db_rootAt_14 : decode kb_rootAt 14 = .ok (.iload_n 2, 1) := by decide +kernel
theorem db_rootAt_15 : decode kb_rootAt 15 = .ok (.iadd, 1) := by decide +kernel
theorem db_rootAt_16 : decode kb_rootAt 16 = .ok (.laload, 1) := by decide +kernel
theorem db_rootAt_17 : decode kb_rootAt 17 = .ok (.lreturn, 1) := by decide +kernel
theorem db_poke_0 : decode kb_poke 0 = .ok (.aload_n 0, 1) := by decide +kernel
theorem db_poke_1 : decode kb_poke 1 = .ok (.iload_n 1, 1) := by decide +kernel
theorem db_poke_2 : decode kb_poke 2 = .ok (.iload_n 2, 1) := by decide +kernel
theorem db_poke_3 : decode kb_poke 3 = .ok (.invokevirtual 145, 3) := by decide +kernel
theorem db_poke_6 : decode kb_poke 6 = .ok (.aload_n 0, 1) := by decide +kernel
theorem db_poke_7 : decode kb_poke 7 = .ok (.lload_n 3, 1) := by decide +kernel
theorem db_poke_8 : decode kb_poke 8 = .ok (.invokevirtual 151, 3) := by decide +kernel
theorem db_poke_11 : decode kb_poke 11 = .ok (.aload_n 0, 1) := by decide +kernel
theorem db_poke_12 : decode kb_poke 12 = .ok (.getfield 22, 3) := by decide +kernel
theorem db_poke_15 : decode kb_poke 15 = .ok (.iload_n 1, 1) := by decide +kernel
theorem db_poke_16 : decode kb_poke 16 = .ok (.bipush 16, 2) := by decide +kernel
theorem db_poke_18 : decode kb_poke 18 = .ok (.imul, 1) := by decide +kernel
theorem db_poke_19 : decode kb_poke 19 = .ok (.iload_n 2, 1) := by decide +kernel
theorem db_poke_20 : decode kb_poke 20 = .ok (.iadd, 1) := by decide +kernel
theorem db_poke_21 : decode kb_poke 21 = .ok (.dup2, 1) := by decide +kernel
theorem db_poke_22 : decode kb_poke 22 = .ok (.laload, 1) := by decide +kernel
theorem db_poke_23 : decode kb_poke 23 = .ok (.lload_n 3, 1) := by decide +kernel
theorem db_poke_24 : decode kb_poke 24 = .ok (.lxor, 1) := by decide +kernel
theorem db_poke_25 : decode kb_poke 25 = .ok (.lastore, 1) := by decide +kernel
theorem db_poke_26 : decode kb_poke 26 = .ok (.aload_n 0, 1) := by decide +kernel
theorem db_poke_27 : decode kb_poke 27 = .ok (.iconst 0, 1) := by decide +kernel
theorem db_poke_28 : decode kb_poke 28 = .ok (.putfield 121, 3) := by decide +kernel
theorem db_poke_31 : decode kb_poke 31 = .ok (.return_, 1) := by decide +kernel
theorem db_pokeRoot_0 : decode kb_pokeRoot 0 = .ok (.aload_n 0, 1) := by decide +kernel
theorem db_pokeRoot_1 : decode kb_pokeRoot 1 = .ok (.iload_n 1, 1) := by decide +kernel
theorem db_pokeRoot_2 : decode kb_pokeRoot 2 = .ok (.iload_n 2, 1) := by decide +kernel
theorem db_pokeRoot_3 : decode kb_pokeRoot 3 = .ok (.invokevirtual 148, 3) := by decide +kernel
theorem db_pokeRoot_6 : decode kb_pokeRoot 6 = .ok (.aload_n 0, 1) := by decide +kernel
theorem db_pokeRoot_7 : decode kb_pokeRoot 7 = .ok (.lload_n 3, 1) := by decide +kernel
theorem db_pokeRoot_8 : decode kb_pokeRoot 8 = .ok (.invokevirtual 151, 3) := by decide +kernel
theorem db_pokeRoot_11 : decode kb_pokeRoot 11 = .ok (.aload_n 0, 1) := by decide +kernel
theorem db_pokeRoot_12 : decode kb_pokeRoot 12 = .ok (.getfield 26, 3) := by decide +kernel
theorem db_pokeRoot_15 : decode kb_pokeRoot 15 = .ok (.iload_n 1, 1) := by decide +kernel
theorem db_pokeRoot_16 : decode kb_pokeRoot 16 = .ok (.bipush 20, 2) := by decide +kernel
theorem db_pokeRoot_18 : decode kb_pokeRoot 18 = .ok (.imul, 1) := by decide +kernel
theorem db_pokeRoot_19 : decode kb_pokeRoot 19 = .ok (.iload_n 2, 1) := by decide +kernel
theorem db_pokeRoot_20 : decode kb_pokeRoot 20 = .ok (.iadd, 1) := by decide +kernel
theorem db_pokeRoot_21 : decode kb_pokeRoot 21 = .ok (.dup2, 1) := by decide +kernel
theorem db_pokeRoot_22 : decode kb_pokeRoot 22 = .ok (.laload, 1) := by decide +kernel
theorem db_pokeRoot_23 : decode kb_pokeRoot 23 = .ok (.lload_n 3, 1) := by decide +kernel
theorem db_pokeRoot_24 : decode kb_pokeRoot 24 = .ok (.lxor, 1) := by decide +kernel
theorem db_pokeRoot_25 : decode kb_pokeRoot 25 = .ok (.lastore, 1) := by decide +kernel
theorem db_pokeRoot_26 : decode kb_pokeRoot 26 = .ok (.aload_n 0, 1) := by decide +kernel
theorem db_pokeRoot_27 : decode kb_pokeRoot 27 = .ok (.iconst 0, 1) := by decide +kernel
theorem db_pokeRoot_28 : decode kb_pokeRoot 28 = .ok (.putfield 121, 3) := by decide +kernel
theorem db_pokeRoot_31 : decode kb_pokeRoot 31 = .ok (.return_, 1) := by decide +kernel
theorem db_badAt_0 : decode kb_badAt 0 = .ok (.aload_n 0, 1) := by decide +kernel
theorem db_badAt_1 : decode kb_badAt 1 = .ok (.invokevirtual 111, 3) := by decide +kernel
theorem db_badAt_4 : decode kb_badAt 4 = .ok (.lstore_n 1, 1) := by decide +kernel
theorem db_badAt_5 : decode kb_badAt 5 = .ok (.iconst 0, 1) := by decide +kernel
theorem db_badAt_6 : decode kb_badAt 6 = .ok (.istore_n 3, 1) := by decide +kernel
theorem db_badAt_7 : decode kb_badAt 7 = .ok (.iload_n 3, 1) := by decide +kernel
theorem db_badAt_8 : decode kb_badAt 8 = .ok (.aload_n 0, 1) := by decide +kernel
theorem db_badAt_9 : decode kb_badAt 9 = .ok (.getfield 18, 3) := by decide +kernel
theorem db_badAt_12 : decode kb_badAt 12 = .ok (.if_icmp .ge 27, 3) := by decide +kernel
theorem db_badAt_15 : decode kb_badAt 15 = .ok (.lload_n 1, 1) := by decide +kernel
theorem db_badAt_16 : decode kb_badAt 16 = .ok (.iload_n 3, 1) := by decide +kernel
theorem db_badAt_17 : decode kb_badAt 17 = .ok (.invokestatic 155, 3) := by decide +kernel
theorem db_badAt_20 : decode kb_badAt 20 = .ok (.ifCond .eq 13, 3) := by decide +kernel
theorem db_badAt_23 : decode kb_badAt 23 = .ok (.aload_n 0, 1) := by decide +kernel
theorem db_badAt_24 : decode kb_badAt 24 = .ok (.iload_n 3, 1) := by decide +kernel
theorem db_badAt_25 : decode kb_badAt 25 = .ok (.invokevirtual 159, 3) := by decide +kernel
theorem db_badAt_28 : decode kb_badAt 28 = .ok (.ifCond .ne 5, 3) := by decide +kernel
theorem db_badAt_31 : decode kb_badAt 31 = .ok (.iload_n 3, 1) := by decide +kernel
theorem db_badAt_32 : decode kb_badAt 32 = .ok (.ireturn, 1) := by decide +kernel
theorem db_badAt_33 : decode kb_badAt 33 = .ok (.iinc 3 1, 3) := by decide +kernel
theorem db_badAt_36 : decode kb_badAt 36 = .ok (.goto (-29), 3) := by decide +kernel
theorem db_badAt_39 : decode kb_badAt 39 = .ok (.iconst 0, 1) := by decide +kernel
theorem db_badAt_40 : decode kb_badAt 40 = .ok (.istore_n 3, 1) := by decide +kernel
theorem db_badAt_41 : decode kb_badAt 41 = .ok (.iload_n 3, 1) := by decide +kernel
theorem db_badAt_42 : decode kb_badAt 42 = .ok (.bipush 8, 2) := by decide +kernel
theorem db_badAt_44 : decode kb_badAt 44 = .ok (.if_icmp .ge 30, 3) := by decide +kernel
theorem db_badAt_47 : decode kb_badAt 47 = .ok (.aload_n 0, 1) := by decide +kernel
theorem db_badAt_48 : decode kb_badAt 48 = .ok (.iload_n 3, 1) := by decide +kernel
theorem db_badAt_49 : decode kb_badAt 49 = .ok (.invokevirtual 162, 3) := by decide +kernel
theorem db_badAt_52 : decode kb_badAt 52 = .ok (.ifCond .ne 16, 3) := by decide +kernel
theorem db_badAt_55 : decode kb_badAt 55 = .ok (.aload_n 0, 1) := by decide +kernel
theorem db_badAt_56 : decode kb_badAt 56 = .ok (.iload_n 3, 1) := by decide +kernel
theorem db_badAt_57 : decode kb_badAt 57 = .ok (.invokevirtual 165, 3) := by decide +kernel
theorem db_badAt_60 : decode kb_badAt 60 = .ok (.ifCond .ne 8, 3) := by decide +kernel
theorem db_badAt_63 : decode kb_badAt 63 = .ok (.bipush 100, 2) := by decide +kernel
theorem db_badAt_65 : decode kb_badAt 65 = .ok (.iload_n 3, 1) := by decide +kernel
theorem db_badAt_66 : decode kb_badAt 66 = .ok (.iadd, 1) := by decide +kernel
theorem db_badAt_67 : decode kb_badAt 67 = .ok (.ireturn, 1) := by decide +kernel
theorem db_badAt_68 : decode kb_badAt 68 = .ok (.iinc 3 1, 3) := by decide +kernel
theorem db_badAt_71 : decode kb_badAt 71 = .ok (.goto (-30), 3) := by decide +kernel
theorem db_badAt_74 : decode kb_badAt 74 = .ok (.iconst (-1), 1) := by decide +kernel
theorem db_badAt_75 : decode kb_badAt 75 = .ok (.ireturn, 1) := by decide +kernel
theorem db_requireOpen_0 : decode kb_requireOpen 0 = .ok (.aload_n 0, 1) := by decide +kernel
theorem db_requireOpen_1 : decode kb_requireOpen 1 = .ok (.getfield 135, 3) := by decide +kernel
theorem db_requireOpen_4 : decode kb_requireOpen 4 = .ok (.ifCond .eq 13, 3) := by decide +kernel
theorem db_requireOpen_7 : decode kb_requireOpen 7 = .ok (.new 125, 3) := by decide +kernel
theorem db_requireOpen_10 : decode kb_requireOpen 10 = .ok (.dup, 1) := by decide +kernel
theorem db_requireOpen_11 : decode kb_requireOpen 11 = .ok (.ldc 168, 2) := by decide +kernel
theorem db_requireOpen_13 : decode kb_requireOpen 13 = .ok (.invokespecial 129, 3) := by decide +kernel
theorem db_requireOpen_16 : decode kb_requireOpen 16 = .ok (.athrow, 1) := by decide +kernel
theorem db_requireOpen_17 : decode kb_requireOpen 17 = .ok (.return_, 1) := by decide +kernel
theorem db_requireWritable_0 : decode kb_requireWritable 0 = .ok (.aload_n 0, 1) := by decide +kernel
theorem db_requireWritable_1 : decode kb_requireWritable 1 = .ok (.invokevirtual 77, 3) := by decide +kernel
theorem db_requireWritable_4 : decode kb_requireWritable 4 = .ok (.aload_n 0, 1) := by decide +kernel
theorem db_requireWritable_5 : decode kb_requireWritable 5 = .ok (.aload_n 0, 1) := by decide +kernel
theorem db_requireWritable_6 : decode kb_requireWritable 6 = .ok (.getfield 52, 3) := by decide +kernel
theorem db_requireWritable_9 : decode kb_requireWritable 9 = .ok (.invokevirtual 170, 3) := by decide +kernel
theorem db_requireWritable_12 : decode kb_requireWritable 12 = .ok (.ifCond .ne 13, 3) := by decide +kernel
theorem db_requireWritable_15 : decode kb_requireWritable 15 = .ok (.new 125, 3) := by decide +kernel
theorem db_requireWritable_18 : decode kb_requireWritable 18 = .ok (.dup, 1) := by decide +kernel
theorem db_requireWritable_19 : decode kb_requireWritable 19 = .ok (.ldc 173, 2) := by decide +kernel
theorem db_requireWritable_21 : decode kb_requireWritable 21 = .ok (.invokespecial 129, 3) := by decide +kernel
theorem db_requireWritable_24 : decode kb_requireWritable 24 = .ok (.athrow, 1) := by decide +kernel
theorem db_requireWritable_25 : decode kb_requireWritable 25 = .ok (.return_, 1) := by decide +kernel
theorem db_requireKey_0 : decode kb_requireKey 0 = .ok (.iload_n 1, 1) := by decide +kernel
theorem db_requireKey_1 : decode kb_requireKey 1 = .ok (.ifCond .lt 9, 3) := by decide +kernel
theorem db_requireKey_4 : decode kb_requireKey 4 = .ok (.iload_n 1, 1) := by decide +kernel
theorem db_requireKey_5 : decode kb_requireKey 5 = .ok (.ldc 175, 2) := by decide +kernel
theorem db_requireKey_7 : decode kb_requireKey 7 = .ok (.if_icmp .le 13, 3) := by decide +kernel
theorem db_requireKey_10 : decode kb_requireKey 10 = .ok (.new 86, 3) := by decide +kernel
theorem db_requireKey_13 : decode kb_requireKey 13 = .ok (.dup, 1) := by decide +kernel
theorem db_requireKey_14 : decode kb_requireKey 14 = .ok (.ldc 176, 2) := by decide +kernel
theorem db_requireKey_16 : decode kb_requireKey 16 = .ok (.invokespecial 90, 3) := by decide +kernel
theorem db_requireKey_19 : decode kb_requireKey 19 = .ok (.athrow, 1) := by decide +kernel
theorem db_requireKey_20 : decode kb_requireKey 20 = .ok (.return_, 1) := by decide +kernel
theorem db_requireKept_0 : decode kb_requireKept 0 = .ok (.aload_n 0, 1) := by decide +kernel
theorem db_requireKept_1 : decode kb_requireKept 1 = .ok (.iload_n 1, 1) := by decide +kernel
theorem db_requireKept_2 : decode kb_requireKept 2 = .ok (.invokevirtual 170, 3) := by decide +kernel
theorem db_requireKept_5 : decode kb_requireKept 5 = .ok (.ifCond .ne 13, 3) := by decide +kernel
theorem db_requireKept_8 : decode kb_requireKept 8 = .ok (.new 102, 3) := by decide +kernel
theorem db_requireKept_11 : decode kb_requireKept 11 = .ok (.dup, 1) := by decide +kernel
theorem db_requireKept_12 : decode kb_requireKept 12 = .ok (.ldc 178, 2) := by decide +kernel
theorem db_requireKept_14 : decode kb_requireKept 14 = .ok (.invokespecial 106, 3) := by decide +kernel
theorem db_requireKept_17 : decode kb_requireKept 17 = .ok (.athrow, 1) := by decide +kernel
theorem db_requireKept_18 : decode kb_requireKept 18 = .ok (.return_, 1) := by decide +kernel
theorem db_requirePageWord_0 : decode kb_requirePageWord 0 = .ok (.iload_n 1, 1) := by decide +kernel
theorem db_requirePageWord_1 : decode kb_requirePageWord 1 = .ok (.ifCond .lt 21, 3) := by decide +kernel
theorem db_requirePageWord_4 : decode kb_requirePageWord 4 = .ok (.iload_n 1, 1) := by decide +kernel
theorem db_requirePageWord_5 : decode kb_requirePageWord 5 = .ok (.aload_n 0, 1) := by decide +kernel
theorem db_requirePageWord_6 : decode kb_requirePageWord 6 = .ok (.getfield 18, 3) := by decide +kernel
theorem db_requirePageWord_9 : decode kb_requirePageWord 9 = .ok (.if_icmp .ge 13, 3) := by decide +kernel
theorem db_requirePageWord_12 : decode kb_requirePageWord 12 = .ok (.iload_n 2, 1) := by decide +kernel
theorem db_requirePageWord_13 : decode kb_requirePageWord 13 = .ok (.ifCond .lt 9, 3) := by decide +kernel
theorem db_requirePageWord_16 : decode kb_requirePageWord 16 = .ok (.iload_n 2, 1) := by decide +kernel
theorem db_requirePageWord_17 : decode kb_requirePageWord 17 = .ok (.bipush 16, 2) := by decide +kernel
theorem db_requirePageWord_19 : decode kb_requirePageWord 19 = .ok (.if_icmp .lt 13, 3) := by decide +kernel
theorem db_requirePageWord_22 : decode kb_requirePageWord 22 = .ok (.new 102, 3) := by decide +kernel
theorem db_requirePageWord_25 : decode kb_requirePageWord 25 = .ok (.dup, 1) := by decide +kernel
theorem db_requirePageWord_26 : decode kb_requirePageWord 26 = .ok (.ldc 180, 2) := by decide +kernel
theorem db_requirePageWord_28 : decode kb_requirePageWord 28 = .ok (.invokespecial 106, 3) := by decide +kernel
theorem db_requirePageWord_31 : decode kb_requirePageWord 31 = .ok (.athrow, 1) := by decide +kernel
theorem db_requirePageWord_32 : decode kb_requirePageWord 32 = .ok (.return_, 1) := by decide +kernel
theorem db_requireRootWord_0 : decode kb_requireRootWord 0 = .ok (.iload_n 1, 1) := by decide +kernel
theorem db_requireRootWord_1 : decode kb_requireRootWord 1 = .ok (.ifCond .lt 19, 3) := by decide +kernel
theorem db_requireRootWord_4 : decode kb_requireRootWord 4 = .ok (.iload_n 1, 1) := by decide +kernel
theorem db_requireRootWord_5 : decode kb_requireRootWord 5 = .ok (.bipush 8, 2) := by decide +kernel
theorem db_requireRootWord_7 : decode kb_requireRootWord 7 = .ok (.if_icmp .ge 13, 3) := by decide +kernel
theorem db_requireRootWord_10 : decode kb_requireRootWord 10 = .ok (.iload_n 2, 1) := by decide +kernel
theorem db_requireRootWord_11 : decode kb_requireRootWord 11 = .ok (.ifCond .lt 9, 3) := by decide +kernel
theorem db_requireRootWord_14 : decode kb_requireRootWord 14 = .ok (.iload_n 2, 1) := by decide +kernel
theorem db_requireRootWord_15 : decode kb_requireRootWord 15 = .ok (.bipush 20, 2) := by decide +kernel
theorem db_requireRootWord_17 : decode kb_requireRootWord 17 = .ok (.if_icmp .lt 13, 3) := by decide +kernel
theorem db_requireRootWord_20 : decode kb_requireRootWord 20 = .ok (.new 102, 3) := by decide +kernel
theorem db_requireRootWord_23 : decode kb_requireRootWord 23 = .ok (.dup, 1) := by decide +kernel
theorem db_requireRootWord_24 : decode kb_requireRootWord 24 = .ok (.ldc 182, 2) := by decide +kernel
theorem db_requireRootWord_26 : decode kb_requireRootWord 26 = .ok (.invokespecial 106, 3) := by decide +kernel
theorem db_requireRootWord_29 : decode kb_requireRootWord 29 = .ok (.athrow, 1) := by decide +kernel
theorem db_requireRootWord_30 : decode kb_requireRootWord 30 = .ok (.return_, 1) := by decide +kernel
theorem db_requireMask_0 : decode kb_requireMask 0 = .ok (.lload_n 1, 1) := by decide +kernel
theorem db_requireMask_1 : decode kb_requireMask 1 = .ok (.lconst 0, 1) := by decide +kernel
theorem db_requireMask_2 : decode kb_requireMask 2 = .ok (.lcmp, 1) := by decide +kernel
theorem db_requireMask_3 : decode kb_requireMask 3 = .ok (.ifCond .ne 13, 3) := by decide +kernel
theorem db_requireMask_6 : decode kb_requireMask 6 = .ok (.new 86, 3) := by decide +kernel
theorem db_requireMask_9 : decode kb_requireMask 9 = .ok (.dup, 1) := by decide +kernel
theorem db_requireMask_10 : decode kb_requireMask 10 = .ok (.ldc 184, 2) := by decide +kernel
theorem db_requireMask_12 : decode kb_requireMask 12 = .ok (.invokespecial 90, 3) := by decide +kernel
theorem db_requireMask_15 : decode kb_requireMask 15 = .ok (.athrow, 1) := by decide +kernel
theorem db_requireMask_16 : decode kb_requireMask 16 = .ok (.return_, 1) := by decide +kernel
theorem db_sumOf_0 : decode kb_sumOf 0 = .ok (.lconst 0, 1) := by decide +kernel
theorem db_sumOf_1 : decode kb_sumOf 1 = .ok (.lstore_n 3, 1) := by decide +kernel
theorem db_sumOf_2 : decode kb_sumOf 2 = .ok (.iload_n 1, 1) := by decide +kernel
theorem db_sumOf_3 : decode kb_sumOf 3 = .ok (.istore 5, 2) := by decide +kernel
theorem db_sumOf_5 : decode kb_sumOf 5 = .ok (.iload 5, 2) := by decide +kernel
theorem db_sumOf_7 : decode kb_sumOf 7 = .ok (.iload_n 1, 1) := by decide +kernel
theorem db_sumOf_8 : decode kb_sumOf 8 = .ok (.iload_n 2, 1) := by decide +kernel
theorem db_sumOf_9 : decode kb_sumOf 9 = .ok (.iadd, 1) := by decide +kernel
theorem db_sumOf_10 : decode kb_sumOf 10 = .ok (.if_icmp .ge 32, 3) := by decide +kernel
theorem db_sumOf_13 : decode kb_sumOf 13 = .ok (.lload_n 3, 1) := by decide +kernel
theorem db_sumOf_14 : decode kb_sumOf 14 = .ok (.aload_n 0, 1) := by decide +kernel
theorem db_sumOf_15 : decode kb_sumOf 15 = .ok (.iload 5, 2) := by decide +kernel
theorem db_sumOf_17 : decode kb_sumOf 17 = .ok (.laload, 1) := by decide +kernel
theorem db_sumOf_18 : decode kb_sumOf 18 = .ok (.lxor, 1) := by decide +kernel
theorem db_sumOf_19 : decode kb_sumOf 19 = .ok (.lstore 6, 2) := by decide +kernel
theorem db_sumOf_21 : decode kb_sumOf 21 = .ok (.lload 6, 2) := by decide +kernel
theorem db_sumOf_23 : decode kb_sumOf 23 = .ok (.iconst 5, 1) := by decide +kernel
theorem db_sumOf_24 : decode kb_sumOf 24 = .ok (.lshl, 1) := by decide +kernel
theorem db_sumOf_25 : decode kb_sumOf 25 = .ok (.lload 6, 2) := by decide +kernel
theorem db_sumOf_27 : decode kb_sumOf 27 = .ok (.bipush 59, 2) := by decide +kernel
theorem db_sumOf_29 : decode kb_sumOf 29 = .ok (.lushr, 1) := by decide +kernel
theorem db_sumOf_30 : decode kb_sumOf 30 = .ok (.lor, 1) := by decide +kernel
theorem db_sumOf_31 : decode kb_sumOf 31 = .ok (.ldc2_w 186, 3) := by decide +kernel
theorem db_sumOf_34 : decode kb_sumOf 34 = .ok (.lmul, 1) := by decide +kernel
theorem db_sumOf_35 : decode kb_sumOf 35 = .ok (.lstore_n 3, 1) := by decide +kernel
theorem db_sumOf_36 : decode kb_sumOf 36 = .ok (.iinc 5 1, 3) := by decide +kernel
theorem db_sumOf_39 : decode kb_sumOf 39 = .ok (.goto (-34), 3) := by decide +kernel
theorem db_sumOf_42 : decode kb_sumOf 42 = .ok (.lload_n 3, 1) := by decide +kernel
theorem db_sumOf_43 : decode kb_sumOf 43 = .ok (.lconst 1, 1) := by decide +kernel
theorem db_sumOf_44 : decode kb_sumOf 44 = .ok (.lxor, 1) := by decide +kernel
theorem db_sumOf_45 : decode kb_sumOf 45 = .ok (.lreturn, 1) := by decide +kernel
theorem db_isRightPage_0 : decode kb_isRightPage 0 = .ok (.iload_n 1, 1) := by decide +kernel
theorem db_isRightPage_1 : decode kb_isRightPage 1 = .ok (.bipush 16, 2) := by decide +kernel
theorem db_isRightPage_3 : decode kb_isRightPage 3 = .ok (.imul, 1) := by decide +kernel
theorem db_isRightPage_4 : decode kb_isRightPage 4 = .ok (.istore_n 2, 1) := by decide +kernel
theorem db_isRightPage_5 : decode kb_isRightPage 5 = .ok (.aload_n 0, 1) := by decide +kernel
theorem db_isRightPage_6 : decode kb_isRightPage 6 = .ok (.getfield 22, 3) := by decide +kernel
theorem db_isRightPage_9 : decode kb_isRightPage 9 = .ok (.iload_n 2, 1) := by decide +kernel
theorem db_isRightPage_10 : decode kb_isRightPage 10 = .ok (.laload, 1) := by decide +kernel
theorem db_isRightPage_11 : decode kb_isRightPage 11 = .ok (.lstore_n 3, 1) := by decide +kernel
theorem db_isRightPage_12 : decode kb_isRightPage 12 = .ok (.lload_n 3, 1) := by decide +kernel
theorem db_isRightPage_13 : decode kb_isRightPage 13 = .ok (.lconst 0, 1) := by decide +kernel
theorem db_isRightPage_14 : decode kb_isRightPage 14 = .ok (.lcmp, 1) := by decide +kernel
theorem db_isRightPage_15 : decode kb_isRightPage 15 = .ok (.ifCond .lt 11, 3) := by decide +kernel
theorem db_isRightPage_18 : decode kb_isRightPage 18 = .ok (.lload_n 3, 1) := by decide +kernel
theorem db_isRightPage_19 : decode kb_isRightPage 19 = .ok (.ldc2_w 188, 3) := by decide +kernel
theorem db_isRightPage_22 : decode kb_isRightPage 22 = .ok (.lcmp, 1) := by decide +kernel
theorem db_isRightPage_23 : decode kb_isRightPage 23 = .ok (.ifCond .le 5, 3) := by decide +kernel
theorem db_isRightPage_26 : decode kb_isRightPage 26 = .ok (.iconst 0, 1) := by decide +kernel
theorem db_isRightPage_27 : decode kb_isRightPage 27 = .ok (.ireturn, 1) := by decide +kernel
theorem db_isRightPage_28 : decode kb_isRightPage 28 = .ok (.ldc2_w 190, 3) := by decide +kernel
theorem db_isRightPage_31 : decode kb_isRightPage 31 = .ok (.lstore 5, 2) := by decide +kernel
theorem db_isRightPage_33 : decode kb_isRightPage 33 = .ok (.iconst 0, 1) := by decide +kernel
theorem db_isRightPage_34 : decode kb_isRightPage 34 = .ok (.istore 7, 2) := by decide +kernel
theorem db_isRightPage_36 : decode kb_isRightPage 36 = .ok (.iload 7, 2) := by decide +kernel
theorem db_isRightPage_38 : decode kb_isRightPage 38 = .ok (.i2l, 1) := by decide +kernel
theorem db_isRightPage_39 : decode kb_isRightPage 39 = .ok (.lload_n 3, 1) := by decide +kernel
theorem db_isRightPage_40 : decode kb_isRightPage 40 = .ok (.lcmp, 1) := by decide +kernel
theorem db_isRightPage_41 : decode kb_isRightPage 41 = .ok (.ifCond .ge 47, 3) := by decide +kernel
theorem db_isRightPage_44 : decode kb_isRightPage 44 = .ok (.aload_n 0, 1) := by decide +kernel
theorem db_isRightPage_45 : decode kb_isRightPage 45 = .ok (.getfield 22, 3) := by decide +kernel
theorem db_isRightPage_48 : decode kb_isRightPage 48 = .ok (.iload_n 2, 1) := by decide +kernel
theorem db_isRightPage_49 : decode kb_isRightPage 49 = .ok (.iconst 1, 1) := by decide +kernel
theorem db_isRightPage_50 : decode kb_isRightPage 50 = .ok (.iadd, 1) := by decide +kernel
theorem db_isRightPage_51 : decode kb_isRightPage 51 = .ok (.iconst 2, 1) := by decide +kernel
theorem db_isRightPage_52 : decode kb_isRightPage 52 = .ok (.iload 7, 2) := by decide +kernel
theorem db_isRightPage_54 : decode kb_isRightPage 54 = .ok (.imul, 1) := by decide +kernel
theorem db_isRightPage_55 : decode kb_isRightPage 55 = .ok (.iadd, 1) := by decide +kernel
theorem db_isRightPage_56 : decode kb_isRightPage 56 = .ok (.laload, 1) := by decide +kernel
theorem db_isRightPage_57 : decode kb_isRightPage 57 = .ok (.lstore 8, 2) := by decide +kernel
theorem db_isRightPage_59 : decode kb_isRightPage 59 = .ok (.lload 8, 2) := by decide +kernel
theorem db_isRightPage_61 : decode kb_isRightPage 61 = .ok (.lload 5, 2) := by decide +kernel
theorem db_isRightPage_63 : decode kb_isRightPage 63 = .ok (.lcmp, 1) := by decide +kernel
theorem db_isRightPage_64 : decode kb_isRightPage 64 = .ok (.ifCond .le 12, 3) := by decide +kernel
theorem db_isRightPage_67 : decode kb_isRightPage 67 = .ok (.lload 8, 2) := by decide +kernel
theorem db_isRightPage_69 : decode kb_isRightPage 69 = .ok (.ldc2_w 192, 3) := by decide +kernel
theorem db_isRightPage_72 : decode kb_isRightPage 72 = .ok (.lcmp, 1) := by decide +kernel
theorem db_isRightPage_73 : decode kb_isRightPage 73 = .ok (.ifCond .le 5, 3) := by decide +kernel
theorem db_isRightPage_76 : decode kb_isRightPage 76 = .ok (.iconst 0, 1) := by decide +kernel
theorem db_isRightPage_77 : decode kb_isRightPage 77 = .ok (.ireturn, 1) := by decide +kernel
theorem db_isRightPage_78 : decode kb_isRightPage 78 = .ok (.lload 8, 2) := by decide +kernel
theorem db_isRightPage_80 : decode kb_isRightPage 80 = .ok (.lstore 5, 2) := by decide +kernel
theorem db_isRightPage_82 : decode kb_isRightPage 82 = .ok (.iinc 7 1, 3) := by decide +kernel
theorem db_isRightPage_85 : decode kb_isRightPage 85 = .ok (.goto (-49), 3) := by decide +kernel
theorem db_isRightPage_88 : decode kb_isRightPage 88 = .ok (.aload_n 0, 1) := by decide +kernel
theorem db_isRightPage_89 : decode kb_isRightPage 89 = .ok (.getfield 22, 3) := by decide +kernel
theorem db_isRightPage_92 : decode kb_isRightPage 92 = .ok (.iload_n 2, 1) := by decide +kernel
theorem db_isRightPage_93 : decode kb_isRightPage 93 = .ok (.bipush 15, 2) := by decide +kernel
theorem db_isRightPage_95 : decode kb_isRightPage 95 = .ok (.iadd, 1) := by decide +kernel
theorem db_isRightPage_96 : decode kb_isRightPage 96 = .ok (.laload, 1) := by decide +kernel
theorem db_isRightPage_97 : decode kb_isRightPage 97 = .ok (.aload_n 0, 1) := by decide +kernel
theorem db_isRightPage_98 : decode kb_isRightPage 98 = .ok (.getfield 22, 3) := by decide +kernel
theorem db_isRightPage_101 : decode kb_isRightPage 101 = .ok (.iload_n 2, 1) := by decide +kernel
theorem db_isRightPage_102 : decode kb_isRightPage 102 = .ok (.bipush 15, 2) := by decide +kernel
theorem db_isRightPage_104 : decode kb_isRightPage 104 = .ok (.invokestatic 194, 3) := by decide +kernel
theorem db_isRightPage_107 : decode kb_isRightPage 107 = .ok (.lcmp, 1) := by decide +kernel
theorem db_isRightPage_108 : decode kb_isRightPage 108 = .ok (.ifCond .ne 7, 3) := by decide +kernel
theorem db_isRightPage_111 : decode kb_isRightPage 111 = .ok (.iconst 1, 1) := by decide +kernel
theorem db_isRightPage_112 : decode kb_isRightPage 112 = .ok (.goto 4, 3) := by decide +kernel
theorem db_isRightPage_115 : decode kb_isRightPage 115 = .ok (.iconst 0, 1) := by decide +kernel
theorem db_isRightPage_116 : decode kb_isRightPage 116 = .ok (.ireturn, 1) := by decide +kernel
theorem db_hasRootSum_0 : decode kb_hasRootSum 0 = .ok (.iload_n 1, 1) := by decide +kernel
theorem db_hasRootSum_1 : decode kb_hasRootSum 1 = .ok (.bipush 20, 2) := by decide +kernel
theorem db_hasRootSum_3 : decode kb_hasRootSum 3 = .ok (.imul, 1) := by decide +kernel
theorem db_hasRootSum_4 : decode kb_hasRootSum 4 = .ok (.istore_n 2, 1) := by decide +kernel
theorem db_hasRootSum_5 : decode kb_hasRootSum 5 = .ok (.aload_n 0, 1) := by decide +kernel
theorem db_hasRootSum_6 : decode kb_hasRootSum 6 = .ok (.getfield 26, 3) := by decide +kernel
theorem db_hasRootSum_9 : decode kb_hasRootSum 9 = .ok (.iload_n 2, 1) := by decide +kernel
theorem db_hasRootSum_10 : decode kb_hasRootSum 10 = .ok (.bipush 19, 2) := by decide +kernel
theorem db_hasRootSum_12 : decode kb_hasRootSum 12 = .ok (.iadd, 1) := by decide +kernel
theorem db_hasRootSum_13 : decode kb_hasRootSum 13 = .ok (.laload, 1) := by decide +kernel
theorem db_hasRootSum_14 : decode kb_hasRootSum 14 = .ok (.aload_n 0, 1) := by decide +kernel
theorem db_hasRootSum_15 : decode kb_hasRootSum 15 = .ok (.getfield 26, 3) := by decide +kernel
theorem db_hasRootSum_18 : decode kb_hasRootSum 18 = .ok (.iload_n 2, 1) := by decide +kernel
theorem db_hasRootSum_19 : decode kb_hasRootSum 19 = .ok (.bipush 19, 2) := by decide +kernel
theorem db_hasRootSum_21 : decode kb_hasRootSum 21 = .ok (.invokestatic 194, 3) := by decide +kernel
theorem db_hasRootSum_24 : decode kb_hasRootSum 24 = .ok (.lcmp, 1) := by decide +kernel
theorem db_hasRootSum_25 : decode kb_hasRootSum 25 = .ok (.ifCond .ne 7, 3) := by decide +kernel
theorem db_hasRootSum_28 : decode kb_hasRootSum 28 = .ok (.iconst 1, 1) := by decide +kernel
theorem db_hasRootSum_29 : decode kb_hasRootSum 29 = .ok (.goto 4, 3) := by decide +kernel
theorem db_hasRootSum_32 : decode kb_hasRootSum 32 = .ok (.iconst 0, 1) := by decide +kernel
theorem db_hasRootSum_33 : decode kb_hasRootSum 33 = .ok (.ireturn, 1) := by decide +kernel
theorem db_isBlankRoot_0 : decode kb_isBlankRoot 0 = .ok (.iload_n 1, 1) := by decide +kernel
theorem db_isBlankRoot_1 : decode kb_isBlankRoot 1 = .ok (.bipush 20, 2) := by decide +kernel
theorem db_isBlankRoot_3 : decode kb_isBlankRoot 3 = .ok (.imul, 1) := by decide +kernel
theorem db_isBlankRoot_4 : decode kb_isBlankRoot 4 = .ok (.istore_n 2, 1) := by decide +kernel
theorem db_isBlankRoot_5 : decode kb_isBlankRoot 5 = .ok (.iconst 0, 1) := by decide +kernel
theorem db_isBlankRoot_6 : decode kb_isBlankRoot 6 = .ok (.istore_n 3, 1) := by decide +kernel
theorem db_isBlankRoot_7 : decode kb_isBlankRoot 7 = .ok (.iload_n 3, 1) := by decide +kernel
theorem db_isBlankRoot_8 : decode kb_isBlankRoot 8 = .ok (.bipush 19, 2) := by decide +kernel
theorem db_isBlankRoot_10 : decode kb_isBlankRoot 10 = .ok (.if_icmp .ge 24, 3) := by decide +kernel
theorem db_isBlankRoot_13 : decode kb_isBlankRoot 13 = .ok (.aload_n 0, 1) := by decide +kernel
theorem db_isBlankRoot_14 : decode kb_isBlankRoot 14 = .ok (.getfield 26, 3) := by decide +kernel
theorem db_isBlankRoot_17 : decode kb_isBlankRoot 17 = .ok (.iload_n 2, 1) := by decide +kernel
theorem db_isBlankRoot_18 : decode kb_isBlankRoot 18 = .ok (.iload_n 3, 1) := by decide +kernel
theorem db_isBlankRoot_19 : decode kb_isBlankRoot 19 = .ok (.iadd, 1) := by decide +kernel
theorem db_isBlankRoot_20 : decode kb_isBlankRoot 20 = .ok (.laload, 1) := by decide +kernel
theorem db_isBlankRoot_21 : decode kb_isBlankRoot 21 = .ok (.lconst 0, 1) := by decide +kernel
theorem db_isBlankRoot_22 : decode kb_isBlankRoot 22 = .ok (.lcmp, 1) := by decide +kernel
theorem db_isBlankRoot_23 : decode kb_isBlankRoot 23 = .ok (.ifCond .eq 5, 3) := by decide +kernel
theorem db_isBlankRoot_26 : decode kb_isBlankRoot 26 = .ok (.iconst 0, 1) := by decide +kernel
theorem db_isBlankRoot_27 : decode kb_isBlankRoot 27 = .ok (.ireturn, 1) := by decide +kernel
theorem db_isBlankRoot_28 : decode kb_isBlankRoot 28 = .ok (.iinc 3 1, 3) := by decide +kernel
theorem db_isBlankRoot_31 : decode kb_isBlankRoot 31 = .ok (.goto (-24), 3) := by decide +kernel
theorem db_isBlankRoot_34 : decode kb_isBlankRoot 34 = .ok (.iconst 1, 1) := by decide +kernel
theorem db_isBlankRoot_35 : decode kb_isBlankRoot 35 = .ok (.ireturn, 1) := by decide +kernel
theorem db_isSound_0 : decode kb_isSound 0 = .ok (.iload_n 1, 1) := by decide +kernel
theorem db_isSound_1 : decode kb_isSound 1 = .ok (.bipush 20, 2) := by decide +kernel
theorem db_isSound_3 : decode kb_isSound 3 = .ok (.imul, 1) := by decide +kernel
theorem db_isSound_4 : decode kb_isSound 4 = .ok (.istore_n 2, 1) := by decide +kernel
theorem db_isSound_5 : decode kb_isSound 5 = .ok (.aload_n 0, 1) := by decide +kernel
theorem db_isSound_6 : decode kb_isSound 6 = .ok (.getfield 26, 3) := by decide +kernel
theorem db_isSound_9 : decode kb_isSound 9 = .ok (.iload_n 2, 1) := by decide +kernel
theorem db_isSound_10 : decode kb_isSound 10 = .ok (.iconst 1, 1) := by decide +kernel
theorem db_isSound_11 : decode kb_isSound 11 = .ok (.iadd, 1) := by decide +kernel
theorem db_isSound_12 : decode kb_isSound 12 = .ok (.laload, 1) := by decide +kernel
theorem db_isSound_13 : decode kb_isSound 13 = .ok (.lstore_n 3, 1) := by decide +kernel
theorem db_isSound_14 : decode kb_isSound 14 = .ok (.lload_n 3, 1) := by decide +kernel
theorem db_isSound_15 : decode kb_isSound 15 = .ok (.lconst 0, 1) := by decide +kernel
theorem db_isSound_16 : decode kb_isSound 16 = .ok (.lcmp, 1) := by decide +kernel
theorem db_isSound_17 : decode kb_isSound 17 = .ok (.ifCond .lt 11, 3) := by decide +kernel
theorem db_isSound_20 : decode kb_isSound 20 = .ok (.lload_n 3, 1) := by decide +kernel
theorem db_isSound_21 : decode kb_isSound 21 = .ok (.ldc2_w 198, 3) := by decide +kernel
theorem db_isSound_24 : decode kb_isSound 24 = .ok (.lcmp, 1) := by decide +kernel
theorem db_isSound_25 : decode kb_isSound 25 = .ok (.ifCond .le 5, 3) := by decide +kernel
theorem db_isSound_28 : decode kb_isSound 28 = .ok (.iconst 0, 1) := by decide +kernel
theorem db_isSound_29 : decode kb_isSound 29 = .ok (.ireturn, 1) := by decide +kernel
theorem db_isSound_30 : decode kb_isSound 30 = .ok (.iconst 0, 1) := by decide +kernel
theorem db_isSound_31 : decode kb_isSound 31 = .ok (.istore 5, 2) := by decide +kernel
theorem db_isSound_33 : decode kb_isSound 33 = .ok (.iload 5, 2) := by decide +kernel
theorem db_isSound_35 : decode kb_isSound 35 = .ok (.i2l, 1) := by decide +kernel
theorem db_isSound_36 : decode kb_isSound 36 = .ok (.lload_n 3, 1) := by decide +kernel
theorem db_isSound_37 : decode kb_isSound 37 = .ok (.lcmp, 1) := by decide +kernel
theorem db_isSound_38 : decode kb_isSound 38 = .ok (.ifCond .ge 42, 3) := by decide +kernel
theorem db_isSound_41 : decode kb_isSound 41 = .ok (.aload_n 0, 1) := by decide +kernel
theorem db_isSound_42 : decode kb_isSound 42 = .ok (.getfield 26, 3) := by decide +kernel
theorem db_isSound_45 : decode kb_isSound 45 = .ok (.iload_n 2, 1) := by decide +kernel
theorem db_isSound_46 : decode kb_isSound 46 = .ok (.iconst 2, 1) := by decide +kernel
theorem db_isSound_47 : decode kb_isSound 47 = .ok (.iadd, 1) := by decide +kernel
theorem db_isSound_48 : decode kb_isSound 48 = .ok (.iload 5, 2) := by decide +kernel
theorem db_isSound_50 : decode kb_isSound 50 = .ok (.iadd, 1) := by decide +kernel
theorem db_isSound_51 : decode kb_isSound 51 = .ok (.laload, 1) := by decide +kernel
theorem db_isSound_52 : decode kb_isSound 52 = .ok (.lstore 6, 2) := by decide +kernel
theorem db_isSound_54 : decode kb_isSound 54 = .ok (.lload 6, 2) := by decide +kernel
theorem db_isSound_56 : decode kb_isSound 56 = .ok (.lconst 0, 1) := by decide +kernel
theorem db_isSound_57 : decode kb_isSound 57 = .ok (.lcmp, 1) := by decide +kernel
theorem db_isSound_58 : decode kb_isSound 58 = .ok (.ifCond .lt 14, 3) := by decide +kernel
theorem db_isSound_61 : decode kb_isSound 61 = .ok (.lload 6, 2) := by decide +kernel
theorem db_isSound_63 : decode kb_isSound 63 = .ok (.aload_n 0, 1) := by decide +kernel
theorem db_isSound_64 : decode kb_isSound 64 = .ok (.getfield 18, 3) := by decide +kernel
theorem db_isSound_67 : decode kb_isSound 67 = .ok (.i2l, 1) := by decide +kernel
theorem db_isSound_68 : decode kb_isSound 68 = .ok (.lcmp, 1) := by decide +kernel
theorem db_isSound_69 : decode kb_isSound 69 = .ok (.ifCond .lt 5, 3) := by decide +kernel
theorem db_isSound_72 : decode kb_isSound 72 = .ok (.iconst 0, 1) := by decide +kernel
theorem db_isSound_73 : decode kb_isSound 73 = .ok (.ireturn, 1) := by decide +kernel
theorem db_isSound_74 : decode kb_isSound 74 = .ok (.iinc 5 1, 3) := by decide +kernel
theorem db_isSound_77 : decode kb_isSound 77 = .ok (.goto (-44), 3) := by decide +kernel
theorem db_isSound_80 : decode kb_isSound 80 = .ok (.iconst 1, 1) := by decide +kernel
theorem db_isSound_81 : decode kb_isSound 81 = .ok (.ireturn, 1) := by decide +kernel
theorem db_isRightRoot_0 : decode kb_isRightRoot 0 = .ok (.aload_n 0, 1) := by decide +kernel
theorem db_isRightRoot_1 : decode kb_isRightRoot 1 = .ok (.iload_n 1, 1) := by decide +kernel
theorem db_isRightRoot_2 : decode kb_isRightRoot 2 = .ok (.invokevirtual 165, 3) := by decide +kernel
theorem db_isRightRoot_5 : decode kb_isRightRoot 5 = .ok (.ifCond .eq 23, 3) := by decide +kernel
theorem db_isRightRoot_8 : decode kb_isRightRoot 8 = .ok (.aload_n 0, 1) := by decide +kernel
theorem db_isRightRoot_9 : decode kb_isRightRoot 9 = .ok (.iload_n 1, 1) := by decide +kernel
theorem db_isRightRoot_10 : decode kb_isRightRoot 10 = .ok (.invokevirtual 200, 3) := by decide +kernel
theorem db_isRightRoot_13 : decode kb_isRightRoot 13 = .ok (.ifCond .eq 15, 3) := by decide +kernel
theorem db_isRightRoot_16 : decode kb_isRightRoot 16 = .ok (.aload_n 0, 1) := by decide +kernel
theorem db_isRightRoot_17 : decode kb_isRightRoot 17 = .ok (.iload_n 1, 1) := by decide +kernel
theorem db_isRightRoot_18 : decode kb_isRightRoot 18 = .ok (.invokevirtual 203, 3) := by decide +kernel
theorem db_isRightRoot_21 : decode kb_isRightRoot 21 = .ok (.ifCond .eq 7, 3) := by decide +kernel
theorem db_isRightRoot_24 : decode kb_isRightRoot 24 = .ok (.iconst 1, 1) := by decide +kernel
theorem db_isRightRoot_25 : decode kb_isRightRoot 25 = .ok (.goto 4, 3) := by decide +kernel
theorem db_isRightRoot_28 : decode kb_isRightRoot 28 = .ok (.iconst 0, 1) := by decide +kernel
theorem db_isRightRoot_29 : decode kb_isRightRoot 29 = .ok (.ireturn, 1) := by decide +kernel
theorem db_hasRightLeaves_0 : decode kb_hasRightLeaves 0 = .ok (.ldc2_w 190, 3) := by decide +kernel
theorem db_hasRightLeaves_3 : decode kb_hasRightLeaves 3 = .ok (.lstore_n 2, 1) := by decide +kernel
theorem db_hasRightLeaves_4 : decode kb_hasRightLeaves 4 = .ok (.lconst 0, 1) := by decide +kernel
theorem db_hasRightLeaves_5 : decode kb_hasRightLeaves 5 = .ok (.lstore 4, 2) := by decide +kernel
theorem db_hasRightLeaves_7 : decode kb_hasRightLeaves 7 = .ok (.aload_n 0, 1) := by decide +kernel
theorem db_hasRightLeaves_8 : decode kb_hasRightLeaves 8 = .ok (.iload_n 1, 1) := by decide +kernel
theorem db_hasRightLeaves_9 : decode kb_hasRightLeaves 9 = .ok (.invokevirtual 96, 3) := by decide +kernel
theorem db_hasRightLeaves_12 : decode kb_hasRightLeaves 12 = .ok (.istore 6, 2) := by decide +kernel
theorem db_hasRightLeaves_14 : decode kb_hasRightLeaves 14 = .ok (.iconst 0, 1) := by decide +kernel
theorem db_hasRightLeaves_15 : decode kb_hasRightLeaves 15 = .ok (.istore 7, 2) := by decide +kernel
theorem db_hasRightLeaves_17 : decode kb_hasRightLeaves 17 = .ok (.iload 7, 2) := by decide +kernel
theorem db_hasRightLeaves_19 : decode kb_hasRightLeaves 19 = .ok (.iload 6, 2) := by decide +kernel
theorem db_hasRightLeaves_21 : decode kb_hasRightLeaves 21 = .ok (.if_icmp .ge 70, 3) := by decide +kernel
theorem db_hasRightLeaves_24 : decode kb_hasRightLeaves 24 = .ok (.aload_n 0, 1) := by decide +kernel
theorem db_hasRightLeaves_25 : decode kb_hasRightLeaves 25 = .ok (.iload_n 1, 1) := by decide +kernel
theorem db_hasRightLeaves_26 : decode kb_hasRightLeaves 26 = .ok (.iload 7, 2) := by decide +kernel
theorem db_hasRightLeaves_28 : decode kb_hasRightLeaves 28 = .ok (.invokevirtual 206, 3) := by decide +kernel
theorem db_hasRightLeaves_31 : decode kb_hasRightLeaves 31 = .ok (.istore 8, 2) := by decide +kernel
theorem db_hasRightLeaves_33 : decode kb_hasRightLeaves 33 = .ok (.aload_n 0, 1) := by decide +kernel
theorem db_hasRightLeaves_34 : decode kb_hasRightLeaves 34 = .ok (.iload 8, 2) := by decide +kernel
theorem db_hasRightLeaves_36 : decode kb_hasRightLeaves 36 = .ok (.invokevirtual 159, 3) := by decide +kernel
theorem db_hasRightLeaves_39 : decode kb_hasRightLeaves 39 = .ok (.ifCond .eq 12, 3) := by decide +kernel
theorem db_hasRightLeaves_42 : decode kb_hasRightLeaves 42 = .ok (.aload_n 0, 1) := by decide +kernel
theorem db_hasRightLeaves_43 : decode kb_hasRightLeaves 43 = .ok (.iload 8, 2) := by decide +kernel
theorem db_hasRightLeaves_45 : decode kb_hasRightLeaves 45 = .ok (.invokevirtual 209, 3) := by decide +kernel
theorem db_hasRightLeaves_48 : decode kb_hasRightLeaves 48 = .ok (.ifCond .ne 5, 3) := by decide +kernel
theorem db_hasRightLeaves_51 : decode kb_hasRightLeaves 51 = .ok (.iconst 0, 1) := by decide +kernel
theorem db_hasRightLeaves_52 : decode kb_hasRightLeaves 52 = .ok (.ireturn, 1) := by decide +kernel
theorem db_hasRightLeaves_53 : decode kb_hasRightLeaves 53 = .ok (.aload_n 0, 1) := by decide +kernel
theorem db_hasRightLeaves_54 : decode kb_hasRightLeaves 54 = .ok (.iload 8, 2) := by decide +kernel
theorem db_hasRightLeaves_56 : decode kb_hasRightLeaves 56 = .ok (.invokevirtual 212, 3) := by decide +kernel
theorem db_hasRightLeaves_59 : decode kb_hasRightLeaves 59 = .ok (.lload_n 2, 1) := by decide +kernel
theorem db_hasRightLeaves_60 : decode kb_hasRightLeaves 60 = .ok (.lcmp, 1) := by decide +kernel
theorem db_hasRightLeaves_61 : decode kb_hasRightLeaves 61 = .ok (.ifCond .gt 5, 3) := by decide +kernel
theorem db_hasRightLeaves_64 : decode kb_hasRightLeaves 64 = .ok (.iconst 0, 1) := by decide +kernel
theorem db_hasRightLeaves_65 : decode kb_hasRightLeaves 65 = .ok (.ireturn, 1) := by decide +kernel
theorem db_hasRightLeaves_66 : decode kb_hasRightLeaves 66 = .ok (.aload_n 0, 1) := by decide +kernel
theorem db_hasRightLeaves_67 : decode kb_hasRightLeaves 67 = .ok (.iload 8, 2) := by decide +kernel
theorem db_hasRightLeaves_69 : decode kb_hasRightLeaves 69 = .ok (.invokevirtual 216, 3) := by decide +kernel
theorem db_hasRightLeaves_72 : decode kb_hasRightLeaves 72 = .ok (.lstore_n 2, 1) := by decide +kernel
theorem db_hasRightLeaves_73 : decode kb_hasRightLeaves 73 = .ok (.lload 4, 2) := by decide +kernel
theorem db_hasRightLeaves_75 : decode kb_hasRightLeaves 75 = .ok (.aload_n 0, 1) := by decide +kernel
theorem db_hasRightLeaves_76 : decode kb_hasRightLeaves 76 = .ok (.iload 8, 2) := by decide +kernel
theorem db_hasRightLeaves_78 : decode kb_hasRightLeaves 78 = .ok (.invokevirtual 209, 3) := by decide +kernel
theorem db_hasRightLeaves_81 : decode kb_hasRightLeaves 81 = .ok (.i2l, 1) := by decide +kernel
theorem db_hasRightLeaves_82 : decode kb_hasRightLeaves 82 = .ok (.ladd, 1) := by decide +kernel
theorem db_hasRightLeaves_83 : decode kb_hasRightLeaves 83 = .ok (.lstore 4, 2) := by decide +kernel
theorem db_hasRightLeaves_85 : decode kb_hasRightLeaves 85 = .ok (.iinc 7 1, 3) := by decide +kernel
theorem db_hasRightLeaves_88 : decode kb_hasRightLeaves 88 = .ok (.goto (-71), 3) := by decide +kernel
theorem db_hasRightLeaves_91 : decode kb_hasRightLeaves 91 = .ok (.aload_n 0, 1) := by decide +kernel
theorem db_hasRightLeaves_92 : decode kb_hasRightLeaves 92 = .ok (.getfield 26, 3) := by decide +kernel
theorem db_hasRightLeaves_95 : decode kb_hasRightLeaves 95 = .ok (.iload_n 1, 1) := by decide +kernel
theorem db_hasRightLeaves_96 : decode kb_hasRightLeaves 96 = .ok (.bipush 20, 2) := by decide +kernel
theorem db_hasRightLeaves_98 : decode kb_hasRightLeaves 98 = .ok (.imul, 1) := by decide +kernel
theorem db_hasRightLeaves_99 : decode kb_hasRightLeaves 99 = .ok (.bipush 18, 2) := by decide +kernel
theorem db_hasRightLeaves_101 : decode kb_hasRightLeaves 101 = .ok (.iadd, 1) := by decide +kernel
theorem db_hasRightLeaves_102 : decode kb_hasRightLeaves 102 = .ok (.laload, 1) := by decide +kernel
theorem db_hasRightLeaves_103 : decode kb_hasRightLeaves 103 = .ok (.lload 4, 2) := by decide +kernel
theorem db_hasRightLeaves_105 : decode kb_hasRightLeaves 105 = .ok (.lcmp, 1) := by decide +kernel
theorem db_hasRightLeaves_106 : decode kb_hasRightLeaves 106 = .ok (.ifCond .ne 7, 3) := by decide +kernel
theorem db_hasRightLeaves_109 : decode kb_hasRightLeaves 109 = .ok (.iconst 1, 1) := by decide +kernel
theorem db_hasRightLeaves_110 : decode kb_hasRightLeaves 110 = .ok (.goto 4, 3) := by decide +kernel
theorem db_hasRightLeaves_113 : decode kb_hasRightLeaves 113 = .ok (.iconst 0, 1) := by decide +kernel
theorem db_hasRightLeaves_114 : decode kb_hasRightLeaves 114 = .ok (.ireturn, 1) := by decide +kernel
theorem db_isKept_0 : decode kb_isKept 0 = .ok (.iload_n 1, 1) := by decide +kernel
theorem db_isKept_1 : decode kb_isKept 1 = .ok (.invokestatic 55, 3) := by decide +kernel
theorem db_isKept_4 : decode kb_isKept 4 = .ok (.istore_n 2, 1) := by decide +kernel
theorem db_isKept_5 : decode kb_isKept 5 = .ok (.iload_n 1, 1) := by decide +kernel
theorem db_isKept_6 : decode kb_isKept 6 = .ok (.aload_n 0, 1) := by decide +kernel
theorem db_isKept_7 : decode kb_isKept 7 = .ok (.getfield 52, 3) := by decide +kernel
theorem db_isKept_10 : decode kb_isKept 10 = .ok (.if_icmp .gt 30, 3) := by decide +kernel
theorem db_isKept_13 : decode kb_isKept 13 = .ok (.aload_n 0, 1) := by decide +kernel
theorem db_isKept_14 : decode kb_isKept 14 = .ok (.getfield 26, 3) := by decide +kernel
theorem db_isKept_17 : decode kb_isKept 17 = .ok (.iload_n 2, 1) := by decide +kernel
theorem db_isKept_18 : decode kb_isKept 18 = .ok (.bipush 20, 2) := by decide +kernel
theorem db_isKept_20 : decode kb_isKept 20 = .ok (.imul, 1) := by decide +kernel
theorem db_isKept_21 : decode kb_isKept 21 = .ok (.laload, 1) := by decide +kernel
theorem db_isKept_22 : decode kb_isKept 22 = .ok (.iload_n 1, 1) := by decide +kernel
theorem db_isKept_23 : decode kb_isKept 23 = .ok (.i2l, 1) := by decide +kernel
theorem db_isKept_24 : decode kb_isKept 24 = .ok (.lcmp, 1) := by decide +kernel
theorem db_isKept_25 : decode kb_isKept 25 = .ok (.ifCond .ne 15, 3) := by decide +kernel
theorem db_isKept_28 : decode kb_isKept 28 = .ok (.aload_n 0, 1) := by decide +kernel
theorem db_isKept_29 : decode kb_isKept 29 = .ok (.iload_n 2, 1) := by decide +kernel
theorem db_isKept_30 : decode kb_isKept 30 = .ok (.invokevirtual 219, 3) := by decide +kernel
theorem db_isKept_33 : decode kb_isKept 33 = .ok (.ifCond .eq 7, 3) := by decide +kernel
theorem db_isKept_36 : decode kb_isKept 36 = .ok (.iconst 1, 1) := by decide +kernel
theorem db_isKept_37 : decode kb_isKept 37 = .ok (.goto 4, 3) := by decide +kernel
theorem db_isKept_40 : decode kb_isKept 40 = .ok (.iconst 0, 1) := by decide +kernel
theorem db_isKept_41 : decode kb_isKept 41 = .ok (.ireturn, 1) := by decide +kernel
end
section
theorem db_heldPages_0 : decode kb_heldPages 0 = .ok (.lconst 0, 1) := by decide +kernel
theorem db_heldPages_1 : decode kb_heldPages 1 = .ok (.lstore_n 1, 1) := by decide +kernel
theorem db_heldPages_2 : decode kb_heldPages 2 = .ok (.iconst 0, 1) := by decide +kernel
theorem db_heldPages_3 : decode kb_heldPages 3 = .ok (.istore_n 3, 1) := by decide +kernel
theorem db_heldPages_4 : decode kb_heldPages 4 = .ok (.iload_n 3, 1) := by decide +kernel
theorem db_heldPages_5 : decode kb_heldPages 5 = .ok (.bipush 8, 2) := by decide +kernel
theorem db_heldPages_7 : decode kb_heldPages 7 = .ok (.if_icmp .ge 43, 3) := by decide +kernel
theorem db_heldPages_10 : decode kb_heldPages 10 = .ok (.aload_n 0, 1) := by decide +kernel
theorem db_heldPages_11 : decode kb_heldPages 11 = .ok (.getfield 26, 3) := by decide +kernel
theorem db_heldPages_14 : decode kb_heldPages 14 = .ok (.iload_n 3, 1) := by decide +kernel
theorem db_heldPages_15 : decode kb_heldPages 15 = .ok (.bipush 20, 2) := by decide +kernel
theorem db_heldPages_17 : decode kb_heldPages 17 = .ok (.imul, 1) := by decide +kernel
theorem db_heldPages_18 : decode kb_heldPages 18 = .ok (.laload, 1) := by decide +kernel
theorem db_heldPages_19 : decode kb_heldPages 19 = .ok (.aload_n 0, 1) := by decide +kernel
theorem db_heldPages_20 : decode kb_heldPages 20 = .ok (.getfield 52, 3) := by decide +kernel
theorem db_heldPages_23 : decode kb_heldPages 23 = .ok (.i2l, 1) := by decide +kernel
theorem db_heldPages_24 : decode kb_heldPages 24 = .ok (.lcmp, 1) := by decide +kernel
theorem db_heldPages_25 : decode kb_heldPages 25 = .ok (.ifCond .gt 19, 3) := by decide +kernel
theorem db_heldPages_28 : decode kb_heldPages 28 = .ok (.aload_n 0, 1) := by decide +kernel
theorem db_heldPages_29 : decode kb_heldPages 29 = .ok (.iload_n 3, 1) := by decide +kernel
theorem db_heldPages_30 : decode kb_heldPages 30 = .ok (.invokevirtual 200, 3) := by decide +kernel
theorem db_heldPages_33 : decode kb_heldPages 33 = .ok (.ifCond .eq 11, 3) := by decide +kernel
theorem db_heldPages_36 : decode kb_heldPages 36 = .ok (.lload_n 1, 1) := by decide +kernel
theorem db_heldPages_37 : decode kb_heldPages 37 = .ok (.aload_n 0, 1) := by decide +kernel
theorem db_heldPages_38 : decode kb_heldPages 38 = .ok (.iload_n 3, 1) := by decide +kernel
theorem db_heldPages_39 : decode kb_heldPages 39 = .ok (.invokevirtual 222, 3) := by decide +kernel
theorem db_heldPages_42 : decode kb_heldPages 42 = .ok (.lor, 1) := by decide +kernel
theorem db_heldPages_43 : decode kb_heldPages 43 = .ok (.lstore_n 1, 1) := by decide +kernel
theorem db_heldPages_44 : decode kb_heldPages 44 = .ok (.iinc 3 1, 3) := by decide +kernel
theorem db_heldPages_47 : decode kb_heldPages 47 = .ok (.goto (-43), 3) := by decide +kernel
theorem db_heldPages_50 : decode kb_heldPages 50 = .ok (.lload_n 1, 1) := by decide +kernel
theorem db_heldPages_51 : decode kb_heldPages 51 = .ok (.lreturn, 1) := by decide +kernel
theorem db_pagesOf_0 : decode kb_pagesOf 0 = .ok (.lconst 0, 1) := by decide +kernel
theorem db_pagesOf_1 : decode kb_pagesOf 1 = .ok (.lstore_n 2, 1) := by decide +kernel
theorem db_pagesOf_2 : decode kb_pagesOf 2 = .ok (.aload_n 0, 1) := by decide +kernel
theorem db_pagesOf_3 : decode kb_pagesOf 3 = .ok (.iload_n 1, 1) := by decide +kernel
theorem db_pagesOf_4 : decode kb_pagesOf 4 = .ok (.invokevirtual 96, 3) := by decide +kernel
theorem db_pagesOf_7 : decode kb_pagesOf 7 = .ok (.istore 4, 2) := by decide +kernel
theorem db_pagesOf_9 : decode kb_pagesOf 9 = .ok (.iconst 0, 1) := by decide +kernel
theorem db_pagesOf_10 : decode kb_pagesOf 10 = .ok (.istore 5, 2) := by decide +kernel
theorem db_pagesOf_12 : decode kb_pagesOf 12 = .ok (.iload 5, 2) := by decide +kernel
theorem db_pagesOf_14 : decode kb_pagesOf 14 = .ok (.iload 4, 2) := by decide +kernel
theorem db_pagesOf_16 : decode kb_pagesOf 16 = .ok (.if_icmp .ge 21, 3) := by decide +kernel
theorem db_pagesOf_19 : decode kb_pagesOf 19 = .ok (.lload_n 2, 1) := by decide +kernel
theorem db_pagesOf_20 : decode kb_pagesOf 20 = .ok (.lconst 1, 1) := by decide +kernel
theorem db_pagesOf_21 : decode kb_pagesOf 21 = .ok (.aload_n 0, 1) := by decide +kernel
theorem db_pagesOf_22 : decode kb_pagesOf 22 = .ok (.iload_n 1, 1) := by decide +kernel
theorem db_pagesOf_23 : decode kb_pagesOf 23 = .ok (.iload 5, 2) := by decide +kernel
theorem db_pagesOf_25 : decode kb_pagesOf 25 = .ok (.invokevirtual 206, 3) := by decide +kernel
theorem db_pagesOf_28 : decode kb_pagesOf 28 = .ok (.lshl, 1) := by decide +kernel
theorem db_pagesOf_29 : decode kb_pagesOf 29 = .ok (.lor, 1) := by decide +kernel
theorem db_pagesOf_30 : decode kb_pagesOf 30 = .ok (.lstore_n 2, 1) := by decide +kernel
theorem db_pagesOf_31 : decode kb_pagesOf 31 = .ok (.iinc 5 1, 3) := by decide +kernel
theorem db_pagesOf_34 : decode kb_pagesOf 34 = .ok (.goto (-22), 3) := by decide +kernel
theorem db_pagesOf_37 : decode kb_pagesOf 37 = .ok (.lload_n 2, 1) := by decide +kernel
theorem db_pagesOf_38 : decode kb_pagesOf 38 = .ok (.lreturn, 1) := by decide +kernel
theorem db_isIn_0 : decode kb_isIn 0 = .ok (.lload_n 0, 1) := by decide +kernel
theorem db_isIn_1 : decode kb_isIn 1 = .ok (.iload_n 2, 1) := by decide +kernel
theorem db_isIn_2 : decode kb_isIn 2 = .ok (.lushr, 1) := by decide +kernel
theorem db_isIn_3 : decode kb_isIn 3 = .ok (.lconst 1, 1) := by decide +kernel
theorem db_isIn_4 : decode kb_isIn 4 = .ok (.land, 1) := by decide +kernel
theorem db_isIn_5 : decode kb_isIn 5 = .ok (.lconst 0, 1) := by decide +kernel
theorem db_isIn_6 : decode kb_isIn 6 = .ok (.lcmp, 1) := by decide +kernel
theorem db_isIn_7 : decode kb_isIn 7 = .ok (.ifCond .eq 7, 3) := by decide +kernel
theorem db_isIn_10 : decode kb_isIn 10 = .ok (.iconst 1, 1) := by decide +kernel
theorem db_isIn_11 : decode kb_isIn 11 = .ok (.goto 4, 3) := by decide +kernel
theorem db_isIn_14 : decode kb_isIn 14 = .ok (.iconst 0, 1) := by decide +kernel
theorem db_isIn_15 : decode kb_isIn 15 = .ok (.ireturn, 1) := by decide +kernel
theorem db_greatestWhole_0 : decode kb_greatestWhole 0 = .ok (.ldc2_w 190, 3) := by decide +kernel
theorem db_greatestWhole_3 : decode kb_greatestWhole 3 = .ok (.lstore_n 1, 1) := by decide +kernel
theorem db_greatestWhole_4 : decode kb_greatestWhole 4 = .ok (.iconst 0, 1) := by decide +kernel
theorem db_greatestWhole_5 : decode kb_greatestWhole 5 = .ok (.istore_n 3, 1) := by decide +kernel
theorem db_greatestWhole_6 : decode kb_greatestWhole 6 = .ok (.iload_n 3, 1) := by decide +kernel
theorem db_greatestWhole_7 : decode kb_greatestWhole 7 = .ok (.bipush 8, 2) := by decide +kernel
theorem db_greatestWhole_9 : decode kb_greatestWhole 9 = .ok (.if_icmp .ge 69, 3) := by decide +kernel
theorem db_greatestWhole_12 : decode kb_greatestWhole 12 = .ok (.aload_n 0, 1) := by decide +kernel
theorem db_greatestWhole_13 : decode kb_greatestWhole 13 = .ok (.getfield 26, 3) := by decide +kernel
theorem db_greatestWhole_16 : decode kb_greatestWhole 16 = .ok (.iload_n 3, 1) := by decide +kernel
theorem db_greatestWhole_17 : decode kb_greatestWhole 17 = .ok (.bipush 20, 2) := by decide +kernel
theorem db_greatestWhole_19 : decode kb_greatestWhole 19 = .ok (.imul, 1) := by decide +kernel
theorem db_greatestWhole_20 : decode kb_greatestWhole 20 = .ok (.laload, 1) := by decide +kernel
theorem db_greatestWhole_21 : decode kb_greatestWhole 21 = .ok (.lstore 4, 2) := by decide +kernel
theorem db_greatestWhole_23 : decode kb_greatestWhole 23 = .ok (.lload 4, 2) := by decide +kernel
theorem db_greatestWhole_25 : decode kb_greatestWhole 25 = .ok (.lload_n 1, 1) := by decide +kernel
theorem db_greatestWhole_26 : decode kb_greatestWhole 26 = .ok (.lcmp, 1) := by decide +kernel
theorem db_greatestWhole_27 : decode kb_greatestWhole 27 = .ok (.ifCond .le 16, 3) := by decide +kernel
theorem db_greatestWhole_30 : decode kb_greatestWhole 30 = .ok (.lload 4, 2) := by decide +kernel
theorem db_greatestWhole_32 : decode kb_greatestWhole 32 = .ok (.ldc2_w 225, 3) := by decide +kernel
theorem db_greatestWhole_35 : decode kb_greatestWhole 35 = .ok (.lcmp, 1) := by decide +kernel
theorem db_greatestWhole_36 : decode kb_greatestWhole 36 = .ok (.ifCond .gt 7, 3) := by decide +kernel
theorem db_greatestWhole_39 : decode kb_greatestWhole 39 = .ok (.iconst 1, 1) := by decide +kernel
theorem db_greatestWhole_40 : decode kb_greatestWhole 40 = .ok (.goto 4, 3) := by decide +kernel
theorem db_greatestWhole_43 : decode kb_greatestWhole 43 = .ok (.iconst 0, 1) := by decide +kernel
theorem db_greatestWhole_44 : decode kb_greatestWhole 44 = .ok (.istore 6, 2) := by decide +kernel
theorem db_greatestWhole_46 : decode kb_greatestWhole 46 = .ok (.iload 6, 2) := by decide +kernel
theorem db_greatestWhole_48 : decode kb_greatestWhole 48 = .ok (.ifCond .eq 24, 3) := by decide +kernel
theorem db_greatestWhole_51 : decode kb_greatestWhole 51 = .ok (.lload 4, 2) := by decide +kernel
theorem db_greatestWhole_53 : decode kb_greatestWhole 53 = .ok (.l2i, 1) := by decide +kernel
theorem db_greatestWhole_54 : decode kb_greatestWhole 54 = .ok (.invokestatic 55, 3) := by decide +kernel
theorem db_greatestWhole_57 : decode kb_greatestWhole 57 = .ok (.iload_n 3, 1) := by decide +kernel
theorem db_greatestWhole_58 : decode kb_greatestWhole 58 = .ok (.if_icmp .ne 14, 3) := by decide +kernel
theorem db_greatestWhole_61 : decode kb_greatestWhole 61 = .ok (.aload_n 0, 1) := by decide +kernel
theorem db_greatestWhole_62 : decode kb_greatestWhole 62 = .ok (.iload_n 3, 1) := by decide +kernel
theorem db_greatestWhole_63 : decode kb_greatestWhole 63 = .ok (.invokevirtual 219, 3) := by decide +kernel
theorem db_greatestWhole_66 : decode kb_greatestWhole 66 = .ok (.ifCond .eq 6, 3) := by decide +kernel
theorem db_greatestWhole_69 : decode kb_greatestWhole 69 = .ok (.lload 4, 2) := by decide +kernel
theorem db_greatestWhole_71 : decode kb_greatestWhole 71 = .ok (.lstore_n 1, 1) := by decide +kernel
theorem db_greatestWhole_72 : decode kb_greatestWhole 72 = .ok (.iinc 3 1, 3) := by decide +kernel
theorem db_greatestWhole_75 : decode kb_greatestWhole 75 = .ok (.goto (-69), 3) := by decide +kernel
theorem db_greatestWhole_78 : decode kb_greatestWhole 78 = .ok (.lload_n 1, 1) := by decide +kernel
theorem db_greatestWhole_79 : decode kb_greatestWhole 79 = .ok (.l2i, 1) := by decide +kernel
theorem db_greatestWhole_80 : decode kb_greatestWhole 80 = .ok (.ireturn, 1) := by decide +kernel
theorem db_rootOf_0 : decode kb_rootOf 0 = .ok (.iload_n 0, 1) := by decide +kernel
theorem db_rootOf_1 : decode kb_rootOf 1 = .ok (.bipush 8, 2) := by decide +kernel
theorem db_rootOf_3 : decode kb_rootOf 3 = .ok (.invokestatic 227, 3) := by decide +kernel
theorem db_rootOf_6 : decode kb_rootOf 6 = .ok (.ireturn, 1) := by decide +kernel
theorem db_leavesOf_0 : decode kb_leavesOf 0 = .ok (.aload_n 0, 1) := by decide +kernel
theorem db_leavesOf_1 : decode kb_leavesOf 1 = .ok (.getfield 26, 3) := by decide +kernel
theorem db_leavesOf_4 : decode kb_leavesOf 4 = .ok (.iload_n 1, 1) := by decide +kernel
theorem db_leavesOf_5 : decode kb_leavesOf 5 = .ok (.bipush 20, 2) := by decide +kernel
theorem db_leavesOf_7 : decode kb_leavesOf 7 = .ok (.imul, 1) := by decide +kernel
theorem db_leavesOf_8 : decode kb_leavesOf 8 = .ok (.iconst 1, 1) := by decide +kernel
theorem db_leavesOf_9 : decode kb_leavesOf 9 = .ok (.iadd, 1) := by decide +kernel
theorem db_leavesOf_10 : decode kb_leavesOf 10 = .ok (.laload, 1) := by decide +kernel
theorem db_leavesOf_11 : decode kb_leavesOf 11 = .ok (.l2i, 1) := by decide +kernel
theorem db_leavesOf_12 : decode kb_leavesOf 12 = .ok (.ireturn, 1) := by decide +kernel
theorem db_pageOf_0 : decode kb_pageOf 0 = .ok (.aload_n 0, 1) := by decide +kernel
theorem db_pageOf_1 : decode kb_pageOf 1 = .ok (.getfield 26, 3) := by decide +kernel
theorem db_pageOf_4 : decode kb_pageOf 4 = .ok (.iload_n 1, 1) := by decide +kernel
theorem db_pageOf_5 : decode kb_pageOf 5 = .ok (.bipush 20, 2) := by decide +kernel
theorem db_pageOf_7 : decode kb_pageOf 7 = .ok (.imul, 1) := by decide +kernel
theorem db_pageOf_8 : decode kb_pageOf 8 = .ok (.iconst 2, 1) := by decide +kernel
theorem db_pageOf_9 : decode kb_pageOf 9 = .ok (.iadd, 1) := by decide +kernel
theorem db_pageOf_10 : decode kb_pageOf 10 = .ok (.iload_n 2, 1) := by decide +kernel
theorem db_pageOf_11 : decode kb_pageOf 11 = .ok (.iadd, 1) := by decide +kernel
theorem db_pageOf_12 : decode kb_pageOf 12 = .ok (.laload, 1) := by decide +kernel
theorem db_pageOf_13 : decode kb_pageOf 13 = .ok (.l2i, 1) := by decide +kernel
theorem db_pageOf_14 : decode kb_pageOf 14 = .ok (.ireturn, 1) := by decide +kernel
theorem db_entriesOfRoot_0 : decode kb_entriesOfRoot 0 = .ok (.aload_n 0, 1) := by decide +kernel
theorem db_entriesOfRoot_1 : decode kb_entriesOfRoot 1 = .ok (.getfield 26, 3) := by decide +kernel
theorem db_entriesOfRoot_4 : decode kb_entriesOfRoot 4 = .ok (.iload_n 1, 1) := by decide +kernel
theorem db_entriesOfRoot_5 : decode kb_entriesOfRoot 5 = .ok (.bipush 20, 2) := by decide +kernel
theorem db_entriesOfRoot_7 : decode kb_entriesOfRoot 7 = .ok (.imul, 1) := by decide +kernel
theorem db_entriesOfRoot_8 : decode kb_entriesOfRoot 8 = .ok (.bipush 18, 2) := by decide +kernel
theorem db_entriesOfRoot_10 : decode kb_entriesOfRoot 10 = .ok (.iadd, 1) := by decide +kernel
theorem db_entriesOfRoot_11 : decode kb_entriesOfRoot 11 = .ok (.laload, 1) := by decide +kernel
theorem db_entriesOfRoot_12 : decode kb_entriesOfRoot 12 = .ok (.l2i, 1) := by decide +kernel
theorem db_entriesOfRoot_13 : decode kb_entriesOfRoot 13 = .ok (.ireturn, 1) := by decide +kernel
theorem db_entriesOf_0 : decode kb_entriesOf 0 = .ok (.aload_n 0, 1) := by decide +kernel
theorem db_entriesOf_1 : decode kb_entriesOf 1 = .ok (.getfield 22, 3) := by decide +kernel
theorem db_entriesOf_4 : decode kb_entriesOf 4 = .ok (.iload_n 1, 1) := by decide +kernel
theorem db_entriesOf_5 : decode kb_entriesOf 5 = .ok (.bipush 16, 2) := by decide +kernel
theorem db_entriesOf_7 : decode kb_entriesOf 7 = .ok (.imul, 1) := by decide +kernel
theorem db_entriesOf_8 : decode kb_entriesOf 8 = .ok (.laload, 1) := by decide +kernel
theorem db_entriesOf_9 : decode kb_entriesOf 9 = .ok (.l2i, 1) := by decide +kernel
theorem db_entriesOf_10 : decode kb_entriesOf 10 = .ok (.ireturn, 1) := by decide +kernel
theorem db_entryAt_0 : decode kb_entryAt 0 = .ok (.iload_n 0, 1) := by decide +kernel
theorem db_entryAt_1 : decode kb_entryAt 1 = .ok (.bipush 16, 2) := by decide +kernel
theorem db_entryAt_3 : decode kb_entryAt 3 = .ok (.imul, 1) := by decide +kernel
theorem db_entryAt_4 : decode kb_entryAt 4 = .ok (.iconst 1, 1) := by decide +kernel
theorem db_entryAt_5 : decode kb_entryAt 5 = .ok (.iadd, 1) := by decide +kernel
theorem db_entryAt_6 : decode kb_entryAt 6 = .ok (.iconst 2, 1) := by decide +kernel
theorem db_entryAt_7 : decode kb_entryAt 7 = .ok (.iload_n 1, 1) := by decide +kernel
theorem db_entryAt_8 : decode kb_entryAt 8 = .ok (.imul, 1) := by decide +kernel
theorem db_entryAt_9 : decode kb_entryAt 9 = .ok (.iadd, 1) := by decide +kernel
theorem db_entryAt_10 : decode kb_entryAt 10 = .ok (.ireturn, 1) := by decide +kernel
theorem db_firstKey_0 : decode kb_firstKey 0 = .ok (.aload_n 0, 1) := by decide +kernel
theorem db_firstKey_1 : decode kb_firstKey 1 = .ok (.getfield 22, 3) := by decide +kernel
theorem db_firstKey_4 : decode kb_firstKey 4 = .ok (.iload_n 1, 1) := by decide +kernel
theorem db_firstKey_5 : decode kb_firstKey 5 = .ok (.iconst 0, 1) := by decide +kernel
theorem db_firstKey_6 : decode kb_firstKey 6 = .ok (.invokestatic 230, 3) := by decide +kernel
theorem db_firstKey_9 : decode kb_firstKey 9 = .ok (.laload, 1) := by decide +kernel
theorem db_firstKey_10 : decode kb_firstKey 10 = .ok (.lreturn, 1) := by decide +kernel
theorem db_lastKey_0 : decode kb_lastKey 0 = .ok (.aload_n 0, 1) := by decide +kernel
theorem db_lastKey_1 : decode kb_lastKey 1 = .ok (.getfield 22, 3) := by decide +kernel
theorem db_lastKey_4 : decode kb_lastKey 4 = .ok (.iload_n 1, 1) := by decide +kernel
theorem db_lastKey_5 : decode kb_lastKey 5 = .ok (.aload_n 0, 1) := by decide +kernel
theorem db_lastKey_6 : decode kb_lastKey 6 = .ok (.iload_n 1, 1) := by decide +kernel
theorem db_lastKey_7 : decode kb_lastKey 7 = .ok (.invokevirtual 209, 3) := by decide +kernel
theorem db_lastKey_10 : decode kb_lastKey 10 = .ok (.iconst 1, 1) := by decide +kernel
theorem db_lastKey_11 : decode kb_lastKey 11 = .ok (.isub, 1) := by decide +kernel
theorem db_lastKey_12 : decode kb_lastKey 12 = .ok (.invokestatic 230, 3) := by decide +kernel
theorem db_lastKey_15 : decode kb_lastKey 15 = .ok (.laload, 1) := by decide +kernel
theorem db_lastKey_16 : decode kb_lastKey 16 = .ok (.lreturn, 1) := by decide +kernel
theorem db_leafFor_0 : decode kb_leafFor 0 = .ok (.aload_n 0, 1) := by decide +kernel
theorem db_leafFor_1 : decode kb_leafFor 1 = .ok (.iload_n 1, 1) := by decide +kernel
theorem db_leafFor_2 : decode kb_leafFor 2 = .ok (.invokevirtual 96, 3) := by decide +kernel
theorem db_leafFor_5 : decode kb_leafFor 5 = .ok (.istore_n 3, 1) := by decide +kernel
theorem db_leafFor_6 : decode kb_leafFor 6 = .ok (.iload_n 3, 1) := by decide +kernel
theorem db_leafFor_7 : decode kb_leafFor 7 = .ok (.ifCond .ne 5, 3) := by decide +kernel
theorem db_leafFor_10 : decode kb_leafFor 10 = .ok (.iconst (-1), 1) := by decide +kernel
theorem db_leafFor_11 : decode kb_leafFor 11 = .ok (.ireturn, 1) := by decide +kernel
theorem db_leafFor_12 : decode kb_leafFor 12 = .ok (.iconst 0, 1) := by decide +kernel
theorem db_leafFor_13 : decode kb_leafFor 13 = .ok (.istore 4, 2) := by decide +kernel
theorem db_leafFor_15 : decode kb_leafFor 15 = .ok (.iconst 1, 1) := by decide +kernel
theorem db_leafFor_16 : decode kb_leafFor 16 = .ok (.istore 5, 2) := by decide +kernel
theorem db_leafFor_18 : decode kb_leafFor 18 = .ok (.iload 5, 2) := by decide +kernel
theorem db_leafFor_20 : decode kb_leafFor 20 = .ok (.iload_n 3, 1) := by decide +kernel
theorem db_leafFor_21 : decode kb_leafFor 21 = .ok (.if_icmp .ge 30, 3) := by decide +kernel
theorem db_leafFor_24 : decode kb_leafFor 24 = .ok (.aload_n 0, 1) := by decide +kernel
theorem db_leafFor_25 : decode kb_leafFor 25 = .ok (.aload_n 0, 1) := by decide +kernel
theorem db_leafFor_26 : decode kb_leafFor 26 = .ok (.iload_n 1, 1) := by decide +kernel
theorem db_leafFor_27 : decode kb_leafFor 27 = .ok (.iload 5, 2) := by decide +kernel
theorem db_leafFor_29 : decode kb_leafFor 29 = .ok (.invokevirtual 206, 3) := by decide +kernel
theorem db_leafFor_32 : decode kb_leafFor 32 = .ok (.invokevirtual 212, 3) := by decide +kernel
theorem db_leafFor_35 : decode kb_leafFor 35 = .ok (.iload_n 2, 1) := by decide +kernel
theorem db_leafFor_36 : decode kb_leafFor 36 = .ok (.i2l, 1) := by decide +kernel
theorem db_leafFor_37 : decode kb_leafFor 37 = .ok (.lcmp, 1) := by decide +kernel
theorem db_leafFor_38 : decode kb_leafFor 38 = .ok (.ifCond .gt 7, 3) := by decide +kernel
theorem db_leafFor_41 : decode kb_leafFor 41 = .ok (.iload 5, 2) := by decide +kernel
theorem db_leafFor_43 : decode kb_leafFor 43 = .ok (.istore 4, 2) := by decide +kernel
theorem db_leafFor_45 : decode kb_leafFor 45 = .ok (.iinc 5 1, 3) := by decide +kernel
theorem db_leafFor_48 : decode kb_leafFor 48 = .ok (.goto (-30), 3) := by decide +kernel
theorem db_leafFor_51 : decode kb_leafFor 51 = .ok (.iload 4, 2) := by decide +kernel
theorem db_leafFor_53 : decode kb_leafFor 53 = .ok (.ireturn, 1) := by decide +kernel
theorem db_entryWithKey_0 : decode kb_entryWithKey 0 = .ok (.aload_n 0, 1) := by decide +kernel
theorem db_entryWithKey_1 : decode kb_entryWithKey 1 = .ok (.iload_n 1, 1) := by decide +kernel
theorem db_entryWithKey_2 : decode kb_entryWithKey 2 = .ok (.iload_n 2, 1) := by decide +kernel
theorem db_entryWithKey_3 : decode kb_entryWithKey 3 = .ok (.invokevirtual 59, 3) := by decide +kernel
theorem db_entryWithKey_6 : decode kb_entryWithKey 6 = .ok (.istore_n 3, 1) := by decide +kernel
theorem db_entryWithKey_7 : decode kb_entryWithKey 7 = .ok (.iload_n 3, 1) := by decide +kernel
theorem db_entryWithKey_8 : decode kb_entryWithKey 8 = .ok (.iconst (-1), 1) := by decide +kernel
theorem db_entryWithKey_9 : decode kb_entryWithKey 9 = .ok (.if_icmp .ne 5, 3) := by decide +kernel
theorem db_entryWithKey_12 : decode kb_entryWithKey 12 = .ok (.iconst (-1), 1) := by decide +kernel
theorem db_entryWithKey_13 : decode kb_entryWithKey 13 = .ok (.ireturn, 1) := by decide +kernel
theorem db_entryWithKey_14 : decode kb_entryWithKey 14 = .ok (.aload_n 0, 1) := by decide +kernel
theorem db_entryWithKey_15 : decode kb_entryWithKey 15 = .ok (.iload_n 1, 1) := by decide +kernel
theorem db_entryWithKey_16 : decode kb_entryWithKey 16 = .ok (.iload_n 3, 1) := by decide +kernel
theorem db_entryWithKey_17 : decode kb_entryWithKey 17 = .ok (.invokevirtual 206, 3) := by decide +kernel
theorem db_entryWithKey_20 : decode kb_entryWithKey 20 = .ok (.istore 4, 2) := by decide +kernel
theorem db_entryWithKey_22 : decode kb_entryWithKey 22 = .ok (.aload_n 0, 1) := by decide +kernel
theorem db_entryWithKey_23 : decode kb_entryWithKey 23 = .ok (.iload 4, 2) := by decide +kernel
theorem db_entryWithKey_25 : decode kb_entryWithKey 25 = .ok (.invokevirtual 209, 3) := by decide +kernel
theorem db_entryWithKey_28 : decode kb_entryWithKey 28 = .ok (.istore 5, 2) := by decide +kernel
theorem db_entryWithKey_30 : decode kb_entryWithKey 30 = .ok (.iconst 0, 1) := by decide +kernel
theorem db_entryWithKey_31 : decode kb_entryWithKey 31 = .ok (.istore 6, 2) := by decide +kernel
theorem db_entryWithKey_33 : decode kb_entryWithKey 33 = .ok (.iload 6, 2) := by decide +kernel
theorem db_entryWithKey_35 : decode kb_entryWithKey 35 = .ok (.iload 5, 2) := by decide +kernel
theorem db_entryWithKey_37 : decode kb_entryWithKey 37 = .ok (.if_icmp .ge 35, 3) := by decide +kernel
theorem db_entryWithKey_40 : decode kb_entryWithKey 40 = .ok (.aload_n 0, 1) := by decide +kernel
theorem db_entryWithKey_41 : decode kb_entryWithKey 41 = .ok (.getfield 22, 3) := by decide +kernel
theorem db_entryWithKey_44 : decode kb_entryWithKey 44 = .ok (.iload 4, 2) := by decide +kernel
theorem db_entryWithKey_46 : decode kb_entryWithKey 46 = .ok (.iload 6, 2) := by decide +kernel
theorem db_entryWithKey_48 : decode kb_entryWithKey 48 = .ok (.invokestatic 230, 3) := by decide +kernel
theorem db_entryWithKey_51 : decode kb_entryWithKey 51 = .ok (.laload, 1) := by decide +kernel
theorem db_entryWithKey_52 : decode kb_entryWithKey 52 = .ok (.iload_n 2, 1) := by decide +kernel
theorem db_entryWithKey_53 : decode kb_entryWithKey 53 = .ok (.i2l, 1) := by decide +kernel
theorem db_entryWithKey_54 : decode kb_entryWithKey 54 = .ok (.lcmp, 1) := by decide +kernel
theorem db_entryWithKey_55 : decode kb_entryWithKey 55 = .ok (.ifCond .ne 11, 3) := by decide +kernel
theorem db_entryWithKey_58 : decode kb_entryWithKey 58 = .ok (.iload 4, 2) := by decide +kernel
theorem db_entryWithKey_60 : decode kb_entryWithKey 60 = .ok (.iload 6, 2) := by decide +kernel
theorem db_entryWithKey_62 : decode kb_entryWithKey 62 = .ok (.invokestatic 230, 3) := by decide +kernel
theorem db_entryWithKey_65 : decode kb_entryWithKey 65 = .ok (.ireturn, 1) := by decide +kernel
theorem db_entryWithKey_66 : decode kb_entryWithKey 66 = .ok (.iinc 6 1, 3) := by decide +kernel
theorem db_entryWithKey_69 : decode kb_entryWithKey 69 = .ok (.goto (-36), 3) := by decide +kernel
theorem db_entryWithKey_72 : decode kb_entryWithKey 72 = .ok (.iconst (-1), 1) := by decide +kernel
theorem db_entryWithKey_73 : decode kb_entryWithKey 73 = .ok (.ireturn, 1) := by decide +kernel
theorem db_entryByNumber_0 : decode kb_entryByNumber 0 = .ok (.iload_n 2, 1) := by decide +kernel
theorem db_entryByNumber_1 : decode kb_entryByNumber 1 = .ok (.ifCond .ge 5, 3) := by decide +kernel
theorem db_entryByNumber_4 : decode kb_entryByNumber 4 = .ok (.iconst (-1), 1) := by decide +kernel
theorem db_entryByNumber_5 : decode kb_entryByNumber 5 = .ok (.ireturn, 1) := by decide +kernel
theorem db_entryByNumber_6 : decode kb_entryByNumber 6 = .ok (.iload_n 2, 1) := by decide +kernel
theorem db_entryByNumber_7 : decode kb_entryByNumber 7 = .ok (.istore_n 3, 1) := by decide +kernel
theorem db_entryByNumber_8 : decode kb_entryByNumber 8 = .ok (.aload_n 0, 1) := by decide +kernel
theorem db_entryByNumber_9 : decode kb_entryByNumber 9 = .ok (.iload_n 1, 1) := by decide +kernel
theorem db_entryByNumber_10 : decode kb_entryByNumber 10 = .ok (.invokevirtual 96, 3) := by decide +kernel
theorem db_entryByNumber_13 : decode kb_entryByNumber 13 = .ok (.istore 4, 2) := by decide +kernel
theorem db_entryByNumber_15 : decode kb_entryByNumber 15 = .ok (.iconst 0, 1) := by decide +kernel
theorem db_entryByNumber_16 : decode kb_entryByNumber 16 = .ok (.istore 5, 2) := by decide +kernel
theorem db_entryByNumber_18 : decode kb_entryByNumber 18 = .ok (.iload 5, 2) := by decide +kernel
theorem db_entryByNumber_20 : decode kb_entryByNumber 20 = .ok (.iload 4, 2) := by decide +kernel
theorem db_entryByNumber_22 : decode kb_entryByNumber 22 = .ok (.if_icmp .ge 44, 3) := by decide +kernel
theorem db_entryByNumber_25 : decode kb_entryByNumber 25 = .ok (.aload_n 0, 1) := by decide +kernel
theorem db_entryByNumber_26 : decode kb_entryByNumber 26 = .ok (.iload_n 1, 1) := by decide +kernel
theorem db_entryByNumber_27 : decode kb_entryByNumber 27 = .ok (.iload 5, 2) := by decide +kernel
theorem db_entryByNumber_29 : decode kb_entryByNumber 29 = .ok (.invokevirtual 206, 3) := by decide +kernel
theorem db_entryByNumber_32 : decode kb_entryByNumber 32 = .ok (.istore 6, 2) := by decide +kernel
theorem db_entryByNumber_34 : decode kb_entryByNumber 34 = .ok (.aload_n 0, 1) := by decide +kernel
theorem db_entryByNumber_35 : decode kb_entryByNumber 35 = .ok (.iload 6, 2) := by decide +kernel
theorem db_entryByNumber_37 : decode kb_entryByNumber 37 = .ok (.invokevirtual 209, 3) := by decide +kernel
theorem db_entryByNumber_40 : decode kb_entryByNumber 40 = .ok (.istore 7, 2) := by decide +kernel
theorem db_entryByNumber_42 : decode kb_entryByNumber 42 = .ok (.iload_n 3, 1) := by decide +kernel
theorem db_entryByNumber_43 : decode kb_entryByNumber 43 = .ok (.iload 7, 2) := by decide +kernel
theorem db_entryByNumber_45 : decode kb_entryByNumber 45 = .ok (.if_icmp .ge 10, 3) := by decide +kernel
theorem db_entryByNumber_48 : decode kb_entryByNumber 48 = .ok (.iload 6, 2) := by decide +kernel
theorem db_entryByNumber_50 : decode kb_entryByNumber 50 = .ok (.iload_n 3, 1) := by decide +kernel
theorem db_entryByNumber_51 : decode kb_entryByNumber 51 = .ok (.invokestatic 230, 3) := by decide +kernel
theorem db_entryByNumber_54 : decode kb_entryByNumber 54 = .ok (.ireturn, 1) := by decide +kernel
theorem db_entryByNumber_55 : decode kb_entryByNumber 55 = .ok (.iload_n 3, 1) := by decide +kernel
theorem db_entryByNumber_56 : decode kb_entryByNumber 56 = .ok (.iload 7, 2) := by decide +kernel
theorem db_entryByNumber_58 : decode kb_entryByNumber 58 = .ok (.isub, 1) := by decide +kernel
theorem db_entryByNumber_59 : decode kb_entryByNumber 59 = .ok (.istore_n 3, 1) := by decide +kernel
theorem db_entryByNumber_60 : decode kb_entryByNumber 60 = .ok (.iinc 5 1, 3) := by decide +kernel
theorem db_entryByNumber_63 : decode kb_entryByNumber 63 = .ok (.goto (-45), 3) := by decide +kernel
theorem db_entryByNumber_66 : decode kb_entryByNumber 66 = .ok (.iconst (-1), 1) := by decide +kernel
theorem db_entryByNumber_67 : decode kb_entryByNumber 67 = .ok (.ireturn, 1) := by decide +kernel
theorem db_haveSameEntries_0 : decode kb_haveSameEntries 0 = .ok (.aload_n 0, 1) := by decide +kernel
theorem db_haveSameEntries_1 : decode kb_haveSameEntries 1 = .ok (.iload_n 1, 1) := by decide +kernel
theorem db_haveSameEntries_2 : decode kb_haveSameEntries 2 = .ok (.invokevirtual 93, 3) := by decide +kernel
theorem db_haveSameEntries_5 : decode kb_haveSameEntries 5 = .ok (.istore_n 3, 1) := by decide +kernel
theorem db_haveSameEntries_6 : decode kb_haveSameEntries 6 = .ok (.iload_n 3, 1) := by decide +kernel
theorem db_haveSameEntries_7 : decode kb_haveSameEntries 7 = .ok (.aload_n 0, 1) := by decide +kernel
theorem db_haveSameEntries_8 : decode kb_haveSameEntries 8 = .ok (.iload_n 2, 1) := by decide +kernel
theorem db_haveSameEntries_9 : decode kb_haveSameEntries 9 = .ok (.invokevirtual 93, 3) := by decide +kernel
theorem db_haveSameEntries_12 : decode kb_haveSameEntries 12 = .ok (.if_icmp .eq 5, 3) := by decide +kernel
theorem db_haveSameEntries_15 : decode kb_haveSameEntries 15 = .ok (.iconst 0, 1) := by decide +kernel
theorem db_haveSameEntries_16 : decode kb_haveSameEntries 16 = .ok (.ireturn, 1) := by decide +kernel
theorem db_haveSameEntries_17 : decode kb_haveSameEntries 17 = .ok (.iconst 0, 1) := by decide +kernel
theorem db_haveSameEntries_18 : decode kb_haveSameEntries 18 = .ok (.istore 4, 2) := by decide +kernel
theorem db_haveSameEntries_20 : decode kb_haveSameEntries 20 = .ok (.iload 4, 2) := by decide +kernel
theorem db_haveSameEntries_22 : decode kb_haveSameEntries 22 = .ok (.iload_n 3, 1) := by decide +kernel
theorem db_haveSameEntries_23 : decode kb_haveSameEntries 23 = .ok (.if_icmp .ge 81, 3) := by decide +kernel
theorem db_haveSameEntries_26 : decode kb_haveSameEntries 26 = .ok (.aload_n 0, 1) := by decide +kernel
theorem db_haveSameEntries_27 : decode kb_haveSameEntries 27 = .ok (.iload_n 1, 1) := by decide +kernel
theorem db_haveSameEntries_28 : decode kb_haveSameEntries 28 = .ok (.iload 4, 2) := by decide +kernel
theorem db_haveSameEntries_30 : decode kb_haveSameEntries 30 = .ok (.invokevirtual 99, 3) := by decide +kernel
theorem db_haveSameEntries_33 : decode kb_haveSameEntries 33 = .ok (.istore 5, 2) := by decide +kernel
theorem db_haveSameEntries_35 : decode kb_haveSameEntries 35 = .ok (.aload_n 0, 1) := by decide +kernel
theorem db_haveSameEntries_36 : decode kb_haveSameEntries 36 = .ok (.iload_n 2, 1) := by decide +kernel
theorem db_haveSameEntries_37 : decode kb_haveSameEntries 37 = .ok (.iload 4, 2) := by decide +kernel
theorem db_haveSameEntries_39 : decode kb_haveSameEntries 39 = .ok (.invokevirtual 99, 3) := by decide +kernel
theorem db_haveSameEntries_42 : decode kb_haveSameEntries 42 = .ok (.istore 6, 2) := by decide +kernel
theorem db_haveSameEntries_44 : decode kb_haveSameEntries 44 = .ok (.iload 5, 2) := by decide +kernel
theorem db_haveSameEntries_46 : decode kb_haveSameEntries 46 = .ok (.iconst (-1), 1) := by decide +kernel
theorem db_haveSameEntries_47 : decode kb_haveSameEntries 47 = .ok (.if_icmp .eq 49, 3) := by decide +kernel
theorem db_haveSameEntries_50 : decode kb_haveSameEntries 50 = .ok (.iload 6, 2) := by decide +kernel
theorem db_haveSameEntries_52 : decode kb_haveSameEntries 52 = .ok (.iconst (-1), 1) := by decide +kernel
theorem db_haveSameEntries_53 : decode kb_haveSameEntries 53 = .ok (.if_icmp .eq 43, 3) := by decide +kernel
theorem db_haveSameEntries_56 : decode kb_haveSameEntries 56 = .ok (.aload_n 0, 1) := by decide +kernel
theorem db_haveSameEntries_57 : decode kb_haveSameEntries 57 = .ok (.getfield 22, 3) := by decide +kernel
theorem db_haveSameEntries_60 : decode kb_haveSameEntries 60 = .ok (.iload 5, 2) := by decide +kernel
theorem db_haveSameEntries_62 : decode kb_haveSameEntries 62 = .ok (.laload, 1) := by decide +kernel
theorem db_haveSameEntries_63 : decode kb_haveSameEntries 63 = .ok (.aload_n 0, 1) := by decide +kernel
theorem db_haveSameEntries_64 : decode kb_haveSameEntries 64 = .ok (.getfield 22, 3) := by decide +kernel
theorem db_haveSameEntries_67 : decode kb_haveSameEntries 67 = .ok (.iload 6, 2) := by decide +kernel
theorem db_haveSameEntries_69 : decode kb_haveSameEntries 69 = .ok (.laload, 1) := by decide +kernel
theorem db_haveSameEntries_70 : decode kb_haveSameEntries 70 = .ok (.lcmp, 1) := by decide +kernel
theorem db_haveSameEntries_71 : decode kb_haveSameEntries 71 = .ok (.ifCond .ne 25, 3) := by decide +kernel
theorem db_haveSameEntries_74 : decode kb_haveSameEntries 74 = .ok (.aload_n 0, 1) := by decide +kernel
theorem db_haveSameEntries_75 : decode kb_haveSameEntries 75 = .ok (.getfield 22, 3) := by decide +kernel
theorem db_haveSameEntries_78 : decode kb_haveSameEntries 78 = .ok (.iload 5, 2) := by decide +kernel
theorem db_haveSameEntries_80 : decode kb_haveSameEntries 80 = .ok (.iconst 1, 1) := by decide +kernel
theorem db_haveSameEntries_81 : decode kb_haveSameEntries 81 = .ok (.iadd, 1) := by decide +kernel
theorem db_haveSameEntries_82 : decode kb_haveSameEntries 82 = .ok (.laload, 1) := by decide +kernel
theorem db_haveSameEntries_83 : decode kb_haveSameEntries 83 = .ok (.aload_n 0, 1) := by decide +kernel
theorem db_haveSameEntries_84 : decode kb_haveSameEntries 84 = .ok (.getfield 22, 3) := by decide +kernel
theorem db_haveSameEntries_87 : decode kb_haveSameEntries 87 = .ok (.iload 6, 2) := by decide +kernel
theorem db_haveSameEntries_89 : decode kb_haveSameEntries 89 = .ok (.iconst 1, 1) := by decide +kernel
theorem db_haveSameEntries_90 : decode kb_haveSameEntries 90 = .ok (.iadd, 1) := by decide +kernel
theorem db_haveSameEntries_91 : decode kb_haveSameEntries 91 = .ok (.laload, 1) := by decide +kernel
theorem db_haveSameEntries_92 : decode kb_haveSameEntries 92 = .ok (.lcmp, 1) := by decide +kernel
theorem db_haveSameEntries_93 : decode kb_haveSameEntries 93 = .ok (.ifCond .eq 5, 3) := by decide +kernel
theorem db_haveSameEntries_96 : decode kb_haveSameEntries 96 = .ok (.iconst 0, 1) := by decide +kernel
theorem db_haveSameEntries_97 : decode kb_haveSameEntries 97 = .ok (.ireturn, 1) := by decide +kernel
theorem db_haveSameEntries_98 : decode kb_haveSameEntries 98 = .ok (.iinc 4 1, 3) := by decide +kernel
theorem db_haveSameEntries_101 : decode kb_haveSameEntries 101 = .ok (.goto (-81), 3) := by decide +kernel
theorem db_haveSameEntries_104 : decode kb_haveSameEntries 104 = .ok (.iconst 1, 1) := by decide +kernel
theorem db_haveSameEntries_105 : decode kb_haveSameEntries 105 = .ok (.ireturn, 1) := by decide +kernel
theorem db_loadDraft_0 : decode kb_loadDraft 0 = .ok (.aload_n 0, 1) := by decide +kernel
theorem db_loadDraft_1 : decode kb_loadDraft 1 = .ok (.iconst 0, 1) := by decide +kernel
theorem db_loadDraft_2 : decode kb_loadDraft 2 = .ok (.putfield 233, 3) := by decide +kernel
theorem db_loadDraft_5 : decode kb_loadDraft 5 = .ok (.iload_n 2, 1) := by decide +kernel
theorem db_loadDraft_6 : decode kb_loadDraft 6 = .ok (.iconst (-1), 1) := by decide +kernel
theorem db_loadDraft_7 : decode kb_loadDraft 7 = .ok (.if_icmp .ne 4, 3) := by decide +kernel
theorem db_loadDraft_10 : decode kb_loadDraft 10 = .ok (.return_, 1) := by decide +kernel
theorem db_loadDraft_11 : decode kb_loadDraft 11 = .ok (.aload_n 0, 1) := by decide +kernel
theorem db_loadDraft_12 : decode kb_loadDraft 12 = .ok (.iload_n 1, 1) := by decide +kernel
theorem db_loadDraft_13 : decode kb_loadDraft 13 = .ok (.iload_n 2, 1) := by decide +kernel
theorem db_loadDraft_14 : decode kb_loadDraft 14 = .ok (.invokevirtual 206, 3) := by decide +kernel
theorem db_loadDraft_17 : decode kb_loadDraft 17 = .ok (.istore_n 3, 1) := by decide +kernel
theorem db_loadDraft_18 : decode kb_loadDraft 18 = .ok (.aload_n 0, 1) := by decide +kernel
theorem db_loadDraft_19 : decode kb_loadDraft 19 = .ok (.iload_n 3, 1) := by decide +kernel
theorem db_loadDraft_20 : decode kb_loadDraft 20 = .ok (.invokevirtual 209, 3) := by decide +kernel
theorem db_loadDraft_23 : decode kb_loadDraft 23 = .ok (.istore 4, 2) := by decide +kernel
theorem db_loadDraft_25 : decode kb_loadDraft 25 = .ok (.iconst 0, 1) := by decide +kernel
theorem db_loadDraft_26 : decode kb_loadDraft 26 = .ok (.istore 5, 2) := by decide +kernel
theorem db_loadDraft_28 : decode kb_loadDraft 28 = .ok (.iload 5, 2) := by decide +kernel
theorem db_loadDraft_30 : decode kb_loadDraft 30 = .ok (.iload 4, 2) := by decide +kernel
theorem db_loadDraft_32 : decode kb_loadDraft 32 = .ok (.if_icmp .ge 47, 3) := by decide +kernel
theorem db_loadDraft_35 : decode kb_loadDraft 35 = .ok (.aload_n 0, 1) := by decide +kernel
theorem db_loadDraft_36 : decode kb_loadDraft 36 = .ok (.getfield 36, 3) := by decide +kernel
theorem db_loadDraft_39 : decode kb_loadDraft 39 = .ok (.iload 5, 2) := by decide +kernel
theorem db_loadDraft_41 : decode kb_loadDraft 41 = .ok (.aload_n 0, 1) := by decide +kernel
theorem db_loadDraft_42 : decode kb_loadDraft 42 = .ok (.getfield 22, 3) := by decide +kernel
theorem db_loadDraft_45 : decode kb_loadDraft 45 = .ok (.iload_n 3, 1) := by decide +kernel
theorem db_loadDraft_46 : decode kb_loadDraft 46 = .ok (.iload 5, 2) := by decide +kernel
theorem db_loadDraft_48 : decode kb_loadDraft 48 = .ok (.invokestatic 230, 3) := by decide +kernel
theorem db_loadDraft_51 : decode kb_loadDraft 51 = .ok (.laload, 1) := by decide +kernel
theorem db_loadDraft_52 : decode kb_loadDraft 52 = .ok (.lastore, 1) := by decide +kernel
theorem db_loadDraft_53 : decode kb_loadDraft 53 = .ok (.aload_n 0, 1) := by decide +kernel
theorem db_loadDraft_54 : decode kb_loadDraft 54 = .ok (.getfield 39, 3) := by decide +kernel
theorem db_loadDraft_57 : decode kb_loadDraft 57 = .ok (.iload 5, 2) := by decide +kernel
theorem db_loadDraft_59 : decode kb_loadDraft 59 = .ok (.aload_n 0, 1) := by decide +kernel
theorem db_loadDraft_60 : decode kb_loadDraft 60 = .ok (.getfield 22, 3) := by decide +kernel
theorem db_loadDraft_63 : decode kb_loadDraft 63 = .ok (.iload_n 3, 1) := by decide +kernel
theorem db_loadDraft_64 : decode kb_loadDraft 64 = .ok (.iload 5, 2) := by decide +kernel
theorem db_loadDraft_66 : decode kb_loadDraft 66 = .ok (.invokestatic 230, 3) := by decide +kernel
theorem db_loadDraft_69 : decode kb_loadDraft 69 = .ok (.iconst 1, 1) := by decide +kernel
theorem db_loadDraft_70 : decode kb_loadDraft 70 = .ok (.iadd, 1) := by decide +kernel
theorem db_loadDraft_71 : decode kb_loadDraft 71 = .ok (.laload, 1) := by decide +kernel
theorem db_loadDraft_72 : decode kb_loadDraft 72 = .ok (.lastore, 1) := by decide +kernel
theorem db_loadDraft_73 : decode kb_loadDraft 73 = .ok (.iinc 5 1, 3) := by decide +kernel
theorem db_loadDraft_76 : decode kb_loadDraft 76 = .ok (.goto (-48), 3) := by decide +kernel
theorem db_loadDraft_79 : decode kb_loadDraft 79 = .ok (.aload_n 0, 1) := by decide +kernel
theorem db_loadDraft_80 : decode kb_loadDraft 80 = .ok (.iload 4, 2) := by decide +kernel
theorem db_loadDraft_82 : decode kb_loadDraft 82 = .ok (.putfield 233, 3) := by decide +kernel
theorem db_loadDraft_85 : decode kb_loadDraft 85 = .ok (.return_, 1) := by decide +kernel
theorem db_placeInDraft_0 : decode kb_placeInDraft 0 = .ok (.iconst 0, 1) := by decide +kernel
theorem db_placeInDraft_1 : decode kb_placeInDraft 1 = .ok (.istore_n 2, 1) := by decide +kernel
theorem db_placeInDraft_2 : decode kb_placeInDraft 2 = .ok (.iload_n 2, 1) := by decide +kernel
theorem db_placeInDraft_3 : decode kb_placeInDraft 3 = .ok (.aload_n 0, 1) := by decide +kernel
theorem db_placeInDraft_4 : decode kb_placeInDraft 4 = .ok (.getfield 233, 3) := by decide +kernel
theorem db_placeInDraft_7 : decode kb_placeInDraft 7 = .ok (.if_icmp .ge 21, 3) := by decide +kernel
theorem db_placeInDraft_10 : decode kb_placeInDraft 10 = .ok (.aload_n 0, 1) := by decide +kernel
theorem db_placeInDraft_11 : decode kb_placeInDraft 11 = .ok (.getfield 36, 3) := by decide +kernel
theorem db_placeInDraft_14 : decode kb_placeInDraft 14 = .ok (.iload_n 2, 1) := by decide +kernel
theorem db_placeInDraft_15 : decode kb_placeInDraft 15 = .ok (.laload, 1) := by decide +kernel
theorem db_placeInDraft_16 : decode kb_placeInDraft 16 = .ok (.iload_n 1, 1) := by decide +kernel
theorem db_placeInDraft_17 : decode kb_placeInDraft 17 = .ok (.i2l, 1) := by decide +kernel
theorem db_placeInDraft_18 : decode kb_placeInDraft 18 = .ok (.lcmp, 1) := by decide +kernel
theorem db_placeInDraft_19 : decode kb_placeInDraft 19 = .ok (.ifCond .ge 9, 3) := by decide +kernel
theorem db_placeInDraft_22 : decode kb_placeInDraft 22 = .ok (.iinc 2 1, 3) := by decide +kernel
theorem db_placeInDraft_25 : decode kb_placeInDraft 25 = .ok (.goto (-23), 3) := by decide +kernel
theorem db_placeInDraft_28 : decode kb_placeInDraft 28 = .ok (.iload_n 2, 1) := by decide +kernel
theorem db_placeInDraft_29 : decode kb_placeInDraft 29 = .ok (.ireturn, 1) := by decide +kernel
theorem db_draftHasAt_0 : decode kb_draftHasAt 0 = .ok (.iload_n 1, 1) := by decide +kernel
theorem db_draftHasAt_1 : decode kb_draftHasAt 1 = .ok (.aload_n 0, 1) := by decide +kernel
theorem db_draftHasAt_2 : decode kb_draftHasAt 2 = .ok (.getfield 233, 3) := by decide +kernel
theorem db_draftHasAt_5 : decode kb_draftHasAt 5 = .ok (.if_icmp .ge 19, 3) := by decide +kernel
theorem db_draftHasAt_8 : decode kb_draftHasAt 8 = .ok (.aload_n 0, 1) := by decide +kernel
theorem db_draftHasAt_9 : decode kb_draftHasAt 9 = .ok (.getfield 36, 3) := by decide +kernel
theorem db_draftHasAt_12 : decode kb_draftHasAt 12 = .ok (.iload_n 1, 1) := by decide +kernel
theorem db_draftHasAt_13 : decode kb_draftHasAt 13 = .ok (.laload, 1) := by decide +kernel
theorem db_draftHasAt_14 : decode kb_draftHasAt 14 = .ok (.iload_n 2, 1) := by decide +kernel
theorem db_draftHasAt_15 : decode kb_draftHasAt 15 = .ok (.i2l, 1) := by decide +kernel
theorem db_draftHasAt_16 : decode kb_draftHasAt 16 = .ok (.lcmp, 1) := by decide +kernel
theorem db_draftHasAt_17 : decode kb_draftHasAt 17 = .ok (.ifCond .ne 7, 3) := by decide +kernel
theorem db_draftHasAt_20 : decode kb_draftHasAt 20 = .ok (.iconst 1, 1) := by decide +kernel
theorem db_draftHasAt_21 : decode kb_draftHasAt 21 = .ok (.goto 4, 3) := by decide +kernel
theorem db_draftHasAt_24 : decode kb_draftHasAt 24 = .ok (.iconst 0, 1) := by decide +kernel
theorem db_draftHasAt_25 : decode kb_draftHasAt 25 = .ok (.ireturn, 1) := by decide +kernel
theorem db_putInDraft_0 : decode kb_putInDraft 0 = .ok (.aload_n 0, 1) := by decide +kernel
theorem db_putInDraft_1 : decode kb_putInDraft 1 = .ok (.iload_n 1, 1) := by decide +kernel
theorem db_putInDraft_2 : decode kb_putInDraft 2 = .ok (.invokevirtual 236, 3) := by decide +kernel
theorem db_putInDraft_5 : decode kb_putInDraft 5 = .ok (.istore 4, 2) := by decide +kernel
theorem db_putInDraft_7 : decode kb_putInDraft 7 = .ok (.aload_n 0, 1) := by decide +kernel
theorem db_putInDraft_8 : decode kb_putInDraft 8 = .ok (.iload 4, 2) := by decide +kernel
theorem db_putInDraft_10 : decode kb_putInDraft 10 = .ok (.iload_n 1, 1) := by decide +kernel
theorem db_putInDraft_11 : decode kb_putInDraft 11 = .ok (.invokevirtual 239, 3) := by decide +kernel
theorem db_putInDraft_14 : decode kb_putInDraft 14 = .ok (.ifCond .ne 64, 3) := by decide +kernel
theorem db_putInDraft_17 : decode kb_putInDraft 17 = .ok (.aload_n 0, 1) := by decide +kernel
theorem db_putInDraft_18 : decode kb_putInDraft 18 = .ok (.getfield 233, 3) := by decide +kernel
theorem db_putInDraft_21 : decode kb_putInDraft 21 = .ok (.istore 5, 2) := by decide +kernel
theorem db_putInDraft_23 : decode kb_putInDraft 23 = .ok (.iload 5, 2) := by decide +kernel
theorem db_putInDraft_25 : decode kb_putInDraft 25 = .ok (.iload 4, 2) := by decide +kernel
theorem db_putInDraft_27 : decode kb_putInDraft 27 = .ok (.if_icmp .le 41, 3) := by decide +kernel
theorem db_putInDraft_30 : decode kb_putInDraft 30 = .ok (.aload_n 0, 1) := by decide +kernel
theorem db_putInDraft_31 : decode kb_putInDraft 31 = .ok (.getfield 36, 3) := by decide +kernel
theorem db_putInDraft_34 : decode kb_putInDraft 34 = .ok (.iload 5, 2) := by decide +kernel
theorem db_putInDraft_36 : decode kb_putInDraft 36 = .ok (.aload_n 0, 1) := by decide +kernel
theorem db_putInDraft_37 : decode kb_putInDraft 37 = .ok (.getfield 36, 3) := by decide +kernel
theorem db_putInDraft_40 : decode kb_putInDraft 40 = .ok (.iload 5, 2) := by decide +kernel
theorem db_putInDraft_42 : decode kb_putInDraft 42 = .ok (.iconst 1, 1) := by decide +kernel
theorem db_putInDraft_43 : decode kb_putInDraft 43 = .ok (.isub, 1) := by decide +kernel
theorem db_putInDraft_44 : decode kb_putInDraft 44 = .ok (.laload, 1) := by decide +kernel
theorem db_putInDraft_45 : decode kb_putInDraft 45 = .ok (.lastore, 1) := by decide +kernel
theorem db_putInDraft_46 : decode kb_putInDraft 46 = .ok (.aload_n 0, 1) := by decide +kernel
theorem db_putInDraft_47 : decode kb_putInDraft 47 = .ok (.getfield 39, 3) := by decide +kernel
theorem db_putInDraft_50 : decode kb_putInDraft 50 = .ok (.iload 5, 2) := by decide +kernel
theorem db_putInDraft_52 : decode kb_putInDraft 52 = .ok (.aload_n 0, 1) := by decide +kernel
theorem db_putInDraft_53 : decode kb_putInDraft 53 = .ok (.getfield 39, 3) := by decide +kernel
theorem db_putInDraft_56 : decode kb_putInDraft 56 = .ok (.iload 5, 2) := by decide +kernel
theorem db_putInDraft_58 : decode kb_putInDraft 58 = .ok (.iconst 1, 1) := by decide +kernel
theorem db_putInDraft_59 : decode kb_putInDraft 59 = .ok (.isub, 1) := by decide +kernel
theorem db_putInDraft_60 : decode kb_putInDraft 60 = .ok (.laload, 1) := by decide +kernel
theorem db_putInDraft_61 : decode kb_putInDraft 61 = .ok (.lastore, 1) := by decide +kernel
theorem db_putInDraft_62 : decode kb_putInDraft 62 = .ok (.iinc 5 (-1), 3) := by decide +kernel
theorem db_putInDraft_65 : decode kb_putInDraft 65 = .ok (.goto (-42), 3) := by decide +kernel
theorem db_putInDraft_68 : decode kb_putInDraft 68 = .ok (.aload_n 0, 1) := by decide +kernel
theorem db_putInDraft_69 : decode kb_putInDraft 69 = .ok (.dup, 1) := by decide +kernel
theorem db_putInDraft_70 : decode kb_putInDraft 70 = .ok (.getfield 233, 3) := by decide +kernel
theorem db_putInDraft_73 : decode kb_putInDraft 73 = .ok (.iconst 1, 1) := by decide +kernel
theorem db_putInDraft_74 : decode kb_putInDraft 74 = .ok (.iadd, 1) := by decide +kernel
theorem db_putInDraft_75 : decode kb_putInDraft 75 = .ok (.putfield 233, 3) := by decide +kernel
theorem db_putInDraft_78 : decode kb_putInDraft 78 = .ok (.aload_n 0, 1) := by decide +kernel
theorem db_putInDraft_79 : decode kb_putInDraft 79 = .ok (.getfield 36, 3) := by decide +kernel
theorem db_putInDraft_82 : decode kb_putInDraft 82 = .ok (.iload 4, 2) := by decide +kernel
theorem db_putInDraft_84 : decode kb_putInDraft 84 = .ok (.iload_n 1, 1) := by decide +kernel
theorem db_putInDraft_85 : decode kb_putInDraft 85 = .ok (.i2l, 1) := by decide +kernel
theorem db_putInDraft_86 : decode kb_putInDraft 86 = .ok (.lastore, 1) := by decide +kernel
theorem db_putInDraft_87 : decode kb_putInDraft 87 = .ok (.aload_n 0, 1) := by decide +kernel
theorem db_putInDraft_88 : decode kb_putInDraft 88 = .ok (.getfield 39, 3) := by decide +kernel
theorem db_putInDraft_91 : decode kb_putInDraft 91 = .ok (.iload 4, 2) := by decide +kernel
theorem db_putInDraft_93 : decode kb_putInDraft 93 = .ok (.lload_n 2, 1) := by decide +kernel
theorem db_putInDraft_94 : decode kb_putInDraft 94 = .ok (.lastore, 1) := by decide +kernel
theorem db_putInDraft_95 : decode kb_putInDraft 95 = .ok (.return_, 1) := by decide +kernel
theorem db_dropFromDraft_0 : decode kb_dropFromDraft 0 = .ok (.aload_n 0, 1) := by decide +kernel
theorem db_dropFromDraft_1 : decode kb_dropFromDraft 1 = .ok (.iload_n 1, 1) := by decide +kernel
theorem db_dropFromDraft_2 : decode kb_dropFromDraft 2 = .ok (.invokevirtual 236, 3) := by decide +kernel
theorem db_dropFromDraft_5 : decode kb_dropFromDraft 5 = .ok (.istore_n 2, 1) := by decide +kernel
theorem db_dropFromDraft_6 : decode kb_dropFromDraft 6 = .ok (.aload_n 0, 1) := by decide +kernel
theorem db_dropFromDraft_7 : decode kb_dropFromDraft 7 = .ok (.iload_n 2, 1) := by decide +kernel
theorem db_dropFromDraft_8 : decode kb_dropFromDraft 8 = .ok (.iload_n 1, 1) := by decide +kernel
theorem db_dropFromDraft_9 : decode kb_dropFromDraft 9 = .ok (.invokevirtual 239, 3) := by decide +kernel
theorem db_dropFromDraft_12 : decode kb_dropFromDraft 12 = .ok (.ifCond .ne 5, 3) := by decide +kernel
theorem db_dropFromDraft_15 : decode kb_dropFromDraft 15 = .ok (.iconst 0, 1) := by decide +kernel
theorem db_dropFromDraft_16 : decode kb_dropFromDraft 16 = .ok (.ireturn, 1) := by decide +kernel
theorem db_dropFromDraft_17 : decode kb_dropFromDraft 17 = .ok (.aload_n 0, 1) := by decide +kernel
theorem db_dropFromDraft_18 : decode kb_dropFromDraft 18 = .ok (.dup, 1) := by decide +kernel
theorem db_dropFromDraft_19 : decode kb_dropFromDraft 19 = .ok (.getfield 233, 3) := by decide +kernel
theorem db_dropFromDraft_22 : decode kb_dropFromDraft 22 = .ok (.iconst 1, 1) := by decide +kernel
theorem db_dropFromDraft_23 : decode kb_dropFromDraft 23 = .ok (.isub, 1) := by decide +kernel
theorem db_dropFromDraft_24 : decode kb_dropFromDraft 24 = .ok (.putfield 233, 3) := by decide +kernel
theorem db_dropFromDraft_27 : decode kb_dropFromDraft 27 = .ok (.iload_n 2, 1) := by decide +kernel
theorem db_dropFromDraft_28 : decode kb_dropFromDraft 28 = .ok (.istore_n 3, 1) := by decide +kernel
theorem db_dropFromDraft_29 : decode kb_dropFromDraft 29 = .ok (.iload_n 3, 1) := by decide +kernel
theorem db_dropFromDraft_30 : decode kb_dropFromDraft 30 = .ok (.aload_n 0, 1) := by decide +kernel
theorem db_dropFromDraft_31 : decode kb_dropFromDraft 31 = .ok (.getfield 233, 3) := by decide +kernel
theorem db_dropFromDraft_34 : decode kb_dropFromDraft 34 = .ok (.if_icmp .ge 37, 3) := by decide +kernel
theorem db_dropFromDraft_37 : decode kb_dropFromDraft 37 = .ok (.aload_n 0, 1) := by decide +kernel
theorem db_dropFromDraft_38 : decode kb_dropFromDraft 38 = .ok (.getfield 36, 3) := by decide +kernel
theorem db_dropFromDraft_41 : decode kb_dropFromDraft 41 = .ok (.iload_n 3, 1) := by decide +kernel
theorem db_dropFromDraft_42 : decode kb_dropFromDraft 42 = .ok (.aload_n 0, 1) := by decide +kernel
theorem db_dropFromDraft_43 : decode kb_dropFromDraft 43 = .ok (.getfield 36, 3) := by decide +kernel
theorem db_dropFromDraft_46 : decode kb_dropFromDraft 46 = .ok (.iload_n 3, 1) := by decide +kernel
theorem db_dropFromDraft_47 : decode kb_dropFromDraft 47 = .ok (.iconst 1, 1) := by decide +kernel
theorem db_dropFromDraft_48 : decode kb_dropFromDraft 48 = .ok (.iadd, 1) := by decide +kernel
theorem db_dropFromDraft_49 : decode kb_dropFromDraft 49 = .ok (.laload, 1) := by decide +kernel
theorem db_dropFromDraft_50 : decode kb_dropFromDraft 50 = .ok (.lastore, 1) := by decide +kernel
theorem db_dropFromDraft_51 : decode kb_dropFromDraft 51 = .ok (.aload_n 0, 1) := by decide +kernel
theorem db_dropFromDraft_52 : decode kb_dropFromDraft 52 = .ok (.getfield 39, 3) := by decide +kernel
theorem db_dropFromDraft_55 : decode kb_dropFromDraft 55 = .ok (.iload_n 3, 1) := by decide +kernel
theorem db_dropFromDraft_56 : decode kb_dropFromDraft 56 = .ok (.aload_n 0, 1) := by decide +kernel
theorem db_dropFromDraft_57 : decode kb_dropFromDraft 57 = .ok (.getfield 39, 3) := by decide +kernel
theorem db_dropFromDraft_60 : decode kb_dropFromDraft 60 = .ok (.iload_n 3, 1) := by decide +kernel
theorem db_dropFromDraft_61 : decode kb_dropFromDraft 61 = .ok (.iconst 1, 1) := by decide +kernel
theorem db_dropFromDraft_62 : decode kb_dropFromDraft 62 = .ok (.iadd, 1) := by decide +kernel
theorem db_dropFromDraft_63 : decode kb_dropFromDraft 63 = .ok (.laload, 1) := by decide +kernel
theorem db_dropFromDraft_64 : decode kb_dropFromDraft 64 = .ok (.lastore, 1) := by decide +kernel
theorem db_dropFromDraft_65 : decode kb_dropFromDraft 65 = .ok (.iinc 3 1, 3) := by decide +kernel
theorem db_dropFromDraft_68 : decode kb_dropFromDraft 68 = .ok (.goto (-39), 3) := by decide +kernel
theorem db_dropFromDraft_71 : decode kb_dropFromDraft 71 = .ok (.iconst 1, 1) := by decide +kernel
theorem db_dropFromDraft_72 : decode kb_dropFromDraft 72 = .ok (.ireturn, 1) := by decide +kernel
theorem db_act_0 : decode kb_act 0 = .ok (.aload_n 0, 1) := by decide +kernel
theorem db_act_1 : decode kb_act 1 = .ok (.getfield 233, 3) := by decide +kernel
theorem db_act_4 : decode kb_act 4 = .ok (.bipush 7, 2) := by decide +kernel
theorem db_act_6 : decode kb_act 6 = .ok (.if_icmp .le 7, 3) := by decide +kernel
theorem db_act_9 : decode kb_act 9 = .ok (.iconst 2, 1) := by decide +kernel
theorem db_act_10 : decode kb_act 10 = .ok (.goto 15, 3) := by decide +kernel
theorem db_act_13 : decode kb_act 13 = .ok (.aload_n 0, 1) := by decide +kernel
theorem db_act_14 : decode kb_act 14 = .ok (.getfield 233, 3) := by decide +kernel
theorem db_act_17 : decode kb_act 17 = .ok (.ifCond .le 7, 3) := by decide +kernel
theorem db_act_20 : decode kb_act 20 = .ok (.iconst 1, 1) := by decide +kernel
theorem db_act_21 : decode kb_act 21 = .ok (.goto 4, 3) := by decide +kernel
theorem db_act_24 : decode kb_act 24 = .ok (.iconst 0, 1) := by decide +kernel
theorem db_act_25 : decode kb_act 25 = .ok (.istore_n 3, 1) := by decide +kernel
theorem db_act_26 : decode kb_act 26 = .ok (.iload_n 2, 1) := by decide +kernel
theorem db_act_27 : decode kb_act 27 = .ok (.iconst (-1), 1) := by decide +kernel
theorem db_act_28 : decode kb_act 28 = .ok (.if_icmp .ne 7, 3) := by decide +kernel
theorem db_act_31 : decode kb_act 31 = .ok (.iconst 0, 1) := by decide +kernel
theorem db_act_32 : decode kb_act 32 = .ok (.goto 4, 3) := by decide +kernel
theorem db_act_35 : decode kb_act 35 = .ok (.iconst 1, 1) := by decide +kernel
theorem db_act_36 : decode kb_act 36 = .ok (.istore 4, 2) := by decide +kernel
theorem db_act_38 : decode kb_act 38 = .ok (.aload_n 0, 1) := by decide +kernel
theorem db_act_39 : decode kb_act 39 = .ok (.iload_n 1, 1) := by decide +kernel
theorem db_act_40 : decode kb_act 40 = .ok (.invokevirtual 96, 3) := by decide +kernel
theorem db_act_43 : decode kb_act 43 = .ok (.iload 4, 2) := by decide +kernel
theorem db_act_45 : decode kb_act 45 = .ok (.isub, 1) := by decide +kernel
theorem db_act_46 : decode kb_act 46 = .ok (.iload_n 3, 1) := by decide +kernel
theorem db_act_47 : decode kb_act 47 = .ok (.iadd, 1) := by decide +kernel
theorem db_act_48 : decode kb_act 48 = .ok (.bipush 16, 2) := by decide +kernel
theorem db_act_50 : decode kb_act 50 = .ok (.if_icmp .le 13, 3) := by decide +kernel
theorem db_act_53 : decode kb_act 53 = .ok (.new 125, 3) := by decide +kernel
theorem db_act_56 : decode kb_act 56 = .ok (.dup, 1) := by decide +kernel
theorem db_act_57 : decode kb_act 57 = .ok (.ldc 242, 2) := by decide +kernel
theorem db_act_59 : decode kb_act 59 = .ok (.invokespecial 129, 3) := by decide +kernel
theorem db_act_62 : decode kb_act 62 = .ok (.athrow, 1) := by decide +kernel
theorem db_act_63 : decode kb_act 63 = .ok (.aload_n 0, 1) := by decide +kernel
theorem db_act_64 : decode kb_act 64 = .ok (.invokevirtual 111, 3) := by decide +kernel
theorem db_act_67 : decode kb_act 67 = .ok (.lstore 5, 2) := by decide +kernel
theorem db_act_69 : decode kb_act 69 = .ok (.iload_n 3, 1) := by decide +kernel
theorem db_act_70 : decode kb_act 70 = .ok (.ifCond .le 13, 3) := by decide +kernel
theorem db_act_73 : decode kb_act 73 = .ok (.aload_n 0, 1) := by decide +kernel
theorem db_act_74 : decode kb_act 74 = .ok (.lload 5, 2) := by decide +kernel
theorem db_act_76 : decode kb_act 76 = .ok (.iconst 0, 1) := by decide +kernel
theorem db_act_77 : decode kb_act 77 = .ok (.invokevirtual 244, 3) := by decide +kernel
theorem db_act_80 : decode kb_act 80 = .ok (.goto 4, 3) := by decide +kernel
theorem db_act_83 : decode kb_act 83 = .ok (.iconst 0, 1) := by decide +kernel
theorem db_act_84 : decode kb_act 84 = .ok (.istore 7, 2) := by decide +kernel
theorem db_act_86 : decode kb_act 86 = .ok (.iload_n 3, 1) := by decide +kernel
theorem db_act_87 : decode kb_act 87 = .ok (.iconst 1, 1) := by decide +kernel
theorem db_act_88 : decode kb_act 88 = .ok (.if_icmp .le 22, 3) := by decide +kernel
theorem db_act_91 : decode kb_act 91 = .ok (.iload 7, 2) := by decide +kernel
theorem db_act_93 : decode kb_act 93 = .ok (.iconst (-1), 1) := by decide +kernel
theorem db_act_94 : decode kb_act 94 = .ok (.if_icmp .eq 16, 3) := by decide +kernel
theorem db_act_97 : decode kb_act 97 = .ok (.aload_n 0, 1) := by decide +kernel
theorem db_act_98 : decode kb_act 98 = .ok (.lload 5, 2) := by decide +kernel
theorem db_act_100 : decode kb_act 100 = .ok (.iload 7, 2) := by decide +kernel
theorem db_act_102 : decode kb_act 102 = .ok (.iconst 1, 1) := by decide +kernel
theorem db_act_103 : decode kb_act 103 = .ok (.iadd, 1) := by decide +kernel
theorem db_act_104 : decode kb_act 104 = .ok (.invokevirtual 244, 3) := by decide +kernel
theorem db_act_107 : decode kb_act 107 = .ok (.goto 4, 3) := by decide +kernel
theorem db_act_110 : decode kb_act 110 = .ok (.iconst 0, 1) := by decide +kernel
theorem db_act_111 : decode kb_act 111 = .ok (.istore 8, 2) := by decide +kernel
theorem db_act_113 : decode kb_act 113 = .ok (.iload 7, 2) := by decide +kernel
theorem db_act_115 : decode kb_act 115 = .ok (.iconst (-1), 1) := by decide +kernel
theorem db_act_116 : decode kb_act 116 = .ok (.if_icmp .eq 9, 3) := by decide +kernel
theorem db_act_119 : decode kb_act 119 = .ok (.iload 8, 2) := by decide +kernel
theorem db_act_121 : decode kb_act 121 = .ok (.iconst (-1), 1) := by decide +kernel
theorem db_act_122 : decode kb_act 122 = .ok (.if_icmp .ne 13, 3) := by decide +kernel
theorem db_act_125 : decode kb_act 125 = .ok (.new 125, 3) := by decide +kernel
theorem db_act_128 : decode kb_act 128 = .ok (.dup, 1) := by decide +kernel
theorem db_act_129 : decode kb_act 129 = .ok (.ldc 248, 2) := by decide +kernel
theorem db_act_131 : decode kb_act 131 = .ok (.invokespecial 129, 3) := by decide +kernel
theorem db_act_134 : decode kb_act 134 = .ok (.athrow, 1) := by decide +kernel
theorem db_act_135 : decode kb_act 135 = .ok (.aload_n 0, 1) := by decide +kernel
theorem db_act_136 : decode kb_act 136 = .ok (.getfield 29, 3) := by decide +kernel
theorem db_act_139 : decode kb_act 139 = .ok (.iconst 0, 1) := by decide +kernel
theorem db_act_140 : decode kb_act 140 = .ok (.iload 7, 2) := by decide +kernel
theorem db_act_142 : decode kb_act 142 = .ok (.iastore, 1) := by decide +kernel
theorem db_act_143 : decode kb_act 143 = .ok (.aload_n 0, 1) := by decide +kernel
theorem db_act_144 : decode kb_act 144 = .ok (.getfield 29, 3) := by decide +kernel
theorem db_act_147 : decode kb_act 147 = .ok (.iconst 1, 1) := by decide +kernel
theorem db_act_148 : decode kb_act 148 = .ok (.iload 8, 2) := by decide +kernel
theorem db_act_150 : decode kb_act 150 = .ok (.iastore, 1) := by decide +kernel
theorem db_act_151 : decode kb_act 151 = .ok (.aload_n 0, 1) := by decide +kernel
theorem db_act_152 : decode kb_act 152 = .ok (.iload_n 3, 1) := by decide +kernel
theorem db_act_153 : decode kb_act 153 = .ok (.putfield 250, 3) := by decide +kernel
theorem db_act_156 : decode kb_act 156 = .ok (.aload_n 0, 1) := by decide +kernel
theorem db_act_157 : decode kb_act 157 = .ok (.aload_n 0, 1) := by decide +kernel
theorem db_act_158 : decode kb_act 158 = .ok (.getfield 52, 3) := by decide +kernel
theorem db_act_161 : decode kb_act 161 = .ok (.iconst 1, 1) := by decide +kernel
theorem db_act_162 : decode kb_act 162 = .ok (.iadd, 1) := by decide +kernel
theorem db_act_163 : decode kb_act 163 = .ok (.invokestatic 55, 3) := by decide +kernel
theorem db_act_166 : decode kb_act 166 = .ok (.putfield 253, 3) := by decide +kernel
theorem db_act_169 : decode kb_act 169 = .ok (.aload_n 0, 1) := by decide +kernel
theorem db_act_170 : decode kb_act 170 = .ok (.invokevirtual 256, 3) := by decide +kernel
theorem db_act_173 : decode kb_act 173 = .ok (.aload_n 0, 1) := by decide +kernel
theorem db_act_174 : decode kb_act 174 = .ok (.invokevirtual 259, 3) := by decide +kernel
theorem db_act_177 : decode kb_act 177 = .ok (.aload_n 0, 1) := by decide +kernel
theorem db_act_178 : decode kb_act 178 = .ok (.iload_n 1, 1) := by decide +kernel
theorem db_act_179 : decode kb_act 179 = .ok (.iload_n 2, 1) := by decide +kernel
theorem db_act_180 : decode kb_act 180 = .ok (.invokevirtual 262, 3) := by decide +kernel
theorem db_act_183 : decode kb_act 183 = .ok (.aload_n 0, 1) := by decide +kernel
theorem db_act_184 : decode kb_act 184 = .ok (.dup, 1) := by decide +kernel
theorem db_act_185 : decode kb_act 185 = .ok (.getfield 52, 3) := by decide +kernel
theorem db_act_188 : decode kb_act 188 = .ok (.iconst 1, 1) := by decide +kernel
theorem db_act_189 : decode kb_act 189 = .ok (.iadd, 1) := by decide +kernel
theorem db_act_190 : decode kb_act 190 = .ok (.putfield 52, 3) := by decide +kernel
theorem db_act_193 : decode kb_act 193 = .ok (.aload_n 0, 1) := by decide +kernel
theorem db_act_194 : decode kb_act 194 = .ok (.iconst 1, 1) := by decide +kernel
theorem db_act_195 : decode kb_act 195 = .ok (.putfield 121, 3) := by decide +kernel
theorem db_act_198 : decode kb_act 198 = .ok (.aload_n 0, 1) := by decide +kernel
theorem db_act_199 : decode kb_act 199 = .ok (.getfield 52, 3) := by decide +kernel
theorem db_act_202 : decode kb_act 202 = .ok (.ireturn, 1) := by decide +kernel
theorem db_pageNotIn_0 : decode kb_pageNotIn 0 = .ok (.iload_n 3, 1) := by decide +kernel
theorem db_pageNotIn_1 : decode kb_pageNotIn 1 = .ok (.istore 4, 2) := by decide +kernel
theorem db_pageNotIn_3 : decode kb_pageNotIn 3 = .ok (.iload 4, 2) := by decide +kernel
theorem db_pageNotIn_5 : decode kb_pageNotIn 5 = .ok (.aload_n 0, 1) := by decide +kernel
theorem db_pageNotIn_6 : decode kb_pageNotIn 6 = .ok (.getfield 18, 3) := by decide +kernel
theorem db_pageNotIn_9 : decode kb_pageNotIn 9 = .ok (.if_icmp .ge 21, 3) := by decide +kernel
theorem db_pageNotIn_12 : decode kb_pageNotIn 12 = .ok (.lload_n 1, 1) := by decide +kernel
theorem db_pageNotIn_13 : decode kb_pageNotIn 13 = .ok (.iload 4, 2) := by decide +kernel
theorem db_pageNotIn_15 : decode kb_pageNotIn 15 = .ok (.invokestatic 155, 3) := by decide +kernel
theorem db_pageNotIn_18 : decode kb_pageNotIn 18 = .ok (.ifCond .ne 6, 3) := by decide +kernel
theorem db_pageNotIn_21 : decode kb_pageNotIn 21 = .ok (.iload 4, 2) := by decide +kernel
theorem db_pageNotIn_23 : decode kb_pageNotIn 23 = .ok (.ireturn, 1) := by decide +kernel
theorem db_pageNotIn_24 : decode kb_pageNotIn 24 = .ok (.iinc 4 1, 3) := by decide +kernel
theorem db_pageNotIn_27 : decode kb_pageNotIn 27 = .ok (.goto (-24), 3) := by decide +kernel
theorem db_pageNotIn_30 : decode kb_pageNotIn 30 = .ok (.iconst (-1), 1) := by decide +kernel
theorem db_pageNotIn_31 : decode kb_pageNotIn 31 = .ok (.ireturn, 1) := by decide +kernel
theorem db_writeLeaves_0 : decode kb_writeLeaves 0 = .ok (.aload_n 0, 1) := by decide +kernel
theorem db_writeLeaves_1 : decode kb_writeLeaves 1 = .ok (.getfield 250, 3) := by decide +kernel
theorem db_writeLeaves_4 : decode kb_writeLeaves 4 = .ok (.iconst 1, 1) := by decide +kernel
theorem db_writeLeaves_5 : decode kb_writeLeaves 5 = .ok (.if_icmp .ne 18, 3) := by decide +kernel
theorem db_writeLeaves_8 : decode kb_writeLeaves 8 = .ok (.aload_n 0, 1) := by decide +kernel
theorem db_writeLeaves_9 : decode kb_writeLeaves 9 = .ok (.aload_n 0, 1) := by decide +kernel
theorem db_writeLeaves_10 : decode kb_writeLeaves 10 = .ok (.getfield 29, 3) := by decide +kernel
theorem db_writeLeaves_13 : decode kb_writeLeaves 13 = .ok (.iconst 0, 1) := by decide +kernel
theorem db_writeLeaves_14 : decode kb_writeLeaves 14 = .ok (.iaload, 1) := by decide +kernel
theorem db_writeLeaves_15 : decode kb_writeLeaves 15 = .ok (.iconst 0, 1) := by decide +kernel
theorem db_writeLeaves_16 : decode kb_writeLeaves 16 = .ok (.aload_n 0, 1) := by decide +kernel
theorem db_writeLeaves_17 : decode kb_writeLeaves 17 = .ok (.getfield 233, 3) := by decide +kernel
theorem db_writeLeaves_20 : decode kb_writeLeaves 20 = .ok (.invokevirtual 265, 3) := by decide +kernel
theorem db_writeLeaves_23 : decode kb_writeLeaves 23 = .ok (.aload_n 0, 1) := by decide +kernel
theorem db_writeLeaves_24 : decode kb_writeLeaves 24 = .ok (.getfield 250, 3) := by decide +kernel
theorem db_writeLeaves_27 : decode kb_writeLeaves 27 = .ok (.iconst 2, 1) := by decide +kernel
theorem db_writeLeaves_28 : decode kb_writeLeaves 28 = .ok (.if_icmp .ne 30, 3) := by decide +kernel
theorem db_writeLeaves_31 : decode kb_writeLeaves 31 = .ok (.aload_n 0, 1) := by decide +kernel
theorem db_writeLeaves_32 : decode kb_writeLeaves 32 = .ok (.aload_n 0, 1) := by decide +kernel
theorem db_writeLeaves_33 : decode kb_writeLeaves 33 = .ok (.getfield 29, 3) := by decide +kernel
theorem db_writeLeaves_36 : decode kb_writeLeaves 36 = .ok (.iconst 0, 1) := by decide +kernel
theorem db_writeLeaves_37 : decode kb_writeLeaves 37 = .ok (.iaload, 1) := by decide +kernel
theorem db_writeLeaves_38 : decode kb_writeLeaves 38 = .ok (.iconst 0, 1) := by decide +kernel
theorem db_writeLeaves_39 : decode kb_writeLeaves 39 = .ok (.iconst 4, 1) := by decide +kernel
theorem db_writeLeaves_40 : decode kb_writeLeaves 40 = .ok (.invokevirtual 265, 3) := by decide +kernel
theorem db_writeLeaves_43 : decode kb_writeLeaves 43 = .ok (.aload_n 0, 1) := by decide +kernel
theorem db_writeLeaves_44 : decode kb_writeLeaves 44 = .ok (.aload_n 0, 1) := by decide +kernel
theorem db_writeLeaves_45 : decode kb_writeLeaves 45 = .ok (.getfield 29, 3) := by decide +kernel
theorem db_writeLeaves_48 : decode kb_writeLeaves 48 = .ok (.iconst 1, 1) := by decide +kernel
theorem db_writeLeaves_49 : decode kb_writeLeaves 49 = .ok (.iaload, 1) := by decide +kernel
theorem db_writeLeaves_50 : decode kb_writeLeaves 50 = .ok (.iconst 4, 1) := by decide +kernel
theorem db_writeLeaves_51 : decode kb_writeLeaves 51 = .ok (.aload_n 0, 1) := by decide +kernel
theorem db_writeLeaves_52 : decode kb_writeLeaves 52 = .ok (.getfield 233, 3) := by decide +kernel
theorem db_writeLeaves_55 : decode kb_writeLeaves 55 = .ok (.invokevirtual 265, 3) := by decide +kernel
theorem db_writeLeaves_58 : decode kb_writeLeaves 58 = .ok (.return_, 1) := by decide +kernel
theorem db_writeLeaf_0 : decode kb_writeLeaf 0 = .ok (.iload_n 1, 1) := by decide +kernel
theorem db_writeLeaf_1 : decode kb_writeLeaf 1 = .ok (.bipush 16, 2) := by decide +kernel
theorem db_writeLeaf_3 : decode kb_writeLeaf 3 = .ok (.imul, 1) := by decide +kernel
theorem db_writeLeaf_4 : decode kb_writeLeaf 4 = .ok (.istore 4, 2) := by decide +kernel
theorem db_writeLeaf_6 : decode kb_writeLeaf 6 = .ok (.iconst 0, 1) := by decide +kernel
theorem db_writeLeaf_7 : decode kb_writeLeaf 7 = .ok (.istore 5, 2) := by decide +kernel
theorem db_writeLeaf_9 : decode kb_writeLeaf 9 = .ok (.iload 5, 2) := by decide +kernel
theorem db_writeLeaf_11 : decode kb_writeLeaf 11 = .ok (.bipush 16, 2) := by decide +kernel
theorem db_writeLeaf_13 : decode kb_writeLeaf 13 = .ok (.if_icmp .ge 20, 3) := by decide +kernel
theorem db_writeLeaf_16 : decode kb_writeLeaf 16 = .ok (.aload_n 0, 1) := by decide +kernel
theorem db_writeLeaf_17 : decode kb_writeLeaf 17 = .ok (.getfield 22, 3) := by decide +kernel
theorem db_writeLeaf_20 : decode kb_writeLeaf 20 = .ok (.iload 4, 2) := by decide +kernel
theorem db_writeLeaf_22 : decode kb_writeLeaf 22 = .ok (.iload 5, 2) := by decide +kernel
theorem db_writeLeaf_24 : decode kb_writeLeaf 24 = .ok (.iadd, 1) := by decide +kernel
theorem db_writeLeaf_25 : decode kb_writeLeaf 25 = .ok (.lconst 0, 1) := by decide +kernel
theorem db_writeLeaf_26 : decode kb_writeLeaf 26 = .ok (.lastore, 1) := by decide +kernel
theorem db_writeLeaf_27 : decode kb_writeLeaf 27 = .ok (.iinc 5 1, 3) := by decide +kernel
theorem db_writeLeaf_30 : decode kb_writeLeaf 30 = .ok (.goto (-21), 3) := by decide +kernel
theorem db_writeLeaf_33 : decode kb_writeLeaf 33 = .ok (.aload_n 0, 1) := by decide +kernel
theorem db_writeLeaf_34 : decode kb_writeLeaf 34 = .ok (.getfield 22, 3) := by decide +kernel
theorem db_writeLeaf_37 : decode kb_writeLeaf 37 = .ok (.iload 4, 2) := by decide +kernel
theorem db_writeLeaf_39 : decode kb_writeLeaf 39 = .ok (.iload_n 3, 1) := by decide +kernel
theorem db_writeLeaf_40 : decode kb_writeLeaf 40 = .ok (.iload_n 2, 1) := by decide +kernel
theorem db_writeLeaf_41 : decode kb_writeLeaf 41 = .ok (.isub, 1) := by decide +kernel
theorem db_writeLeaf_42 : decode kb_writeLeaf 42 = .ok (.i2l, 1) := by decide +kernel
theorem db_writeLeaf_43 : decode kb_writeLeaf 43 = .ok (.lastore, 1) := by decide +kernel
theorem db_writeLeaf_44 : decode kb_writeLeaf 44 = .ok (.iload_n 2, 1) := by decide +kernel
theorem db_writeLeaf_45 : decode kb_writeLeaf 45 = .ok (.istore 5, 2) := by decide +kernel
theorem db_writeLeaf_47 : decode kb_writeLeaf 47 = .ok (.iload 5, 2) := by decide +kernel
theorem db_writeLeaf_49 : decode kb_writeLeaf 49 = .ok (.iload_n 3, 1) := by decide +kernel
theorem db_writeLeaf_50 : decode kb_writeLeaf 50 = .ok (.if_icmp .ge 51, 3) := by decide +kernel
theorem db_writeLeaf_53 : decode kb_writeLeaf 53 = .ok (.aload_n 0, 1) := by decide +kernel
theorem db_writeLeaf_54 : decode kb_writeLeaf 54 = .ok (.getfield 22, 3) := by decide +kernel
theorem db_writeLeaf_57 : decode kb_writeLeaf 57 = .ok (.iload_n 1, 1) := by decide +kernel
theorem db_writeLeaf_58 : decode kb_writeLeaf 58 = .ok (.iload 5, 2) := by decide +kernel
theorem db_writeLeaf_60 : decode kb_writeLeaf 60 = .ok (.iload_n 2, 1) := by decide +kernel
theorem db_writeLeaf_61 : decode kb_writeLeaf 61 = .ok (.isub, 1) := by decide +kernel
theorem db_writeLeaf_62 : decode kb_writeLeaf 62 = .ok (.invokestatic 230, 3) := by decide +kernel
theorem db_writeLeaf_65 : decode kb_writeLeaf 65 = .ok (.aload_n 0, 1) := by decide +kernel
theorem db_writeLeaf_66 : decode kb_writeLeaf 66 = .ok (.getfield 36, 3) := by decide +kernel
theorem db_writeLeaf_69 : decode kb_writeLeaf 69 = .ok (.iload 5, 2) := by decide +kernel
theorem db_writeLeaf_71 : decode kb_writeLeaf 71 = .ok (.laload, 1) := by decide +kernel
theorem db_writeLeaf_72 : decode kb_writeLeaf 72 = .ok (.lastore, 1) := by decide +kernel
theorem db_writeLeaf_73 : decode kb_writeLeaf 73 = .ok (.aload_n 0, 1) := by decide +kernel
theorem db_writeLeaf_74 : decode kb_writeLeaf 74 = .ok (.getfield 22, 3) := by decide +kernel
theorem db_writeLeaf_77 : decode kb_writeLeaf 77 = .ok (.iload_n 1, 1) := by decide +kernel
theorem db_writeLeaf_78 : decode kb_writeLeaf 78 = .ok (.iload 5, 2) := by decide +kernel
theorem db_writeLeaf_80 : decode kb_writeLeaf 80 = .ok (.iload_n 2, 1) := by decide +kernel
theorem db_writeLeaf_81 : decode kb_writeLeaf 81 = .ok (.isub, 1) := by decide +kernel
theorem db_writeLeaf_82 : decode kb_writeLeaf 82 = .ok (.invokestatic 230, 3) := by decide +kernel
theorem db_writeLeaf_85 : decode kb_writeLeaf 85 = .ok (.iconst 1, 1) := by decide +kernel
theorem db_writeLeaf_86 : decode kb_writeLeaf 86 = .ok (.iadd, 1) := by decide +kernel
theorem db_writeLeaf_87 : decode kb_writeLeaf 87 = .ok (.aload_n 0, 1) := by decide +kernel
theorem db_writeLeaf_88 : decode kb_writeLeaf 88 = .ok (.getfield 39, 3) := by decide +kernel
theorem db_writeLeaf_91 : decode kb_writeLeaf 91 = .ok (.iload 5, 2) := by decide +kernel
theorem db_writeLeaf_93 : decode kb_writeLeaf 93 = .ok (.laload, 1) := by decide +kernel
theorem db_writeLeaf_94 : decode kb_writeLeaf 94 = .ok (.lastore, 1) := by decide +kernel
theorem db_writeLeaf_95 : decode kb_writeLeaf 95 = .ok (.iinc 5 1, 3) := by decide +kernel
theorem db_writeLeaf_98 : decode kb_writeLeaf 98 = .ok (.goto (-51), 3) := by decide +kernel
theorem db_writeLeaf_101 : decode kb_writeLeaf 101 = .ok (.aload_n 0, 1) := by decide +kernel
theorem db_writeLeaf_102 : decode kb_writeLeaf 102 = .ok (.getfield 22, 3) := by decide +kernel
theorem db_writeLeaf_105 : decode kb_writeLeaf 105 = .ok (.iload 4, 2) := by decide +kernel
theorem db_writeLeaf_107 : decode kb_writeLeaf 107 = .ok (.bipush 15, 2) := by decide +kernel
theorem db_writeLeaf_109 : decode kb_writeLeaf 109 = .ok (.iadd, 1) := by decide +kernel
theorem db_writeLeaf_110 : decode kb_writeLeaf 110 = .ok (.aload_n 0, 1) := by decide +kernel
theorem db_writeLeaf_111 : decode kb_writeLeaf 111 = .ok (.getfield 22, 3) := by decide +kernel
theorem db_writeLeaf_114 : decode kb_writeLeaf 114 = .ok (.iload 4, 2) := by decide +kernel
theorem db_writeLeaf_116 : decode kb_writeLeaf 116 = .ok (.bipush 15, 2) := by decide +kernel
theorem db_writeLeaf_118 : decode kb_writeLeaf 118 = .ok (.invokestatic 194, 3) := by decide +kernel
theorem db_writeLeaf_121 : decode kb_writeLeaf 121 = .ok (.lastore, 1) := by decide +kernel
theorem db_writeLeaf_122 : decode kb_writeLeaf 122 = .ok (.return_, 1) := by decide +kernel
theorem db_writeRoot_0 : decode kb_writeRoot 0 = .ok (.aload_n 0, 1) := by decide +kernel
theorem db_writeRoot_1 : decode kb_writeRoot 1 = .ok (.getfield 253, 3) := by decide +kernel
theorem db_writeRoot_4 : decode kb_writeRoot 4 = .ok (.bipush 20, 2) := by decide +kernel
theorem db_writeRoot_6 : decode kb_writeRoot 6 = .ok (.imul, 1) := by decide +kernel
theorem db_writeRoot_7 : decode kb_writeRoot 7 = .ok (.istore_n 3, 1) := by decide +kernel
theorem db_writeRoot_8 : decode kb_writeRoot 8 = .ok (.iload_n 2, 1) := by decide +kernel
theorem db_writeRoot_9 : decode kb_writeRoot 9 = .ok (.iconst (-1), 1) := by decide +kernel
theorem db_writeRoot_10 : decode kb_writeRoot 10 = .ok (.if_icmp .ne 7, 3) := by decide +kernel
theorem db_writeRoot_13 : decode kb_writeRoot 13 = .ok (.iconst 0, 1) := by decide +kernel
theorem db_writeRoot_14 : decode kb_writeRoot 14 = .ok (.goto 13, 3) := by decide +kernel
theorem db_writeRoot_17 : decode kb_writeRoot 17 = .ok (.aload_n 0, 1) := by decide +kernel
theorem db_writeRoot_18 : decode kb_writeRoot 18 = .ok (.aload_n 0, 1) := by decide +kernel
theorem db_writeRoot_19 : decode kb_writeRoot 19 = .ok (.iload_n 1, 1) := by decide +kernel
theorem db_writeRoot_20 : decode kb_writeRoot 20 = .ok (.iload_n 2, 1) := by decide +kernel
theorem db_writeRoot_21 : decode kb_writeRoot 21 = .ok (.invokevirtual 206, 3) := by decide +kernel
theorem db_writeRoot_24 : decode kb_writeRoot 24 = .ok (.invokevirtual 209, 3) := by decide +kernel
theorem db_writeRoot_27 : decode kb_writeRoot 27 = .ok (.istore 4, 2) := by decide +kernel
theorem db_writeRoot_29 : decode kb_writeRoot 29 = .ok (.iload_n 2, 1) := by decide +kernel
theorem db_writeRoot_30 : decode kb_writeRoot 30 = .ok (.iconst (-1), 1) := by decide +kernel
theorem db_writeRoot_31 : decode kb_writeRoot 31 = .ok (.if_icmp .ne 7, 3) := by decide +kernel
theorem db_writeRoot_34 : decode kb_writeRoot 34 = .ok (.iconst 0, 1) := by decide +kernel
theorem db_writeRoot_35 : decode kb_writeRoot 35 = .ok (.goto 4, 3) := by decide +kernel
theorem db_writeRoot_38 : decode kb_writeRoot 38 = .ok (.iload_n 2, 1) := by decide +kernel
theorem db_writeRoot_39 : decode kb_writeRoot 39 = .ok (.istore 5, 2) := by decide +kernel
theorem db_writeRoot_41 : decode kb_writeRoot 41 = .ok (.aload_n 0, 1) := by decide +kernel
theorem db_writeRoot_42 : decode kb_writeRoot 42 = .ok (.iload_n 1, 1) := by decide +kernel
theorem db_writeRoot_43 : decode kb_writeRoot 43 = .ok (.invokevirtual 96, 3) := by decide +kernel
theorem db_writeRoot_46 : decode kb_writeRoot 46 = .ok (.istore 6, 2) := by decide +kernel
theorem db_writeRoot_48 : decode kb_writeRoot 48 = .ok (.aload_n 0, 1) := by decide +kernel
theorem db_writeRoot_49 : decode kb_writeRoot 49 = .ok (.aload_n 0, 1) := by decide +kernel
theorem db_writeRoot_50 : decode kb_writeRoot 50 = .ok (.getfield 253, 3) := by decide +kernel
theorem db_writeRoot_53 : decode kb_writeRoot 53 = .ok (.invokevirtual 269, 3) := by decide +kernel
theorem db_writeRoot_56 : decode kb_writeRoot 56 = .ok (.iconst 0, 1) := by decide +kernel
theorem db_writeRoot_57 : decode kb_writeRoot 57 = .ok (.istore 7, 2) := by decide +kernel
theorem db_writeRoot_59 : decode kb_writeRoot 59 = .ok (.iconst 0, 1) := by decide +kernel
theorem db_writeRoot_60 : decode kb_writeRoot 60 = .ok (.istore 8, 2) := by decide +kernel
theorem db_writeRoot_62 : decode kb_writeRoot 62 = .ok (.iload 8, 2) := by decide +kernel
theorem db_writeRoot_64 : decode kb_writeRoot 64 = .ok (.iload 5, 2) := by decide +kernel
theorem db_writeRoot_66 : decode kb_writeRoot 66 = .ok (.if_icmp .ge 31, 3) := by decide +kernel
theorem db_writeRoot_69 : decode kb_writeRoot 69 = .ok (.aload_n 0, 1) := by decide +kernel
theorem db_writeRoot_70 : decode kb_writeRoot 70 = .ok (.getfield 26, 3) := by decide +kernel
theorem db_writeRoot_73 : decode kb_writeRoot 73 = .ok (.iload_n 3, 1) := by decide +kernel
theorem db_writeRoot_74 : decode kb_writeRoot 74 = .ok (.iconst 2, 1) := by decide +kernel
theorem db_writeRoot_75 : decode kb_writeRoot 75 = .ok (.iadd, 1) := by decide +kernel
theorem db_writeRoot_76 : decode kb_writeRoot 76 = .ok (.iload 7, 2) := by decide +kernel
theorem db_writeRoot_78 : decode kb_writeRoot 78 = .ok (.iadd, 1) := by decide +kernel
theorem db_writeRoot_79 : decode kb_writeRoot 79 = .ok (.aload_n 0, 1) := by decide +kernel
theorem db_writeRoot_80 : decode kb_writeRoot 80 = .ok (.iload_n 1, 1) := by decide +kernel
theorem db_writeRoot_81 : decode kb_writeRoot 81 = .ok (.iload 8, 2) := by decide +kernel
theorem db_writeRoot_83 : decode kb_writeRoot 83 = .ok (.invokevirtual 206, 3) := by decide +kernel
theorem db_writeRoot_86 : decode kb_writeRoot 86 = .ok (.i2l, 1) := by decide +kernel
theorem db_writeRoot_87 : decode kb_writeRoot 87 = .ok (.lastore, 1) := by decide +kernel
theorem db_writeRoot_88 : decode kb_writeRoot 88 = .ok (.iinc 7 1, 3) := by decide +kernel
theorem db_writeRoot_91 : decode kb_writeRoot 91 = .ok (.iinc 8 1, 3) := by decide +kernel
theorem db_writeRoot_94 : decode kb_writeRoot 94 = .ok (.goto (-32), 3) := by decide +kernel
theorem db_writeRoot_97 : decode kb_writeRoot 97 = .ok (.iconst 0, 1) := by decide +kernel
theorem db_writeRoot_98 : decode kb_writeRoot 98 = .ok (.istore 8, 2) := by decide +kernel
theorem db_writeRoot_100 : decode kb_writeRoot 100 = .ok (.iload 8, 2) := by decide +kernel
theorem db_writeRoot_102 : decode kb_writeRoot 102 = .ok (.aload_n 0, 1) := by decide +kernel
theorem db_writeRoot_103 : decode kb_writeRoot 103 = .ok (.getfield 250, 3) := by decide +kernel
theorem db_writeRoot_106 : decode kb_writeRoot 106 = .ok (.if_icmp .ge 31, 3) := by decide +kernel
theorem db_writeRoot_109 : decode kb_writeRoot 109 = .ok (.aload_n 0, 1) := by decide +kernel
theorem db_writeRoot_110 : decode kb_writeRoot 110 = .ok (.getfield 26, 3) := by decide +kernel
theorem db_writeRoot_113 : decode kb_writeRoot 113 = .ok (.iload_n 3, 1) := by decide +kernel
theorem db_writeRoot_114 : decode kb_writeRoot 114 = .ok (.iconst 2, 1) := by decide +kernel
theorem db_writeRoot_115 : decode kb_writeRoot 115 = .ok (.iadd, 1) := by decide +kernel
theorem db_writeRoot_116 : decode kb_writeRoot 116 = .ok (.iload 7, 2) := by decide +kernel
theorem db_writeRoot_118 : decode kb_writeRoot 118 = .ok (.iadd, 1) := by decide +kernel
theorem db_writeRoot_119 : decode kb_writeRoot 119 = .ok (.aload_n 0, 1) := by decide +kernel
theorem db_writeRoot_120 : decode kb_writeRoot 120 = .ok (.getfield 29, 3) := by decide +kernel
theorem db_writeRoot_123 : decode kb_writeRoot 123 = .ok (.iload 8, 2) := by decide +kernel
theorem db_writeRoot_125 : decode kb_writeRoot 125 = .ok (.iaload, 1) := by decide +kernel
theorem db_writeRoot_126 : decode kb_writeRoot 126 = .ok (.i2l, 1) := by decide +kernel
theorem db_writeRoot_127 : decode kb_writeRoot 127 = .ok (.lastore, 1) := by decide +kernel
theorem db_writeRoot_128 : decode kb_writeRoot 128 = .ok (.iinc 7 1, 3) := by decide +kernel
theorem db_writeRoot_131 : decode kb_writeRoot 131 = .ok (.iinc 8 1, 3) := by decide +kernel
theorem db_writeRoot_134 : decode kb_writeRoot 134 = .ok (.goto (-34), 3) := by decide +kernel
theorem db_writeRoot_137 : decode kb_writeRoot 137 = .ok (.iload 5, 2) := by decide +kernel
theorem db_writeRoot_139 : decode kb_writeRoot 139 = .ok (.iconst 1, 1) := by decide +kernel
theorem db_writeRoot_140 : decode kb_writeRoot 140 = .ok (.iadd, 1) := by decide +kernel
theorem db_writeRoot_141 : decode kb_writeRoot 141 = .ok (.istore 8, 2) := by decide +kernel
theorem db_writeRoot_143 : decode kb_writeRoot 143 = .ok (.iload 8, 2) := by decide +kernel
theorem db_writeRoot_145 : decode kb_writeRoot 145 = .ok (.iload 6, 2) := by decide +kernel
theorem db_writeRoot_147 : decode kb_writeRoot 147 = .ok (.if_icmp .ge 31, 3) := by decide +kernel
theorem db_writeRoot_150 : decode kb_writeRoot 150 = .ok (.aload_n 0, 1) := by decide +kernel
theorem db_writeRoot_151 : decode kb_writeRoot 151 = .ok (.getfield 26, 3) := by decide +kernel
theorem db_writeRoot_154 : decode kb_writeRoot 154 = .ok (.iload_n 3, 1) := by decide +kernel
theorem db_writeRoot_155 : decode kb_writeRoot 155 = .ok (.iconst 2, 1) := by decide +kernel
theorem db_writeRoot_156 : decode kb_writeRoot 156 = .ok (.iadd, 1) := by decide +kernel
theorem db_writeRoot_157 : decode kb_writeRoot 157 = .ok (.iload 7, 2) := by decide +kernel
theorem db_writeRoot_159 : decode kb_writeRoot 159 = .ok (.iadd, 1) := by decide +kernel
theorem db_writeRoot_160 : decode kb_writeRoot 160 = .ok (.aload_n 0, 1) := by decide +kernel
theorem db_writeRoot_161 : decode kb_writeRoot 161 = .ok (.iload_n 1, 1) := by decide +kernel
theorem db_writeRoot_162 : decode kb_writeRoot 162 = .ok (.iload 8, 2) := by decide +kernel
theorem db_writeRoot_164 : decode kb_writeRoot 164 = .ok (.invokevirtual 206, 3) := by decide +kernel
theorem db_writeRoot_167 : decode kb_writeRoot 167 = .ok (.i2l, 1) := by decide +kernel
theorem db_writeRoot_168 : decode kb_writeRoot 168 = .ok (.lastore, 1) := by decide +kernel
theorem db_writeRoot_169 : decode kb_writeRoot 169 = .ok (.iinc 7 1, 3) := by decide +kernel
theorem db_writeRoot_172 : decode kb_writeRoot 172 = .ok (.iinc 8 1, 3) := by decide +kernel
theorem db_writeRoot_175 : decode kb_writeRoot 175 = .ok (.goto (-32), 3) := by decide +kernel
theorem db_writeRoot_178 : decode kb_writeRoot 178 = .ok (.aload_n 0, 1) := by decide +kernel
theorem db_writeRoot_179 : decode kb_writeRoot 179 = .ok (.getfield 26, 3) := by decide +kernel
theorem db_writeRoot_182 : decode kb_writeRoot 182 = .ok (.iload_n 3, 1) := by decide +kernel
theorem db_writeRoot_183 : decode kb_writeRoot 183 = .ok (.aload_n 0, 1) := by decide +kernel
theorem db_writeRoot_184 : decode kb_writeRoot 184 = .ok (.getfield 52, 3) := by decide +kernel
theorem db_writeRoot_187 : decode kb_writeRoot 187 = .ok (.iconst 1, 1) := by decide +kernel
theorem db_writeRoot_188 : decode kb_writeRoot 188 = .ok (.iadd, 1) := by decide +kernel
theorem db_writeRoot_189 : decode kb_writeRoot 189 = .ok (.i2l, 1) := by decide +kernel
theorem db_writeRoot_190 : decode kb_writeRoot 190 = .ok (.lastore, 1) := by decide +kernel
theorem db_writeRoot_191 : decode kb_writeRoot 191 = .ok (.aload_n 0, 1) := by decide +kernel
theorem db_writeRoot_192 : decode kb_writeRoot 192 = .ok (.getfield 26, 3) := by decide +kernel
theorem db_writeRoot_195 : decode kb_writeRoot 195 = .ok (.iload_n 3, 1) := by decide +kernel
theorem db_writeRoot_196 : decode kb_writeRoot 196 = .ok (.iconst 1, 1) := by decide +kernel
theorem db_writeRoot_197 : decode kb_writeRoot 197 = .ok (.iadd, 1) := by decide +kernel
theorem db_writeRoot_198 : decode kb_writeRoot 198 = .ok (.iload 7, 2) := by decide +kernel
theorem db_writeRoot_200 : decode kb_writeRoot 200 = .ok (.i2l, 1) := by decide +kernel
theorem db_writeRoot_201 : decode kb_writeRoot 201 = .ok (.lastore, 1) := by decide +kernel
theorem db_writeRoot_202 : decode kb_writeRoot 202 = .ok (.aload_n 0, 1) := by decide +kernel
theorem db_writeRoot_203 : decode kb_writeRoot 203 = .ok (.getfield 26, 3) := by decide +kernel
theorem db_writeRoot_206 : decode kb_writeRoot 206 = .ok (.iload_n 3, 1) := by decide +kernel
theorem db_writeRoot_207 : decode kb_writeRoot 207 = .ok (.bipush 18, 2) := by decide +kernel
theorem db_writeRoot_209 : decode kb_writeRoot 209 = .ok (.iadd, 1) := by decide +kernel
theorem db_writeRoot_210 : decode kb_writeRoot 210 = .ok (.aload_n 0, 1) := by decide +kernel
theorem db_writeRoot_211 : decode kb_writeRoot 211 = .ok (.iload_n 1, 1) := by decide +kernel
theorem db_writeRoot_212 : decode kb_writeRoot 212 = .ok (.invokevirtual 93, 3) := by decide +kernel
theorem db_writeRoot_215 : decode kb_writeRoot 215 = .ok (.iload 4, 2) := by decide +kernel
theorem db_writeRoot_217 : decode kb_writeRoot 217 = .ok (.isub, 1) := by decide +kernel
theorem db_writeRoot_218 : decode kb_writeRoot 218 = .ok (.aload_n 0, 1) := by decide +kernel
theorem db_writeRoot_219 : decode kb_writeRoot 219 = .ok (.getfield 233, 3) := by decide +kernel
theorem db_writeRoot_222 : decode kb_writeRoot 222 = .ok (.iadd, 1) := by decide +kernel
theorem db_writeRoot_223 : decode kb_writeRoot 223 = .ok (.i2l, 1) := by decide +kernel
theorem db_writeRoot_224 : decode kb_writeRoot 224 = .ok (.lastore, 1) := by decide +kernel
theorem db_writeRoot_225 : decode kb_writeRoot 225 = .ok (.aload_n 0, 1) := by decide +kernel
theorem db_writeRoot_226 : decode kb_writeRoot 226 = .ok (.getfield 26, 3) := by decide +kernel
theorem db_writeRoot_229 : decode kb_writeRoot 229 = .ok (.iload_n 3, 1) := by decide +kernel
theorem db_writeRoot_230 : decode kb_writeRoot 230 = .ok (.bipush 19, 2) := by decide +kernel
theorem db_writeRoot_232 : decode kb_writeRoot 232 = .ok (.iadd, 1) := by decide +kernel
theorem db_writeRoot_233 : decode kb_writeRoot 233 = .ok (.aload_n 0, 1) := by decide +kernel
theorem db_writeRoot_234 : decode kb_writeRoot 234 = .ok (.getfield 26, 3) := by decide +kernel
theorem db_writeRoot_237 : decode kb_writeRoot 237 = .ok (.iload_n 3, 1) := by decide +kernel
theorem db_writeRoot_238 : decode kb_writeRoot 238 = .ok (.bipush 19, 2) := by decide +kernel
theorem db_writeRoot_240 : decode kb_writeRoot 240 = .ok (.invokestatic 194, 3) := by decide +kernel
theorem db_writeRoot_243 : decode kb_writeRoot 243 = .ok (.lastore, 1) := by decide +kernel
theorem db_writeRoot_244 : decode kb_writeRoot 244 = .ok (.return_, 1) := by decide +kernel
theorem db_clearRoot_0 : decode kb_clearRoot 0 = .ok (.iload_n 1, 1) := by decide +kernel
theorem db_clearRoot_1 : decode kb_clearRoot 1 = .ok (.bipush 20, 2) := by decide +kernel
theorem db_clearRoot_3 : decode kb_clearRoot 3 = .ok (.imul, 1) := by decide +kernel
theorem db_clearRoot_4 : decode kb_clearRoot 4 = .ok (.istore_n 2, 1) := by decide +kernel
theorem db_clearRoot_5 : decode kb_clearRoot 5 = .ok (.iconst 0, 1) := by decide +kernel
theorem db_clearRoot_6 : decode kb_clearRoot 6 = .ok (.istore_n 3, 1) := by decide +kernel
theorem db_clearRoot_7 : decode kb_clearRoot 7 = .ok (.iload_n 3, 1) := by decide +kernel
theorem db_clearRoot_8 : decode kb_clearRoot 8 = .ok (.bipush 20, 2) := by decide +kernel
theorem db_clearRoot_10 : decode kb_clearRoot 10 = .ok (.if_icmp .ge 18, 3) := by decide +kernel
theorem db_clearRoot_13 : decode kb_clearRoot 13 = .ok (.aload_n 0, 1) := by decide +kernel
theorem db_clearRoot_14 : decode kb_clearRoot 14 = .ok (.getfield 26, 3) := by decide +kernel
theorem db_clearRoot_17 : decode kb_clearRoot 17 = .ok (.iload_n 2, 1) := by decide +kernel
theorem db_clearRoot_18 : decode kb_clearRoot 18 = .ok (.iload_n 3, 1) := by decide +kernel
theorem db_clearRoot_19 : decode kb_clearRoot 19 = .ok (.iadd, 1) := by decide +kernel
theorem db_clearRoot_20 : decode kb_clearRoot 20 = .ok (.lconst 0, 1) := by decide +kernel
theorem db_clearRoot_21 : decode kb_clearRoot 21 = .ok (.lastore, 1) := by decide +kernel
theorem db_clearRoot_22 : decode kb_clearRoot 22 = .ok (.iinc 3 1, 3) := by decide +kernel
theorem db_clearRoot_25 : decode kb_clearRoot 25 = .ok (.goto (-18), 3) := by decide +kernel
theorem db_clearRoot_28 : decode kb_clearRoot 28 = .ok (.return_, 1) := by decide +kernel
theorem db_makeRootZeroAnew_0 : decode kb_makeRootZeroAnew 0 = .ok (.aload_n 0, 1) := by decide +kernel
theorem db_makeRootZeroAnew_1 : decode kb_makeRootZeroAnew 1 = .ok (.iconst 0, 1) := by decide +kernel
theorem db_makeRootZeroAnew_2 : decode kb_makeRootZeroAnew 2 = .ok (.invokevirtual 269, 3) := by decide +kernel
theorem db_makeRootZeroAnew_5 : decode kb_makeRootZeroAnew 5 = .ok (.aload_n 0, 1) := by decide +kernel
theorem db_makeRootZeroAnew_6 : decode kb_makeRootZeroAnew 6 = .ok (.getfield 26, 3) := by decide +kernel
theorem db_makeRootZeroAnew_9 : decode kb_makeRootZeroAnew 9 = .ok (.bipush 19, 2) := by decide +kernel
theorem db_makeRootZeroAnew_11 : decode kb_makeRootZeroAnew 11 = .ok (.aload_n 0, 1) := by decide +kernel
theorem db_makeRootZeroAnew_12 : decode kb_makeRootZeroAnew 12 = .ok (.getfield 26, 3) := by decide +kernel
theorem db_makeRootZeroAnew_15 : decode kb_makeRootZeroAnew 15 = .ok (.iconst 0, 1) := by decide +kernel
theorem db_makeRootZeroAnew_16 : decode kb_makeRootZeroAnew 16 = .ok (.bipush 19, 2) := by decide +kernel
theorem db_makeRootZeroAnew_18 : decode kb_makeRootZeroAnew 18 = .ok (.invokestatic 194, 3) := by decide +kernel
theorem db_makeRootZeroAnew_21 : decode kb_makeRootZeroAnew 21 = .ok (.lastore, 1) := by decide +kernel
theorem db_makeRootZeroAnew_22 : decode kb_makeRootZeroAnew 22 = .ok (.return_, 1) := by decide +kernel
theorem db_writtenWords_0 : decode kb_writtenWords 0 = .ok (.aload_n 0, 1) := by decide +kernel
theorem db_writtenWords_1 : decode kb_writtenWords 1 = .ok (.getfield 250, 3) := by decide +kernel
theorem db_writtenWords_4 : decode kb_writtenWords 4 = .ok (.bipush 16, 2) := by decide +kernel
theorem db_writtenWords_6 : decode kb_writtenWords 6 = .ok (.imul, 1) := by decide +kernel
theorem db_writtenWords_7 : decode kb_writtenWords 7 = .ok (.bipush 20, 2) := by decide +kernel
theorem db_writtenWords_9 : decode kb_writtenWords 9 = .ok (.iadd, 1) := by decide +kernel
theorem db_writtenWords_10 : decode kb_writtenWords 10 = .ok (.ireturn, 1) := by decide +kernel
theorem db_saveWordsBefore_0 : decode kb_saveWordsBefore 0 = .ok (.iconst 0, 1) := by decide +kernel
theorem db_saveWordsBefore_1 : decode kb_saveWordsBefore 1 = .ok (.istore_n 1, 1) := by decide +kernel
theorem db_saveWordsBefore_2 : decode kb_saveWordsBefore 2 = .ok (.iload_n 1, 1) := by decide +kernel
theorem db_saveWordsBefore_3 : decode kb_saveWordsBefore 3 = .ok (.aload_n 0, 1) := by decide +kernel
theorem db_saveWordsBefore_4 : decode kb_saveWordsBefore 4 = .ok (.getfield 250, 3) := by decide +kernel
theorem db_saveWordsBefore_7 : decode kb_saveWordsBefore 7 = .ok (.if_icmp .ge 35, 3) := by decide +kernel
theorem db_saveWordsBefore_10 : decode kb_saveWordsBefore 10 = .ok (.aload_n 0, 1) := by decide +kernel
theorem db_saveWordsBefore_11 : decode kb_saveWordsBefore 11 = .ok (.getfield 22, 3) := by decide +kernel
theorem db_saveWordsBefore_14 : decode kb_saveWordsBefore 14 = .ok (.aload_n 0, 1) := by decide +kernel
theorem db_saveWordsBefore_15 : decode kb_saveWordsBefore 15 = .ok (.getfield 29, 3) := by decide +kernel
theorem db_saveWordsBefore_18 : decode kb_saveWordsBefore 18 = .ok (.iload_n 1, 1) := by decide +kernel
theorem db_saveWordsBefore_19 : decode kb_saveWordsBefore 19 = .ok (.iaload, 1) := by decide +kernel
theorem db_saveWordsBefore_20 : decode kb_saveWordsBefore 20 = .ok (.bipush 16, 2) := by decide +kernel
theorem db_saveWordsBefore_22 : decode kb_saveWordsBefore 22 = .ok (.imul, 1) := by decide +kernel
theorem db_saveWordsBefore_23 : decode kb_saveWordsBefore 23 = .ok (.aload_n 0, 1) := by decide +kernel
theorem db_saveWordsBefore_24 : decode kb_saveWordsBefore 24 = .ok (.getfield 33, 3) := by decide +kernel
theorem db_saveWordsBefore_27 : decode kb_saveWordsBefore 27 = .ok (.iload_n 1, 1) := by decide +kernel
theorem db_saveWordsBefore_28 : decode kb_saveWordsBefore 28 = .ok (.bipush 16, 2) := by decide +kernel
theorem db_saveWordsBefore_30 : decode kb_saveWordsBefore 30 = .ok (.imul, 1) := by decide +kernel
theorem db_saveWordsBefore_31 : decode kb_saveWordsBefore 31 = .ok (.bipush 16, 2) := by decide +kernel
theorem db_saveWordsBefore_33 : decode kb_saveWordsBefore 33 = .ok (.invokestatic 272, 3) := by decide +kernel
theorem db_saveWordsBefore_36 : decode kb_saveWordsBefore 36 = .ok (.iinc 1 1, 3) := by decide +kernel
theorem db_saveWordsBefore_39 : decode kb_saveWordsBefore 39 = .ok (.goto (-37), 3) := by decide +kernel
theorem db_saveWordsBefore_42 : decode kb_saveWordsBefore 42 = .ok (.aload_n 0, 1) := by decide +kernel
theorem db_saveWordsBefore_43 : decode kb_saveWordsBefore 43 = .ok (.getfield 26, 3) := by decide +kernel
theorem db_saveWordsBefore_46 : decode kb_saveWordsBefore 46 = .ok (.aload_n 0, 1) := by decide +kernel
theorem db_saveWordsBefore_47 : decode kb_saveWordsBefore 47 = .ok (.getfield 253, 3) := by decide +kernel
theorem db_saveWordsBefore_50 : decode kb_saveWordsBefore 50 = .ok (.bipush 20, 2) := by decide +kernel
theorem db_saveWordsBefore_52 : decode kb_saveWordsBefore 52 = .ok (.imul, 1) := by decide +kernel
theorem db_saveWordsBefore_53 : decode kb_saveWordsBefore 53 = .ok (.aload_n 0, 1) := by decide +kernel
theorem db_saveWordsBefore_54 : decode kb_saveWordsBefore 54 = .ok (.getfield 33, 3) := by decide +kernel
theorem db_saveWordsBefore_57 : decode kb_saveWordsBefore 57 = .ok (.aload_n 0, 1) := by decide +kernel
theorem db_saveWordsBefore_58 : decode kb_saveWordsBefore 58 = .ok (.getfield 250, 3) := by decide +kernel
theorem db_saveWordsBefore_61 : decode kb_saveWordsBefore 61 = .ok (.bipush 16, 2) := by decide +kernel
theorem db_saveWordsBefore_63 : decode kb_saveWordsBefore 63 = .ok (.imul, 1) := by decide +kernel
theorem db_saveWordsBefore_64 : decode kb_saveWordsBefore 64 = .ok (.bipush 20, 2) := by decide +kernel
theorem db_saveWordsBefore_66 : decode kb_saveWordsBefore 66 = .ok (.invokestatic 272, 3) := by decide +kernel
theorem db_saveWordsBefore_69 : decode kb_saveWordsBefore 69 = .ok (.return_, 1) := by decide +kernel
theorem db_restoreFrom_0 : decode kb_restoreFrom 0 = .ok (.aload_n 0, 1) := by decide +kernel
theorem db_restoreFrom_1 : decode kb_restoreFrom 1 = .ok (.getfield 250, 3) := by decide +kernel
theorem db_restoreFrom_4 : decode kb_restoreFrom 4 = .ok (.bipush 16, 2) := by decide +kernel
theorem db_restoreFrom_6 : decode kb_restoreFrom 6 = .ok (.imul, 1) := by decide +kernel
theorem db_restoreFrom_7 : decode kb_restoreFrom 7 = .ok (.istore_n 2, 1) := by decide +kernel
theorem db_restoreFrom_8 : decode kb_restoreFrom 8 = .ok (.aload_n 0, 1) := by decide +kernel
theorem db_restoreFrom_9 : decode kb_restoreFrom 9 = .ok (.invokevirtual 138, 3) := by decide +kernel
theorem db_restoreFrom_12 : decode kb_restoreFrom 12 = .ok (.istore_n 3, 1) := by decide +kernel
theorem db_restoreFrom_13 : decode kb_restoreFrom 13 = .ok (.iload_n 1, 1) := by decide +kernel
theorem db_restoreFrom_14 : decode kb_restoreFrom 14 = .ok (.istore 4, 2) := by decide +kernel
theorem db_restoreFrom_16 : decode kb_restoreFrom 16 = .ok (.iload 4, 2) := by decide +kernel
theorem db_restoreFrom_18 : decode kb_restoreFrom 18 = .ok (.iload_n 3, 1) := by decide +kernel
theorem db_restoreFrom_19 : decode kb_restoreFrom 19 = .ok (.if_icmp .ge 73, 3) := by decide +kernel
theorem db_restoreFrom_22 : decode kb_restoreFrom 22 = .ok (.iload 4, 2) := by decide +kernel
theorem db_restoreFrom_24 : decode kb_restoreFrom 24 = .ok (.iload_n 2, 1) := by decide +kernel
theorem db_restoreFrom_25 : decode kb_restoreFrom 25 = .ok (.if_icmp .ge 37, 3) := by decide +kernel
theorem db_restoreFrom_28 : decode kb_restoreFrom 28 = .ok (.aload_n 0, 1) := by decide +kernel
theorem db_restoreFrom_29 : decode kb_restoreFrom 29 = .ok (.getfield 22, 3) := by decide +kernel
theorem db_restoreFrom_32 : decode kb_restoreFrom 32 = .ok (.aload_n 0, 1) := by decide +kernel
theorem db_restoreFrom_33 : decode kb_restoreFrom 33 = .ok (.getfield 29, 3) := by decide +kernel
theorem db_restoreFrom_36 : decode kb_restoreFrom 36 = .ok (.iload 4, 2) := by decide +kernel
theorem db_restoreFrom_38 : decode kb_restoreFrom 38 = .ok (.bipush 16, 2) := by decide +kernel
theorem db_restoreFrom_40 : decode kb_restoreFrom 40 = .ok (.idiv, 1) := by decide +kernel
theorem db_restoreFrom_41 : decode kb_restoreFrom 41 = .ok (.iaload, 1) := by decide +kernel
theorem db_restoreFrom_42 : decode kb_restoreFrom 42 = .ok (.bipush 16, 2) := by decide +kernel
theorem db_restoreFrom_44 : decode kb_restoreFrom 44 = .ok (.imul, 1) := by decide +kernel
theorem db_restoreFrom_45 : decode kb_restoreFrom 45 = .ok (.iload 4, 2) := by decide +kernel
theorem db_restoreFrom_47 : decode kb_restoreFrom 47 = .ok (.bipush 16, 2) := by decide +kernel
theorem db_restoreFrom_49 : decode kb_restoreFrom 49 = .ok (.irem, 1) := by decide +kernel
theorem db_restoreFrom_50 : decode kb_restoreFrom 50 = .ok (.iadd, 1) := by decide +kernel
theorem db_restoreFrom_51 : decode kb_restoreFrom 51 = .ok (.aload_n 0, 1) := by decide +kernel
theorem db_restoreFrom_52 : decode kb_restoreFrom 52 = .ok (.getfield 33, 3) := by decide +kernel
theorem db_restoreFrom_55 : decode kb_restoreFrom 55 = .ok (.iload 4, 2) := by decide +kernel
theorem db_restoreFrom_57 : decode kb_restoreFrom 57 = .ok (.laload, 1) := by decide +kernel
theorem db_restoreFrom_58 : decode kb_restoreFrom 58 = .ok (.lastore, 1) := by decide +kernel
theorem db_restoreFrom_59 : decode kb_restoreFrom 59 = .ok (.goto 27, 3) := by decide +kernel
theorem db_restoreFrom_62 : decode kb_restoreFrom 62 = .ok (.aload_n 0, 1) := by decide +kernel
theorem db_restoreFrom_63 : decode kb_restoreFrom 63 = .ok (.getfield 26, 3) := by decide +kernel
theorem db_restoreFrom_66 : decode kb_restoreFrom 66 = .ok (.aload_n 0, 1) := by decide +kernel
theorem db_restoreFrom_67 : decode kb_restoreFrom 67 = .ok (.getfield 253, 3) := by decide +kernel
theorem db_restoreFrom_70 : decode kb_restoreFrom 70 = .ok (.bipush 20, 2) := by decide +kernel
theorem db_restoreFrom_72 : decode kb_restoreFrom 72 = .ok (.imul, 1) := by decide +kernel
theorem db_restoreFrom_73 : decode kb_restoreFrom 73 = .ok (.iload 4, 2) := by decide +kernel
theorem db_restoreFrom_75 : decode kb_restoreFrom 75 = .ok (.iadd, 1) := by decide +kernel
theorem db_restoreFrom_76 : decode kb_restoreFrom 76 = .ok (.iload_n 2, 1) := by decide +kernel
theorem db_restoreFrom_77 : decode kb_restoreFrom 77 = .ok (.isub, 1) := by decide +kernel
theorem db_restoreFrom_78 : decode kb_restoreFrom 78 = .ok (.aload_n 0, 1) := by decide +kernel
theorem db_restoreFrom_79 : decode kb_restoreFrom 79 = .ok (.getfield 33, 3) := by decide +kernel
theorem db_restoreFrom_82 : decode kb_restoreFrom 82 = .ok (.iload 4, 2) := by decide +kernel
theorem db_restoreFrom_84 : decode kb_restoreFrom 84 = .ok (.laload, 1) := by decide +kernel
theorem db_restoreFrom_85 : decode kb_restoreFrom 85 = .ok (.lastore, 1) := by decide +kernel
theorem db_restoreFrom_86 : decode kb_restoreFrom 86 = .ok (.iinc 4 1, 3) := by decide +kernel
theorem db_restoreFrom_89 : decode kb_restoreFrom 89 = .ok (.goto (-73), 3) := by decide +kernel
theorem db_restoreFrom_92 : decode kb_restoreFrom 92 = .ok (.return_, 1) := by decide +kernel
end
section
/-! the book as a value, and as cells -/
abbrev BSt : Type := Nat × (Nat → Int64) × (Nat → Int64) × Int32 × Int32 × Int32 × (Nat → Int32) × Int32 × Int32 × (Nat → Int64) × (Nat → Int64) × (Nat → Int64) × Int32
def bs_P (st : BSt) : Nat := st.1
def bs_pages (st : BSt) : (Nat → Int64) := st.2.1
def bs_put_pages (v : (Nat → Int64)) (st : BSt) : BSt := (st.1, v, st.2.2)
def bs_roots (st : BSt) : (Nat → Int64) := st.2.2.1
def bs_put_roots (v : (Nat → Int64)) (st : BSt) : BSt := (st.1, st.2.1, v, st.2.2.2)
def bs_newest (st : BSt) : Int32 := st.2.2.2.1
def bs_put_newest (v : Int32) (st : BSt) : BSt := (st.1, st.2.1, st.2.2.1, v, st.2.2.2.2)
def bs_closed (st : BSt) : Int32 := st.2.2.2.2.1
def bs_put_closed (v : Int32) (st : BSt) : BSt := (st.1, st.2.1, st.2.2.1, st.2.2.2.1, v, st.2.2.2.2.2)
def bs_canBeCut (st : BSt) : Int32 := st.2.2.2.2.2.1
def bs_put_canBeCut (v : Int32) (st : BSt) : BSt := (st.1, st.2.1, st.2.2.1, st.2.2.2.1, st.2.2.2.2.1, v, st.2.2.2.2.2.2)
def bs_takenPages (st : BSt) : (Nat → Int32) := st.2.2.2.2.2.2.1
def bs_put_takenPages (v : (Nat → Int32)) (st : BSt) : BSt := (st.1, st.2.1, st.2.2.1, st.2.2.2.1, st.2.2.2.2.1, st.2.2.2.2.2.1, v, st.2.2.2.2.2.2.2)
def bs_takenCount (st : BSt) : Int32 := st.2.2.2.2.2.2.2.1
def bs_put_takenCount (v : Int32) (st : BSt) : BSt := (st.1, st.2.1, st.2.2.1, st.2.2.2.1, st.2.2.2.2.1, st.2.2.2.2.2.1, st.2.2.2.2.2.2.1, v, st.2.2.2.2.2.2.2.2)
def bs_writtenRoot (st : BSt) : Int32 := st.2.2.2.2.2.2.2.2.1
def bs_put_writtenRoot (v : Int32) (st : BSt) : BSt := (st.1, st.2.1, st.2.2.1, st.2.2.2.1, st.2.2.2.2.1, st.2.2.2.2.2.1, st.2.2.2.2.2.2.1, st.2.2.2.2.2.2.2.1, v, st.2.2.2.2.2.2.2.2.2)
def bs_wordsBefore (st : BSt) : (Nat → Int64) := st.2.2.2.2.2.2.2.2.2.1
def bs_put_wordsBefore (v : (Nat → Int64)) (st : BSt) : BSt := (st.1, st.2.1, st.2.2.1, st.2.2.2.1, st.2.2.2.2.1, st.2.2.2.2.2.1, st.2.2.2.2.2.2.1, st.2.2.2.2.2.2.2.1, st.2.2.2.2.2.2.2.2.1, v, st.2.2.2.2.2.2.2.2.2.2)
def bs_draftKeys (st : BSt) : (Nat → Int64) := st.2.2.2.2.2.2.2.2.2.2.1
def bs_put_draftKeys (v : (Nat → Int64)) (st : BSt) : BSt := (st.1, st.2.1, st.2.2.1, st.2.2.2.1, st.2.2.2.2.1, st.2.2.2.2.2.1, st.2.2.2.2.2.2.1, st.2.2.2.2.2.2.2.1, st.2.2.2.2.2.2.2.2.1, st.2.2.2.2.2.2.2.2.2.1, v, st.2.2.2.2.2.2.2.2.2.2.2)
def bs_draftValues (st : BSt) : (Nat → Int64) := st.2.2.2.2.2.2.2.2.2.2.2.1
def bs_put_draftValues (v : (Nat → Int64)) (st : BSt) : BSt := (st.1, st.2.1, st.2.2.1, st.2.2.2.1, st.2.2.2.2.1, st.2.2.2.2.2.1, st.2.2.2.2.2.2.1, st.2.2.2.2.2.2.2.1, st.2.2.2.2.2.2.2.2.1, st.2.2.2.2.2.2.2.2.2.1, st.2.2.2.2.2.2.2.2.2.2.1, v, st.2.2.2.2.2.2.2.2.2.2.2.2)
def bs_draftCount (st : BSt) : Int32 := st.2.2.2.2.2.2.2.2.2.2.2.2
def bs_put_draftCount (v : Int32) (st : BSt) : BSt := (st.1, st.2.1, st.2.2.1, st.2.2.2.1, st.2.2.2.2.1, st.2.2.2.2.2.1, st.2.2.2.2.2.2.1, st.2.2.2.2.2.2.2.1, st.2.2.2.2.2.2.2.2.1, st.2.2.2.2.2.2.2.2.2.1, st.2.2.2.2.2.2.2.2.2.2.1, st.2.2.2.2.2.2.2.2.2.2.2.1, v)
def TB : u_T := fun k => match k with
  | 0 => ("LeafBook", "pageCount", "I", true)
  | 1 => ("LeafBook", "pages", "[J", true)
  | 2 => ("LeafBook", "roots", "[J", true)
  | 3 => ("LeafBook", "newest", "I", false)
  | 4 => ("LeafBook", "closed", "Z", false)
  | 5 => ("LeafBook", "canBeCut", "Z", false)
  | 6 => ("LeafBook", "takenPages", "[I", true)
  | 7 => ("LeafBook", "takenCount", "I", false)
  | 8 => ("LeafBook", "writtenRoot", "I", false)
  | 9 => ("LeafBook", "wordsBefore", "[J", true)
  | 10 => ("LeafBook", "draftKeys", "[J", true)
  | 11 => ("LeafBook", "draftValues", "[J", true)
  | _ => ("LeafBook", "draftCount", "I", false)
def tB : Nat → FieldType := fun k => match k with
  | 0 => .int
  | 1 => .array .long
  | 2 => .array .long
  | 3 => .int
  | 4 => .boolean
  | 5 => .boolean
  | 6 => .array .int
  | 7 => .int
  | 8 => .int
  | 9 => .array .long
  | 10 => .array .long
  | 11 => .array .long
  | _ => .int
theorem tB_ok : ∀ k, k < 13 → parseFieldDescriptor (TB k).2.2.1 = some (tB k) := by decide +kernel
theorem nB : ∀ a, a < 13 → ∀ b, b < 13 → a ≠ b → (TB a).2.1 ≠ (TB b).2.1 := by decide +kernel
theorem in_TB_0 : u_lay RB TB 0 ∈ lw_g := List.mem_filter.mpr ⟨List.mem_append_right _ (List.mem_of_getElem? (i := 51) (by decide +kernel)), rfl⟩
theorem in_TB_1 : u_lay RB TB 1 ∈ lw_g := List.mem_filter.mpr ⟨List.mem_append_right _ (List.mem_of_getElem? (i := 53) (by decide +kernel)), rfl⟩
theorem in_TB_2 : u_lay RB TB 2 ∈ lw_g := List.mem_filter.mpr ⟨List.mem_append_right _ (List.mem_of_getElem? (i := 55) (by decide +kernel)), rfl⟩
theorem in_TB_3 : u_lay RB TB 3 ∈ lw_g := List.mem_filter.mpr ⟨List.mem_append_right _ (List.mem_of_getElem? (i := 57) (by decide +kernel)), rfl⟩
theorem in_TB_4 : u_lay RB TB 4 ∈ lw_g := List.mem_filter.mpr ⟨List.mem_append_right _ (List.mem_of_getElem? (i := 59) (by decide +kernel)), rfl⟩
theorem in_TB_5 : u_lay RB TB 5 ∈ lw_g := List.mem_filter.mpr ⟨List.mem_append_right _ (List.mem_of_getElem? (i := 61) (by decide +kernel)), rfl⟩
theorem in_TB_6 : u_lay RB TB 6 ∈ lw_g := List.mem_filter.mpr ⟨List.mem_append_right _ (List.mem_of_getElem? (i := 63) (by decide +kernel)), rfl⟩
theorem in_TB_7 : u_lay RB TB 7 ∈ lw_g := List.mem_filter.mpr ⟨List.mem_append_right _ (List.mem_of_getElem? (i := 65) (by decide +kernel)), rfl⟩
theorem in_TB_8 : u_lay RB TB 8 ∈ lw_g := List.mem_filter.mpr ⟨List.mem_append_right _ (List.mem_of_getElem? (i := 67) (by decide +kernel)), rfl⟩
theorem in_TB_9 : u_lay RB TB 9 ∈ lw_g := List.mem_filter.mpr ⟨List.mem_append_right _ (List.mem_of_getElem? (i := 69) (by decide +kernel)), rfl⟩
theorem in_TB_10 : u_lay RB TB 10 ∈ lw_g := List.mem_filter.mpr ⟨List.mem_append_right _ (List.mem_of_getElem? (i := 71) (by decide +kernel)), rfl⟩
theorem in_TB_11 : u_lay RB TB 11 ∈ lw_g := List.mem_filter.mpr ⟨List.mem_append_right _ (List.mem_of_getElem? (i := 73) (by decide +kernel)), rfl⟩
theorem in_TB_12 : u_lay RB TB 12 ∈ lw_g := List.mem_filter.mpr ⟨List.mem_append_right _ (List.mem_of_getElem? (i := 75) (by decide +kernel)), rfl⟩
theorem in_TB : ∀ w ∈ u_ws RB TB 13, w ∈ lw_g := by
  intro w hw
  obtain ⟨k, hk, rfl⟩ := List.mem_map.mp hw
  have hk : k < 13 := List.mem_range.mp hk
  match k, hk with
  | 0, _ => exact in_TB_0
  | 1, _ => exact in_TB_1
  | 2, _ => exact in_TB_2
  | 3, _ => exact in_TB_3
  | 4, _ => exact in_TB_4
  | 5, _ => exact in_TB_5
  | 6, _ => exact in_TB_6
  | 7, _ => exact in_TB_7
  | 8, _ => exact in_TB_8
  | 9, _ => exact in_TB_9
  | 10, _ => exact in_TB_10
  | 11, _ => exact in_TB_11
  | 12, _ => exact in_TB_12
  | k + 13, h => exact absurd h (by omega)
abbrev vwCl : List vw_C := [(RB, TB, 13)]
def wB (gm : Nat → Nat) (ca : Nat → ClassId) (st : BSt) : va_W := [(gm 0, .inr (0, [.int (nI (bs_P st)), .ref (gm 1), .ref (gm 2), .int (bs_newest st), .int (bs_closed st), .int (bs_canBeCut st), .ref (gm 3), .int (bs_takenCount st), .int (bs_writtenRoot st), .ref (gm 4), .ref (gm 5), .ref (gm 6), .int (bs_draftCount st)])), (gm 1, .inl (ca 1, (16 * bs_P st), .inr (.inl (bs_pages st)))), (gm 2, .inl (ca 2, 160, .inr (.inl (bs_roots st)))), (gm 3, .inl (ca 3, 2, .inl (bs_takenPages st))), (gm 4, .inl (ca 4, 52, .inr (.inl (bs_wordsBefore st)))), (gm 5, .inl (ca 5, 8, .inr (.inl (bs_draftKeys st)))), (gm 6, .inl (ca 6, 8, .inr (.inl (bs_draftValues st))))]
def tysB (ca : Nat → ClassId) : List (ClassId × FieldType) := [(ca 1, .long), (ca 2, .long), (ca 3, .int), (ca 4, .long), (ca 5, .long), (ca 6, .long)]
def BWd (D : va_G) (gm : Nat → Nat) (ca : Nat → ClassId) (A : Nat → Prop) (H0 : Heap) (st : BSt) (H : Heap) (locs : List Loc) : Prop := va_P D vwCl (wB gm ca st) H ∧ va_D A (wB gm ca st) ∧ va_S A H0 H locs
section BR
variable {p : Program} {l : Launch} {e : Env} {R : Room} {s : State} {m : MethodId} {args : Array Value} {below : List Frame} {meth : Method} {c : Code} {H : Heap} {locs : List Loc} {cells slots : Nat} {Q : State → Prop}
variable {cc : ByteArray} {pc : Nat} {ls : Array Slot} {rest : List Value} {D : va_G} {A : Nat → Prop} {gm : Nat → Nat} {ca : Nat → ClassId} {st : BSt}
theorem bg_pageCount (hx : p.tables.exec = Jvm.exec) (hb : c.code = cc) (hown : s.vm.findClass RB = some m.cls) (hts : ∀ w ∈ lw_g, w.before args s = true) (hK : va_K D vwCl (tysB ca) s) (hP : va_P D vwCl (wB gm ca st) H) (hdg : decode cc pc = .ok (.getfield 18, 3)) (kk : W p l e R s m args below meth c H locs cells slots Q (F0 m (pc + 3) ls (.int (nI (bs_P st)) :: rest))) : W p l e R s m args below meth c H locs cells slots Q (F0 m pc ls (.ref (gm 0) :: rest)) :=
  va_get (D := D) (ci := 0) (v := .int (nI (bs_P st))) (C := RB) (T := TB) (N := 13) hx hb hts in_TB hown hK hP 0 rfl rfl 0 (by decide) (hts _ fl_pageCount) (fun _ h => h) rfl hdg kk
theorem bg_pages (hx : p.tables.exec = Jvm.exec) (hb : c.code = cc) (hown : s.vm.findClass RB = some m.cls) (hts : ∀ w ∈ lw_g, w.before args s = true) (hK : va_K D vwCl (tysB ca) s) (hP : va_P D vwCl (wB gm ca st) H) (hdg : decode cc pc = .ok (.getfield 22, 3)) (kk : W p l e R s m args below meth c H locs cells slots Q (F0 m (pc + 3) ls (.ref (gm 1) :: rest))) : W p l e R s m args below meth c H locs cells slots Q (F0 m pc ls (.ref (gm 0) :: rest)) :=
  va_get (D := D) (ci := 0) (v := .ref (gm 1)) (C := RB) (T := TB) (N := 13) hx hb hts in_TB hown hK hP 0 rfl rfl 1 (by decide) (hts _ fl_pages) (fun _ h => h) rfl hdg kk
theorem bg_roots (hx : p.tables.exec = Jvm.exec) (hb : c.code = cc) (hown : s.vm.findClass RB = some m.cls) (hts : ∀ w ∈ lw_g, w.before args s = true) (hK : va_K D vwCl (tysB ca) s) (hP : va_P D vwCl (wB gm ca st) H) (hdg : decode cc pc = .ok (.getfield 26, 3)) (kk : W p l e R s m args below meth c H locs cells slots Q (F0 m (pc + 3) ls (.ref (gm 2) :: rest))) : W p l e R s m args below meth c H locs cells slots Q (F0 m pc ls (.ref (gm 0) :: rest)) :=
  va_get (D := D) (ci := 0) (v := .ref (gm 2)) (C := RB) (T := TB) (N := 13) hx hb hts in_TB hown hK hP 0 rfl rfl 2 (by decide) (hts _ fl_roots) (fun _ h => h) rfl hdg kk
theorem bg_newest (hx : p.tables.exec = Jvm.exec) (hb : c.code = cc) (hown : s.vm.findClass RB = some m.cls) (hts : ∀ w ∈ lw_g, w.before args s = true) (hK : va_K D vwCl (tysB ca) s) (hP : va_P D vwCl (wB gm ca st) H) (hdg : decode cc pc = .ok (.getfield 52, 3)) (kk : W p l e R s m args below meth c H locs cells slots Q (F0 m (pc + 3) ls (.int (bs_newest st) :: rest))) : W p l e R s m args below meth c H locs cells slots Q (F0 m pc ls (.ref (gm 0) :: rest)) :=
  va_get (D := D) (ci := 0) (v := .int (bs_newest st)) (C := RB) (T := TB) (N := 13) hx hb hts in_TB hown hK hP 0 rfl rfl 3 (by decide) (hts _ fl_newest) (fun _ h => h) rfl hdg kk
theorem bp_newest (hx : p.tables.exec = Jvm.exec) (hb : c.code = cc) (hown : s.vm.findClass RB = some m.cls) (hts : ∀ w ∈ lw_g, w.before args s = true) (hK : va_K D vwCl (tysB ca) s) (hB : BWd D gm ca A s.heap st H locs) {v : Int32} (hdg : decode cc pc = .ok (.putfield 52, 3)) (kk : ∀ (H : Heap) (locs : List Loc), BWd D gm ca A s.heap (bs_put_newest v st) H locs → W p l e R s m args below meth c H locs cells slots Q (F0 m (pc + 3) ls (rest))) : W p l e R s m args below meth c H locs cells slots Q (F0 m pc ls (.int v :: .ref (gm 0) :: rest)) :=
  va_put (D := D) (ci := 0) (v := .int v) (ty := .int) (C := RB) (T := TB) (N := 13) hx hb hts in_TB tB tB_ok nB hown hK hB.1 hB.2.1 hB.2.2 0 rfl rfl 3 (by decide) (hts _ fl_newest) (fun _ h => h) rfl (by decide +kernel) rfl rfl (Nat.le_of_ble_eq_true rfl) hdg (fun H locs hP hD hS => kk H locs ⟨hP, hD, hS⟩)
theorem bg_closed (hx : p.tables.exec = Jvm.exec) (hb : c.code = cc) (hown : s.vm.findClass RB = some m.cls) (hts : ∀ w ∈ lw_g, w.before args s = true) (hK : va_K D vwCl (tysB ca) s) (hP : va_P D vwCl (wB gm ca st) H) (hdg : decode cc pc = .ok (.getfield 135, 3)) (kk : W p l e R s m args below meth c H locs cells slots Q (F0 m (pc + 3) ls (.int (bs_closed st) :: rest))) : W p l e R s m args below meth c H locs cells slots Q (F0 m pc ls (.ref (gm 0) :: rest)) :=
  va_get (D := D) (ci := 0) (v := .int (bs_closed st)) (C := RB) (T := TB) (N := 13) hx hb hts in_TB hown hK hP 0 rfl rfl 4 (by decide) (hts _ fl_closed) (fun _ h => h) rfl hdg kk
theorem bp_closed (hx : p.tables.exec = Jvm.exec) (hb : c.code = cc) (hown : s.vm.findClass RB = some m.cls) (hts : ∀ w ∈ lw_g, w.before args s = true) (hK : va_K D vwCl (tysB ca) s) (hB : BWd D gm ca A s.heap st H locs) {v : Int32} (hn : narrow .boolean (.int v) = .int v) (hfit : fits .boolean (.int v) = true) (hdg : decode cc pc = .ok (.putfield 135, 3)) (kk : ∀ (H : Heap) (locs : List Loc), BWd D gm ca A s.heap (bs_put_closed v st) H locs → W p l e R s m args below meth c H locs cells slots Q (F0 m (pc + 3) ls (rest))) : W p l e R s m args below meth c H locs cells slots Q (F0 m pc ls (.int v :: .ref (gm 0) :: rest)) :=
  va_put (D := D) (ci := 0) (v := .int v) (ty := .boolean) (C := RB) (T := TB) (N := 13) hx hb hts in_TB tB tB_ok nB hown hK hB.1 hB.2.1 hB.2.2 0 rfl rfl 4 (by decide) (hts _ fl_closed) (fun _ h => h) rfl (by decide +kernel) hn hfit (Nat.le_of_ble_eq_true rfl) hdg (fun H locs hP hD hS => kk H locs ⟨hP, hD, hS⟩)
theorem bg_canBeCut (hx : p.tables.exec = Jvm.exec) (hb : c.code = cc) (hown : s.vm.findClass RB = some m.cls) (hts : ∀ w ∈ lw_g, w.before args s = true) (hK : va_K D vwCl (tysB ca) s) (hP : va_P D vwCl (wB gm ca st) H) (hdg : decode cc pc = .ok (.getfield 121, 3)) (kk : W p l e R s m args below meth c H locs cells slots Q (F0 m (pc + 3) ls (.int (bs_canBeCut st) :: rest))) : W p l e R s m args below meth c H locs cells slots Q (F0 m pc ls (.ref (gm 0) :: rest)) :=
  va_get (D := D) (ci := 0) (v := .int (bs_canBeCut st)) (C := RB) (T := TB) (N := 13) hx hb hts in_TB hown hK hP 0 rfl rfl 5 (by decide) (hts _ fl_canBeCut) (fun _ h => h) rfl hdg kk
theorem bp_canBeCut (hx : p.tables.exec = Jvm.exec) (hb : c.code = cc) (hown : s.vm.findClass RB = some m.cls) (hts : ∀ w ∈ lw_g, w.before args s = true) (hK : va_K D vwCl (tysB ca) s) (hB : BWd D gm ca A s.heap st H locs) {v : Int32} (hn : narrow .boolean (.int v) = .int v) (hfit : fits .boolean (.int v) = true) (hdg : decode cc pc = .ok (.putfield 121, 3)) (kk : ∀ (H : Heap) (locs : List Loc), BWd D gm ca A s.heap (bs_put_canBeCut v st) H locs → W p l e R s m args below meth c H locs cells slots Q (F0 m (pc + 3) ls (rest))) : W p l e R s m args below meth c H locs cells slots Q (F0 m pc ls (.int v :: .ref (gm 0) :: rest)) :=
  va_put (D := D) (ci := 0) (v := .int v) (ty := .boolean) (C := RB) (T := TB) (N := 13) hx hb hts in_TB tB tB_ok nB hown hK hB.1 hB.2.1 hB.2.2 0 rfl rfl 5 (by decide) (hts _ fl_canBeCut) (fun _ h => h) rfl (by decide +kernel) hn hfit (Nat.le_of_ble_eq_true rfl) hdg (fun H locs hP hD hS => kk H locs ⟨hP, hD, hS⟩)
theorem bg_takenPages (hx : p.tables.exec = Jvm.exec) (hb : c.code = cc) (hown : s.vm.findClass RB = some m.cls) (hts : ∀ w ∈ lw_g, w.before args s = true) (hK : va_K D vwCl (tysB ca) s) (hP : va_P D vwCl (wB gm ca st) H) (hdg : decode cc pc = .ok (.getfield 29, 3)) (kk : W p l e R s m args below meth c H locs cells slots Q (F0 m (pc + 3) ls (.ref (gm 3) :: rest))) : W p l e R s m args below meth c H locs cells slots Q (F0 m pc ls (.ref (gm 0) :: rest)) :=
  va_get (D := D) (ci := 0) (v := .ref (gm 3)) (C := RB) (T := TB) (N := 13) hx hb hts in_TB hown hK hP 0 rfl rfl 6 (by decide) (hts _ fl_takenPages) (fun _ h => h) rfl hdg kk
theorem bg_takenCount (hx : p.tables.exec = Jvm.exec) (hb : c.code = cc) (hown : s.vm.findClass RB = some m.cls) (hts : ∀ w ∈ lw_g, w.before args s = true) (hK : va_K D vwCl (tysB ca) s) (hP : va_P D vwCl (wB gm ca st) H) (hdg : decode cc pc = .ok (.getfield 250, 3)) (kk : W p l e R s m args below meth c H locs cells slots Q (F0 m (pc + 3) ls (.int (bs_takenCount st) :: rest))) : W p l e R s m args below meth c H locs cells slots Q (F0 m pc ls (.ref (gm 0) :: rest)) :=
  va_get (D := D) (ci := 0) (v := .int (bs_takenCount st)) (C := RB) (T := TB) (N := 13) hx hb hts in_TB hown hK hP 0 rfl rfl 7 (by decide) (hts _ fl_takenCount) (fun _ h => h) rfl hdg kk
theorem bp_takenCount (hx : p.tables.exec = Jvm.exec) (hb : c.code = cc) (hown : s.vm.findClass RB = some m.cls) (hts : ∀ w ∈ lw_g, w.before args s = true) (hK : va_K D vwCl (tysB ca) s) (hB : BWd D gm ca A s.heap st H locs) {v : Int32} (hdg : decode cc pc = .ok (.putfield 250, 3)) (kk : ∀ (H : Heap) (locs : List Loc), BWd D gm ca A s.heap (bs_put_takenCount v st) H locs → W p l e R s m args below meth c H locs cells slots Q (F0 m (pc + 3) ls (rest))) : W p l e R s m args below meth c H locs cells slots Q (F0 m pc ls (.int v :: .ref (gm 0) :: rest)) :=
  va_put (D := D) (ci := 0) (v := .int v) (ty := .int) (C := RB) (T := TB) (N := 13) hx hb hts in_TB tB tB_ok nB hown hK hB.1 hB.2.1 hB.2.2 0 rfl rfl 7 (by decide) (hts _ fl_takenCount) (fun _ h => h) rfl (by decide +kernel) rfl rfl (Nat.le_of_ble_eq_true rfl) hdg (fun H locs hP hD hS => kk H locs ⟨hP, hD, hS⟩)
theorem bg_writtenRoot (hx : p.tables.exec = Jvm.exec) (hb : c.code = cc) (hown : s.vm.findClass RB = some m.cls) (hts : ∀ w ∈ lw_g, w.before args s = true) (hK : va_K D vwCl (tysB ca) s) (hP : va_P D vwCl (wB gm ca st) H) (hdg : decode cc pc = .ok (.getfield 253, 3)) (kk : W p l e R s m args below meth c H locs cells slots Q (F0 m (pc + 3) ls (.int (bs_writtenRoot st) :: rest))) : W p l e R s m args below meth c H locs cells slots Q (F0 m pc ls (.ref (gm 0) :: rest)) :=
  va_get (D := D) (ci := 0) (v := .int (bs_writtenRoot st)) (C := RB) (T := TB) (N := 13) hx hb hts in_TB hown hK hP 0 rfl rfl 8 (by decide) (hts _ fl_writtenRoot) (fun _ h => h) rfl hdg kk
theorem bp_writtenRoot (hx : p.tables.exec = Jvm.exec) (hb : c.code = cc) (hown : s.vm.findClass RB = some m.cls) (hts : ∀ w ∈ lw_g, w.before args s = true) (hK : va_K D vwCl (tysB ca) s) (hB : BWd D gm ca A s.heap st H locs) {v : Int32} (hdg : decode cc pc = .ok (.putfield 253, 3)) (kk : ∀ (H : Heap) (locs : List Loc), BWd D gm ca A s.heap (bs_put_writtenRoot v st) H locs → W p l e R s m args below meth c H locs cells slots Q (F0 m (pc + 3) ls (rest))) : W p l e R s m args below meth c H locs cells slots Q (F0 m pc ls (.int v :: .ref (gm 0) :: rest)) :=
  va_put (D := D) (ci := 0) (v := .int v) (ty := .int) (C := RB) (T := TB) (N := 13) hx hb hts in_TB tB tB_ok nB hown hK hB.1 hB.2.1 hB.2.2 0 rfl rfl 8 (by decide) (hts _ fl_writtenRoot) (fun _ h => h) rfl (by decide +kernel) rfl rfl (Nat.le_of_ble_eq_true rfl) hdg (fun H locs hP hD hS => kk H locs ⟨hP, hD, hS⟩)
theorem bg_wordsBefore (hx : p.tables.exec = Jvm.exec) (hb : c.code = cc) (hown : s.vm.findClass RB = some m.cls) (hts : ∀ w ∈ lw_g, w.before args s = true) (hK : va_K D vwCl (tysB ca) s) (hP : va_P D vwCl (wB gm ca st) H) (hdg : decode cc pc = .ok (.getfield 33, 3)) (kk : W p l e R s m args below meth c H locs cells slots Q (F0 m (pc + 3) ls (.ref (gm 4) :: rest))) : W p l e R s m args below meth c H locs cells slots Q (F0 m pc ls (.ref (gm 0) :: rest)) :=
  va_get (D := D) (ci := 0) (v := .ref (gm 4)) (C := RB) (T := TB) (N := 13) hx hb hts in_TB hown hK hP 0 rfl rfl 9 (by decide) (hts _ fl_wordsBefore) (fun _ h => h) rfl hdg kk
theorem bg_draftKeys (hx : p.tables.exec = Jvm.exec) (hb : c.code = cc) (hown : s.vm.findClass RB = some m.cls) (hts : ∀ w ∈ lw_g, w.before args s = true) (hK : va_K D vwCl (tysB ca) s) (hP : va_P D vwCl (wB gm ca st) H) (hdg : decode cc pc = .ok (.getfield 36, 3)) (kk : W p l e R s m args below meth c H locs cells slots Q (F0 m (pc + 3) ls (.ref (gm 5) :: rest))) : W p l e R s m args below meth c H locs cells slots Q (F0 m pc ls (.ref (gm 0) :: rest)) :=
  va_get (D := D) (ci := 0) (v := .ref (gm 5)) (C := RB) (T := TB) (N := 13) hx hb hts in_TB hown hK hP 0 rfl rfl 10 (by decide) (hts _ fl_draftKeys) (fun _ h => h) rfl hdg kk
theorem bg_draftValues (hx : p.tables.exec = Jvm.exec) (hb : c.code = cc) (hown : s.vm.findClass RB = some m.cls) (hts : ∀ w ∈ lw_g, w.before args s = true) (hK : va_K D vwCl (tysB ca) s) (hP : va_P D vwCl (wB gm ca st) H) (hdg : decode cc pc = .ok (.getfield 39, 3)) (kk : W p l e R s m args below meth c H locs cells slots Q (F0 m (pc + 3) ls (.ref (gm 6) :: rest))) : W p l e R s m args below meth c H locs cells slots Q (F0 m pc ls (.ref (gm 0) :: rest)) :=
  va_get (D := D) (ci := 0) (v := .ref (gm 6)) (C := RB) (T := TB) (N := 13) hx hb hts in_TB hown hK hP 0 rfl rfl 11 (by decide) (hts _ fl_draftValues) (fun _ h => h) rfl hdg kk
theorem bg_draftCount (hx : p.tables.exec = Jvm.exec) (hb : c.code = cc) (hown : s.vm.findClass RB = some m.cls) (hts : ∀ w ∈ lw_g, w.before args s = true) (hK : va_K D vwCl (tysB ca) s) (hP : va_P D vwCl (wB gm ca st) H) (hdg : decode cc pc = .ok (.getfield 233, 3)) (kk : W p l e R s m args below meth c H locs cells slots Q (F0 m (pc + 3) ls (.int (bs_draftCount st) :: rest))) : W p l e R s m args below meth c H locs cells slots Q (F0 m pc ls (.ref (gm 0) :: rest)) :=
  va_get (D := D) (ci := 0) (v := .int (bs_draftCount st)) (C := RB) (T := TB) (N := 13) hx hb hts in_TB hown hK hP 0 rfl rfl 12 (by decide) (hts _ fl_draftCount) (fun _ h => h) rfl hdg kk
theorem bp_draftCount (hx : p.tables.exec = Jvm.exec) (hb : c.code = cc) (hown : s.vm.findClass RB = some m.cls) (hts : ∀ w ∈ lw_g, w.before args s = true) (hK : va_K D vwCl (tysB ca) s) (hB : BWd D gm ca A s.heap st H locs) {v : Int32} (hdg : decode cc pc = .ok (.putfield 233, 3)) (kk : ∀ (H : Heap) (locs : List Loc), BWd D gm ca A s.heap (bs_put_draftCount v st) H locs → W p l e R s m args below meth c H locs cells slots Q (F0 m (pc + 3) ls (rest))) : W p l e R s m args below meth c H locs cells slots Q (F0 m pc ls (.int v :: .ref (gm 0) :: rest)) :=
  va_put (D := D) (ci := 0) (v := .int v) (ty := .int) (C := RB) (T := TB) (N := 13) hx hb hts in_TB tB tB_ok nB hown hK hB.1 hB.2.1 hB.2.2 0 rfl rfl 12 (by decide) (hts _ fl_draftCount) (fun _ h => h) rfl (by decide +kernel) rfl rfl (Nat.le_of_ble_eq_true rfl) hdg (fun H locs hP hD hS => kk H locs ⟨hP, hD, hS⟩)
theorem bl_pages (hx : p.tables.exec = Jvm.exec) (hb : c.code = cc) (hK : va_K D vwCl (tysB ca) s) (hP : va_P D vwCl (wB gm ca st) H) {i : Int32} {v : Int64} (hin : vp_in i (16 * bs_P st)) (hv : bs_pages st i.toNatClampNeg = v) (hdg : decode cc pc = .ok (.laload, 1)) (kk : W p l e R s m args below meth c H locs cells slots Q (F0 m (pc + 1) ls (.long v :: rest))) : W p l e R s m args below meth c H locs cells slots Q (F0 m pc ls (.int i :: .ref (gm 1) :: rest)) := by
  subst hv
  exact va_lald hx hb hK hP 1 0 rfl rfl hin hdg kk
theorem bt_pages (hx : p.tables.exec = Jvm.exec) (hb : c.code = cc) (hK : va_K D vwCl (tysB ca) s) (hB : BWd D gm ca A s.heap st H locs) {i : Int32} {x : Int64} {v : Nat → Int64} (hin : vp_in i (16 * bs_P st)) (hv : vp_updL (bs_pages st) i.toNatClampNeg x = v) (hdg : decode cc pc = .ok (.lastore, 1)) (kk : ∀ (H : Heap) (locs : List Loc), BWd D gm ca A s.heap (bs_put_pages v st) H locs → W p l e R s m args below meth c H locs cells slots Q (F0 m (pc + 1) ls (rest))) : W p l e R s m args below meth c H locs cells slots Q (F0 m pc ls (.long x :: .int i :: .ref (gm 1) :: rest)) := by
  subst hv
  exact va_last hx hb hK hB.1 hB.2.1 hB.2.2 1 0 rfl rfl hin hdg (fun H locs hP hD hS => kk H locs ⟨hP, hD, hS⟩)
theorem bl_roots (hx : p.tables.exec = Jvm.exec) (hb : c.code = cc) (hK : va_K D vwCl (tysB ca) s) (hP : va_P D vwCl (wB gm ca st) H) {i : Int32} {v : Int64} (hin : vp_in i 160) (hv : bs_roots st i.toNatClampNeg = v) (hdg : decode cc pc = .ok (.laload, 1)) (kk : W p l e R s m args below meth c H locs cells slots Q (F0 m (pc + 1) ls (.long v :: rest))) : W p l e R s m args below meth c H locs cells slots Q (F0 m pc ls (.int i :: .ref (gm 2) :: rest)) := by
  subst hv
  exact va_lald hx hb hK hP 2 1 rfl rfl hin hdg kk
theorem bt_roots (hx : p.tables.exec = Jvm.exec) (hb : c.code = cc) (hK : va_K D vwCl (tysB ca) s) (hB : BWd D gm ca A s.heap st H locs) {i : Int32} {x : Int64} {v : Nat → Int64} (hin : vp_in i 160) (hv : vp_updL (bs_roots st) i.toNatClampNeg x = v) (hdg : decode cc pc = .ok (.lastore, 1)) (kk : ∀ (H : Heap) (locs : List Loc), BWd D gm ca A s.heap (bs_put_roots v st) H locs → W p l e R s m args below meth c H locs cells slots Q (F0 m (pc + 1) ls (rest))) : W p l e R s m args below meth c H locs cells slots Q (F0 m pc ls (.long x :: .int i :: .ref (gm 2) :: rest)) := by
  subst hv
  exact va_last hx hb hK hB.1 hB.2.1 hB.2.2 2 1 rfl rfl hin hdg (fun H locs hP hD hS => kk H locs ⟨hP, hD, hS⟩)
theorem bl_takenPages (hx : p.tables.exec = Jvm.exec) (hb : c.code = cc) (hK : va_K D vwCl (tysB ca) s) (hP : va_P D vwCl (wB gm ca st) H) {i : Int32} {v : Int32} (hin : vp_in i 2) (hv : bs_takenPages st i.toNatClampNeg = v) (hdg : decode cc pc = .ok (.iaload, 1)) (kk : W p l e R s m args below meth c H locs cells slots Q (F0 m (pc + 1) ls (.int v :: rest))) : W p l e R s m args below meth c H locs cells slots Q (F0 m pc ls (.int i :: .ref (gm 3) :: rest)) := by
  subst hv
  exact va_iald hx hb hK hP 3 2 rfl rfl hin hdg kk
theorem bt_takenPages (hx : p.tables.exec = Jvm.exec) (hb : c.code = cc) (hK : va_K D vwCl (tysB ca) s) (hB : BWd D gm ca A s.heap st H locs) {i : Int32} {x : Int32} {v : Nat → Int32} (hin : vp_in i 2) (hv : upd (bs_takenPages st) i.toNatClampNeg x = v) (hdg : decode cc pc = .ok (.iastore, 1)) (kk : ∀ (H : Heap) (locs : List Loc), BWd D gm ca A s.heap (bs_put_takenPages v st) H locs → W p l e R s m args below meth c H locs cells slots Q (F0 m (pc + 1) ls (rest))) : W p l e R s m args below meth c H locs cells slots Q (F0 m pc ls (.int x :: .int i :: .ref (gm 3) :: rest)) := by
  subst hv
  exact va_iast hx hb hK hB.1 hB.2.1 hB.2.2 3 2 rfl rfl hin hdg (fun H locs hP hD hS => kk H locs ⟨hP, hD, hS⟩)
theorem bl_wordsBefore (hx : p.tables.exec = Jvm.exec) (hb : c.code = cc) (hK : va_K D vwCl (tysB ca) s) (hP : va_P D vwCl (wB gm ca st) H) {i : Int32} {v : Int64} (hin : vp_in i 52) (hv : bs_wordsBefore st i.toNatClampNeg = v) (hdg : decode cc pc = .ok (.laload, 1)) (kk : W p l e R s m args below meth c H locs cells slots Q (F0 m (pc + 1) ls (.long v :: rest))) : W p l e R s m args below meth c H locs cells slots Q (F0 m pc ls (.int i :: .ref (gm 4) :: rest)) := by
  subst hv
  exact va_lald hx hb hK hP 4 3 rfl rfl hin hdg kk
theorem bt_wordsBefore (hx : p.tables.exec = Jvm.exec) (hb : c.code = cc) (hK : va_K D vwCl (tysB ca) s) (hB : BWd D gm ca A s.heap st H locs) {i : Int32} {x : Int64} {v : Nat → Int64} (hin : vp_in i 52) (hv : vp_updL (bs_wordsBefore st) i.toNatClampNeg x = v) (hdg : decode cc pc = .ok (.lastore, 1)) (kk : ∀ (H : Heap) (locs : List Loc), BWd D gm ca A s.heap (bs_put_wordsBefore v st) H locs → W p l e R s m args below meth c H locs cells slots Q (F0 m (pc + 1) ls (rest))) : W p l e R s m args below meth c H locs cells slots Q (F0 m pc ls (.long x :: .int i :: .ref (gm 4) :: rest)) := by
  subst hv
  exact va_last hx hb hK hB.1 hB.2.1 hB.2.2 4 3 rfl rfl hin hdg (fun H locs hP hD hS => kk H locs ⟨hP, hD, hS⟩)
theorem bl_draftKeys (hx : p.tables.exec = Jvm.exec) (hb : c.code = cc) (hK : va_K D vwCl (tysB ca) s) (hP : va_P D vwCl (wB gm ca st) H) {i : Int32} {v : Int64} (hin : vp_in i 8) (hv : bs_draftKeys st i.toNatClampNeg = v) (hdg : decode cc pc = .ok (.laload, 1)) (kk : W p l e R s m args below meth c H locs cells slots Q (F0 m (pc + 1) ls (.long v :: rest))) : W p l e R s m args below meth c H locs cells slots Q (F0 m pc ls (.int i :: .ref (gm 5) :: rest)) := by
  subst hv
  exact va_lald hx hb hK hP 5 4 rfl rfl hin hdg kk
theorem bt_draftKeys (hx : p.tables.exec = Jvm.exec) (hb : c.code = cc) (hK : va_K D vwCl (tysB ca) s) (hB : BWd D gm ca A s.heap st H locs) {i : Int32} {x : Int64} {v : Nat → Int64} (hin : vp_in i 8) (hv : vp_updL (bs_draftKeys st) i.toNatClampNeg x = v) (hdg : decode cc pc = .ok (.lastore, 1)) (kk : ∀ (H : Heap) (locs : List Loc), BWd D gm ca A s.heap (bs_put_draftKeys v st) H locs → W p l e R s m args below meth c H locs cells slots Q (F0 m (pc + 1) ls (rest))) : W p l e R s m args below meth c H locs cells slots Q (F0 m pc ls (.long x :: .int i :: .ref (gm 5) :: rest)) := by
  subst hv
  exact va_last hx hb hK hB.1 hB.2.1 hB.2.2 5 4 rfl rfl hin hdg (fun H locs hP hD hS => kk H locs ⟨hP, hD, hS⟩)
theorem bl_draftValues (hx : p.tables.exec = Jvm.exec) (hb : c.code = cc) (hK : va_K D vwCl (tysB ca) s) (hP : va_P D vwCl (wB gm ca st) H) {i : Int32} {v : Int64} (hin : vp_in i 8) (hv : bs_draftValues st i.toNatClampNeg = v) (hdg : decode cc pc = .ok (.laload, 1)) (kk : W p l e R s m args below meth c H locs cells slots Q (F0 m (pc + 1) ls (.long v :: rest))) : W p l e R s m args below meth c H locs cells slots Q (F0 m pc ls (.int i :: .ref (gm 6) :: rest)) := by
  subst hv
  exact va_lald hx hb hK hP 6 5 rfl rfl hin hdg kk
theorem bt_draftValues (hx : p.tables.exec = Jvm.exec) (hb : c.code = cc) (hK : va_K D vwCl (tysB ca) s) (hB : BWd D gm ca A s.heap st H locs) {i : Int32} {x : Int64} {v : Nat → Int64} (hin : vp_in i 8) (hv : vp_updL (bs_draftValues st) i.toNatClampNeg x = v) (hdg : decode cc pc = .ok (.lastore, 1)) (kk : ∀ (H : Heap) (locs : List Loc), BWd D gm ca A s.heap (bs_put_draftValues v st) H locs → W p l e R s m args below meth c H locs cells slots Q (F0 m (pc + 1) ls (rest))) : W p l e R s m args below meth c H locs cells slots Q (F0 m pc ls (.long x :: .int i :: .ref (gm 6) :: rest)) := by
  subst hv
  exact va_last hx hb hK hB.1 hB.2.1 hB.2.2 6 5 rfl rfl hin hdg (fun H locs hP hD hS => kk H locs ⟨hP, hD, hS⟩)
theorem ba_ld {a0 k0 : Nat} {cA : ClassId} {f0 : Nat → Int64} (hx : p.tables.exec = Jvm.exec) (hb : c.code = cc) (hK : va_K D vwCl [(cA, .long)] s) (hP : va_P D vwCl [(a0, .inl (cA, k0, .inr (.inl f0)))] H) {i : Int32} {v : Int64} (hin : vp_in i k0) (hv : f0 i.toNatClampNeg = v) (hdg : decode cc pc = .ok (.laload, 1)) (kk : W p l e R s m args below meth c H locs cells slots Q (F0 m (pc + 1) ls (.long v :: rest))) : W p l e R s m args below meth c H locs cells slots Q (F0 m pc ls (.int i :: .ref a0 :: rest)) := by
  subst hv
  exact va_lald hx hb hK hP 0 0 rfl rfl hin hdg kk
theorem bc_pages_wordsBefore (hx : p.tables.exec = Jvm.exec) (hb : c.code = cc) (hml : c.maxLocals = ls.size) (hown : s.vm.findClass RB = some m.cls) (hts : ∀ w ∈ lw_g, w.before args s = true) (hK : va_K D vwCl (tysB ca) s) (hB : BWd D gm ca A s.heap st H locs) {sp dp n : Int32} {v : Nat → Int64} (hin : cpIn sp dp n (16 * bs_P st) 52) (hv : va_cpy (bs_pages st) (bs_wordsBefore st) sp.toNatClampNeg dp.toNatClampNeg n.toNatClampNeg = v) (hR : 1 ≤ R.frames ∧ nativeFrameWords "java/lang/System" "arraycopy" 5 + 11 ≤ R.locals) (hdg : decode cc pc = .ok (.invokestatic 272, 3)) (kk : ∀ (H : Heap) (locs : List Loc), BWd D gm ca A s.heap (bs_put_wordsBefore v st) H locs → W p l e R s m args below meth c H locs cells slots Q (F0 m (pc + 3) ls [])) : W p l e R s m args below meth c H locs cells slots Q (F0 m pc ls (.int n :: .int dp :: .ref (gm 4) :: .int sp :: .ref (gm 1) :: [])) := by
  subst hv
  exact va_copyl hx hb hml hown (hts _ ac_link) (hts _ ac_native) (hts _ ac_static) (hts _ ac_init) hK hB.1 hB.2.1 hB.2.2 1 4 0 3 rfl rfl rfl rfl rfl hin.1 hin.2.1 hin.2.2.1 hin.2.2.2.1 hin.2.2.2.2 (fun _ _ => rfl) hR.1 (by show 0 + _ ≤ _; omega) hdg (fun H locs hP hD hS => kk H locs ⟨hP, hD, hS⟩)
theorem bc_roots_wordsBefore (hx : p.tables.exec = Jvm.exec) (hb : c.code = cc) (hml : c.maxLocals = ls.size) (hown : s.vm.findClass RB = some m.cls) (hts : ∀ w ∈ lw_g, w.before args s = true) (hK : va_K D vwCl (tysB ca) s) (hB : BWd D gm ca A s.heap st H locs) {sp dp n : Int32} {v : Nat → Int64} (hin : cpIn sp dp n 160 52) (hv : va_cpy (bs_roots st) (bs_wordsBefore st) sp.toNatClampNeg dp.toNatClampNeg n.toNatClampNeg = v) (hR : 1 ≤ R.frames ∧ nativeFrameWords "java/lang/System" "arraycopy" 5 + 11 ≤ R.locals) (hdg : decode cc pc = .ok (.invokestatic 272, 3)) (kk : ∀ (H : Heap) (locs : List Loc), BWd D gm ca A s.heap (bs_put_wordsBefore v st) H locs → W p l e R s m args below meth c H locs cells slots Q (F0 m (pc + 3) ls [])) : W p l e R s m args below meth c H locs cells slots Q (F0 m pc ls (.int n :: .int dp :: .ref (gm 4) :: .int sp :: .ref (gm 2) :: [])) := by
  subst hv
  exact va_copyl hx hb hml hown (hts _ ac_link) (hts _ ac_native) (hts _ ac_static) (hts _ ac_init) hK hB.1 hB.2.1 hB.2.2 2 4 1 3 rfl rfl rfl rfl rfl hin.1 hin.2.1 hin.2.2.1 hin.2.2.2.1 hin.2.2.2.2 (fun _ _ => rfl) hR.1 (by show 0 + _ ≤ _; omega) hdg (fun H locs hP hD hS => kk H locs ⟨hP, hD, hS⟩)
end BR
end
section
/-! the book's world behind calls: contracts of readers (RM), of writers (MM), of methods without a world (SM), of the sum (SA); and the rows that use them -/
section BK
variable {p : Program} {l : Launch} {e : Env} {R : Room} {s : State} {m : MethodId} {args : Array Value} {below : List Frame} {meth : Method} {c : Code} {H : Heap} {locs : List Loc} {cells slots : Nat} {Q : State → Prop}
variable {cc : ByteArray} {pc nL : Nat} {ls : Array Slot} {rest st0 : List Value} {D : va_G} {A : Nat → Prop} {gm : Nat → Nat} {ca : Nat → ClassId} {st st' : BSt}
variable {y : MethodName} {rm : Room} {bytes : ByteArray} {maxL idx n : Nat} {ret : Option FieldType} {As : List Value}
def bk_pre (D : va_G) (gm : Nat → Nat) (ca : Nat → ClassId) (st : BSt) (U : State) : Prop := va_P D vwCl (wB gm ca st) U.heap ∧ va_K D vwCl (tysB ca) U ∧ zz (fun _ => False) U U.heap
/-- a reader of the book: it ends with r, and the heap is as it was -/
def RM (l : Launch) (y : MethodName) (rm : Room) (D : va_G) (gm : Nat → Nat) (ca : Nat → ClassId) (As : List Value) (st : BSt) (r : XR) : Prop :=
  MetX l y lw_g rm (va_Pc (.ref (gm 0) :: As) (bk_pre D gm ca st)) (xx_Q r) rm.cells rm.slots (fun _ => False)
abbrev mm_Q (D : va_G) (gm : Nat → Nat) (ca : Nat → ClassId) (A : Nat → Prop) (r : XR) (st' : BSt) : Array Value → State → Outcome → State → Prop :=
  fun _ s0 o t => xx_O r s0 o t ∧ va_P D vwCl (wB gm ca st') t.heap ∧ va_D A (wB gm ca st') ∧ va_F A s0 t
/-- a writer of the book: it ends with r, and the book is st' -/
def MM (l : Launch) (y : MethodName) (rm : Room) (D : va_G) (gm : Nat → Nat) (ca : Nat → ClassId) (As : List Value) (st : BSt) (r : XR) (st' : BSt) : Prop :=
  ∀ sz : Nat, MetX l y lw_g rm (va_Pc (.ref (gm 0) :: As) (fun U => U.heap.size = sz ∧ bk_pre D gm ca st U ∧ va_D (fun _ => True) (wB gm ca st))) (mm_Q D gm ca (va_A (wB gm ca st) sz) r st') rm.cells rm.slots (va_A (wB gm ca st) sz)
/-- a static method of numbers -/
def SM (l : Launch) (y : MethodName) (rm : Room) (As : List Value) (r : XR) : Prop :=
  MetX l y lw_g rm (va_Pc As (fun _ => True)) (xx_Q r) rm.cells rm.slots (fun _ => False)
/-- a static method that reads one array of longs -/
def SA (l : Launch) (y : MethodName) (rm : Room) (D : va_G) (a : Nat) (cA : ClassId) (f0 : Nat → Int64) (k0 : Nat) (As : List Value) (r : XR) : Prop :=
  MetX l y lw_g rm (va_Pc (.ref a :: As) (fun U => va_P D vwCl [(a, .inl (cA, k0, .inr (.inl f0)))] U.heap ∧ va_K D vwCl [(cA, .long)] U)) (xx_Q r) rm.cells rm.slots (fun _ => False)
theorem bk_pre.moved {u U : State} (hh : U.heap = u.heap) (hvm : u.vm.Alike U.vm) (h : bk_pre D gm ca st u) : bk_pre D gm ca st U := ⟨by rw [hh]; exact h.1, va_K.moved hvm h.2.1, by rw [hh]; exact h.2.2.moved hvm⟩
theorem nilL {L : List Loc} (h : ∀ q ∈ L, (fun _ : Nat => False) q.base) : L = [] := by
  cases L with
  | nil => rfl
  | cons q t => exact (h q List.mem_cons_self).elim
theorem rm_run {r : XR} (hM : RM l y rm D gm ca As st r) (cw : CallW R s args RB RB idx y bytes maxL ret lw_g rm rm.cells rm.slots n) (hx : p.tables.exec = Jvm.exec) (hb : c.code = cc) (hml : c.maxLocals = nL) (hown : s.vm.findClass RB = some m.cls) (hts : ∀ w ∈ lw_g, w.before args s = true)
    (hK : va_K D vwCl (tysB ca) s) (hP : va_P D vwCl (wB gm ca st) H) (hS : va_S A s.heap H locs) (hZ : zz A s s.heap) (hls : ls.size = nL) (hn : As.length = n) (hst : st0 = As.reverse ++ .ref (gm 0) :: rest) (hW : 2 * (F0 m pc ls st0).monitorRoom + (rest.map fun v => v.category).sum ≤ 8)
    (hdg : decode cc pc = .ok (.invokevirtual idx, 3)) (hf : cells + rm.cells ≤ R.cells ∧ slots + rm.slots ≤ R.slots) :
    xx_Run p l e R s m args below meth c H locs cells slots rm.cells rm.slots (F0 m pc ls st0) rest (xx_Q r (Value.ref (gm 0) :: As).toArray) (fun _ => False) :=
  xx_runV (C := RB) (Ts := lw_g) ⟨hx, hb, hml, hown, hts⟩ hM cw
    ⟨fun a U g mk q => ⟨q.1, q.2.moved rfl (Vm.Alike.refl U.vm)⟩, va_recv hK hP (ci := 0) (q0 := 0) rfl rfl, fun U hU hW => ⟨rfl, by rw [hU]; exact hP, va_K.moved hW.alike hK, hZ.at hS hU hW.alike⟩⟩ rfl hn hls hst hW hdg hf
theorem rm_v {v : Option Value} (hM : RM l y rm D gm ca As st (.inl v)) (cw : CallW R s args RB RB idx y bytes maxL ret lw_g rm rm.cells rm.slots n) (hx : p.tables.exec = Jvm.exec) (hb : c.code = cc) (hml : c.maxLocals = nL) (hown : s.vm.findClass RB = some m.cls) (hts : ∀ w ∈ lw_g, w.before args s = true)
    (hK : va_K D vwCl (tysB ca) s) (hP : va_P D vwCl (wB gm ca st) H) (hS : va_S A s.heap H locs) (hZ : zz A s s.heap) (hls : ls.size = nL) (hn : As.length = n) (hst : st0 = As.reverse ++ .ref (gm 0) :: rest) (hW : 2 * (F0 m pc ls st0).monitorRoom + (rest.map fun v => v.category).sum ≤ 8)
    (hdg : decode cc pc = .ok (.invokevirtual idx, 3)) (hf : cells + rm.cells ≤ R.cells ∧ slots + rm.slots ≤ R.slots)
    (kk : W p l e R s m args below meth c H locs (cells + rm.cells) (slots + rm.slots) Q (F0 m (pc + 3) ls (v.toList ++ rest))) : W p l e R s m args below meth c H locs cells slots Q (F0 m pc ls st0) := by
  refine xx_call (rm_run hM cw hx hb hml hown hts hK hP hS hZ hls hn hst hW hdg hf) ?_ ?_
  · intro v' s0 t L h0 hw hL hq
    obtain ⟨hv, hh⟩ := hq
    cases hv
    rw [nilL hL, List.append_nil, hh, h0]
    exact kk
  · intro x s0 t L h0 hw hL hq
    cases hq.1
theorem rmI {r : Int32} (hM : RM l y rm D gm ca As st (XI r)) (cw : CallW R s args RB RB idx y bytes maxL ret lw_g rm rm.cells rm.slots n) (hx : p.tables.exec = Jvm.exec) (hb : c.code = cc) (hml : c.maxLocals = nL) (hown : s.vm.findClass RB = some m.cls) (hts : ∀ w ∈ lw_g, w.before args s = true)
    (hK : va_K D vwCl (tysB ca) s) (hP : va_P D vwCl (wB gm ca st) H) (hS : va_S A s.heap H locs) (hZ : zz A s s.heap) (hls : ls.size = nL) (hn : As.length = n) (hst : st0 = As.reverse ++ .ref (gm 0) :: rest) (hW : 2 * (F0 m pc ls st0).monitorRoom + (rest.map fun v => v.category).sum ≤ 8)
    (hdg : decode cc pc = .ok (.invokevirtual idx, 3)) (hf : cells + rm.cells ≤ R.cells ∧ slots + rm.slots ≤ R.slots)
    (kk : W p l e R s m args below meth c H locs (cells + rm.cells) (slots + rm.slots) Q (F0 m (pc + 3) ls (.int r :: rest))) : W p l e R s m args below meth c H locs cells slots Q (F0 m pc ls st0) := rm_v hM cw hx hb hml hown hts hK hP hS hZ hls hn hst hW hdg hf kk
theorem rmL {r : Int64} (hM : RM l y rm D gm ca As st (XL r)) (cw : CallW R s args RB RB idx y bytes maxL ret lw_g rm rm.cells rm.slots n) (hx : p.tables.exec = Jvm.exec) (hb : c.code = cc) (hml : c.maxLocals = nL) (hown : s.vm.findClass RB = some m.cls) (hts : ∀ w ∈ lw_g, w.before args s = true)
    (hK : va_K D vwCl (tysB ca) s) (hP : va_P D vwCl (wB gm ca st) H) (hS : va_S A s.heap H locs) (hZ : zz A s s.heap) (hls : ls.size = nL) (hn : As.length = n) (hst : st0 = As.reverse ++ .ref (gm 0) :: rest) (hW : 2 * (F0 m pc ls st0).monitorRoom + (rest.map fun v => v.category).sum ≤ 8)
    (hdg : decode cc pc = .ok (.invokevirtual idx, 3)) (hf : cells + rm.cells ≤ R.cells ∧ slots + rm.slots ≤ R.slots)
    (kk : W p l e R s m args below meth c H locs (cells + rm.cells) (slots + rm.slots) Q (F0 m (pc + 3) ls (.long r :: rest))) : W p l e R s m args below meth c H locs cells slots Q (F0 m pc ls st0) := rm_v hM cw hx hb hml hown hts hK hP hS hZ hls hn hst hW hdg hf kk
theorem rmV (hM : RM l y rm D gm ca As st XV) (cw : CallW R s args RB RB idx y bytes maxL ret lw_g rm rm.cells rm.slots n) (hx : p.tables.exec = Jvm.exec) (hb : c.code = cc) (hml : c.maxLocals = nL) (hown : s.vm.findClass RB = some m.cls) (hts : ∀ w ∈ lw_g, w.before args s = true)
    (hK : va_K D vwCl (tysB ca) s) (hP : va_P D vwCl (wB gm ca st) H) (hS : va_S A s.heap H locs) (hZ : zz A s s.heap) (hls : ls.size = nL) (hn : As.length = n) (hst : st0 = As.reverse ++ .ref (gm 0) :: rest) (hW : 2 * (F0 m pc ls st0).monitorRoom + (rest.map fun v => v.category).sum ≤ 8)
    (hdg : decode cc pc = .ok (.invokevirtual idx, 3)) (hf : cells + rm.cells ≤ R.cells ∧ slots + rm.slots ≤ R.slots)
    (kk : W p l e R s m args below meth c H locs (cells + rm.cells) (slots + rm.slots) Q (F0 m (pc + 3) ls rest)) : W p l e R s m args below meth c H locs cells slots Q (F0 m pc ls st0) := rm_v hM cw hx hb hml hown hts hK hP hS hZ hls hn hst hW hdg hf kk
/-- a reader that throws -/
theorem rmT {k : Nat} (hM : RM l y rm D gm ca As st (.inr k)) (cw : CallW R s args RB RB idx y bytes maxL ret lw_g rm rm.cells rm.slots n) (hx : p.tables.exec = Jvm.exec) (hb : c.code = cc) (hml : c.maxLocals = nL) (hown : s.vm.findClass RB = some m.cls) (hts : ∀ w ∈ lw_g, w.before args s = true)
    (hK : va_K D vwCl (tysB ca) s) (hP : va_P D vwCl (wB gm ca st) H) (hS : va_S A s.heap H locs) (hZ : zz A s s.heap) (hls : ls.size = nL) (hn : As.length = n) (hst : st0 = As.reverse ++ .ref (gm 0) :: rest) (hW : 2 * (F0 m pc ls st0).monitorRoom + (rest.map fun v => v.category).sum ≤ 8)
    (hdg : decode cc pc = .ok (.invokevirtual idx, 3)) (hf : cells + rm.cells ≤ R.cells ∧ slots + rm.slots ≤ R.slots)
    (kk : ∀ (x : Addr) (t : State), H.size ≤ x → H.size ≤ t.heap.size → (∀ q, q < H.size → t.heap[q]? = H[q]?) → s.WarmedH t.vm → xx_X k t x → WT p l e R s m args below meth c t.heap locs (cells + rm.cells) (slots + rm.slots) Q (F0 m pc ls rest) x) : W p l e R s m args below meth c H locs cells slots Q (F0 m pc ls st0) := by
  refine xx_call (rm_run hM cw hx hb hml hown hts hK hP hS hZ hls hn hst hW hdg hf) ?_ ?_
  · intro v' s0 t L h0 hw hL hq
    obtain ⟨x, hv, -⟩ := hq
    cases hv
  · intro x s0 t L h0 hw hL hq
    obtain ⟨x', hv, g1, g2, g3, g4⟩ := hq
    cases hv
    rw [h0] at g1 g2 g3
    rw [nilL hL, List.append_nil]
    exact kk x t g1 g2 g3 hw g4
/-- a static method of numbers -/
theorem sm_v {own : String} {v : Option Value} (hM : SM l y rm As (.inl v)) (cw : CallB R s args own idx y bytes maxL ret lw_g rm rm.cells rm.slots n ∧ (Cond.static y).before args s = true) (hx : p.tables.exec = Jvm.exec) (hb : c.code = cc) (hml : c.maxLocals = nL) (hown : s.vm.findClass own = some m.cls) (hts : ∀ w ∈ lw_g, w.before args s = true)
    (hls : ls.size = nL) (hn : As.length = n) (hst : st0 = As.reverse ++ rest) (hW : 2 * (F0 m pc ls st0).monitorRoom + (rest.map fun v => v.category).sum ≤ 8)
    (hdg : decode cc pc = .ok (.invokestatic idx, 3)) (hf : cells + rm.cells ≤ R.cells ∧ slots + rm.slots ≤ R.slots)
    (kk : W p l e R s m args below meth c H locs (cells + rm.cells) (slots + rm.slots) Q (F0 m (pc + 3) ls (v.toList ++ rest))) : W p l e R s m args below meth c H locs cells slots Q (F0 m pc ls st0) := by
  refine xx_call (xx_runS (Ts := lw_g) ⟨hx, hb, hml, hown, hts⟩ hM cw ⟨fun a U g mk q => q, fun U hU hW => ⟨rfl, trivial⟩⟩ rfl hn hls hst hW hdg hf) ?_ ?_
  · intro v' s0 t L h0 hw hL hq
    obtain ⟨hv, hh⟩ := hq
    cases hv
    rw [nilL hL, List.append_nil, hh, h0]
    exact kk
  · intro x s0 t L h0 hw hL hq
    cases hq.1
theorem smI {own : String} {r : Int32} (hM : SM l y rm As (XI r)) (cw : CallB R s args own idx y bytes maxL ret lw_g rm rm.cells rm.slots n ∧ (Cond.static y).before args s = true) (hx : p.tables.exec = Jvm.exec) (hb : c.code = cc) (hml : c.maxLocals = nL) (hown : s.vm.findClass own = some m.cls) (hts : ∀ w ∈ lw_g, w.before args s = true)
    (hls : ls.size = nL) (hn : As.length = n) (hst : st0 = As.reverse ++ rest) (hW : 2 * (F0 m pc ls st0).monitorRoom + (rest.map fun v => v.category).sum ≤ 8)
    (hdg : decode cc pc = .ok (.invokestatic idx, 3)) (hf : cells + rm.cells ≤ R.cells ∧ slots + rm.slots ≤ R.slots)
    (kk : W p l e R s m args below meth c H locs (cells + rm.cells) (slots + rm.slots) Q (F0 m (pc + 3) ls (.int r :: rest))) : W p l e R s m args below meth c H locs cells slots Q (F0 m pc ls st0) := sm_v hM cw hx hb hml hown hts hls hn hst hW hdg hf kk
theorem smL {own : String} {r : Int64} (hM : SM l y rm As (XL r)) (cw : CallB R s args own idx y bytes maxL ret lw_g rm rm.cells rm.slots n ∧ (Cond.static y).before args s = true) (hx : p.tables.exec = Jvm.exec) (hb : c.code = cc) (hml : c.maxLocals = nL) (hown : s.vm.findClass own = some m.cls) (hts : ∀ w ∈ lw_g, w.before args s = true)
    (hls : ls.size = nL) (hn : As.length = n) (hst : st0 = As.reverse ++ rest) (hW : 2 * (F0 m pc ls st0).monitorRoom + (rest.map fun v => v.category).sum ≤ 8)
    (hdg : decode cc pc = .ok (.invokestatic idx, 3)) (hf : cells + rm.cells ≤ R.cells ∧ slots + rm.slots ≤ R.slots)
    (kk : W p l e R s m args below meth c H locs (cells + rm.cells) (slots + rm.slots) Q (F0 m (pc + 3) ls (.long r :: rest))) : W p l e R s m args below meth c H locs cells slots Q (F0 m pc ls st0) := sm_v hM cw hx hb hml hown hts hls hn hst hW hdg hf kk
/-- the sum of an array that lies at the place q0 of the world -/
theorem saL {r : Int64} {f0 : Nat → Int64} {k0 a : Nat} {cA : ClassId} (hM : SA l y rm D a cA f0 k0 As (XL r)) (cw : CallB R s args RB idx y bytes maxL ret lw_g rm rm.cells rm.slots n ∧ (Cond.static y).before args s = true) (hx : p.tables.exec = Jvm.exec) (hb : c.code = cc) (hml : c.maxLocals = nL) (hown : s.vm.findClass RB = some m.cls) (hts : ∀ w ∈ lw_g, w.before args s = true)
    (hK : va_K D vwCl (tysB ca) s) (hP : va_P D vwCl (wB gm ca st) H) (q0 t0 : Nat) (hq : (wB gm ca st)[q0]? = some (a, .inl (cA, k0, .inr (.inl f0)))) (ht : (tysB ca)[t0]? = some (cA, .long))
    (hls : ls.size = nL) (hn : As.length + 1 = n) (hst : st0 = As.reverse ++ .ref a :: rest) (hW : 2 * (F0 m pc ls st0).monitorRoom + (rest.map fun v => v.category).sum ≤ 8)
    (hdg : decode cc pc = .ok (.invokestatic idx, 3)) (hf : cells + rm.cells ≤ R.cells ∧ slots + rm.slots ≤ R.slots)
    (kk : W p l e R s m args below meth c H locs (cells + rm.cells) (slots + rm.slots) Q (F0 m (pc + 3) ls (.long r :: rest))) : W p l e R s m args below meth c H locs cells slots Q (F0 m pc ls st0) := by
  have hPc : va_P D vwCl [(a, .inl (cA, k0, .inr (.inl f0)))] H := hP.sub [q0] (by simp [hq])
  have hKc : va_K D vwCl [(cA, .long)] s := hK.sub [t0] (by simp [ht])
  refine xx_call (xx_runS (Ts := lw_g) (As := .ref a :: As) (rest := rest) ⟨hx, hb, hml, hown, hts⟩ hM cw ⟨fun a U g mk q => ⟨q.1, q.2.1, va_K.moved (u := U) (U := U.calling g mk a) (Vm.Alike.refl U.vm) q.2.2⟩, fun U hU hW => ⟨rfl, by rw [hU]; exact hPc, va_K.moved hW.alike hKc⟩⟩ rfl (by simpa using hn) hls (by rw [hst]; simp) hW hdg hf) ?_ ?_
  · intro v' s0 t L h0 hw hL hq
    obtain ⟨hv, hh⟩ := hq
    cases hv
    rw [nilL hL, List.append_nil, hh, h0]
    exact kk
  · intro x s0 t L h0 hw hL hq
    cases hq.1
theorem mm_run {r : XR} (hM : MM l y rm D gm ca As st r st') (cw : CallW R s args RB RB idx y bytes maxL ret lw_g rm rm.cells rm.slots n) (hx : p.tables.exec = Jvm.exec) (hb : c.code = cc) (hml : c.maxLocals = nL) (hown : s.vm.findClass RB = some m.cls) (hts : ∀ w ∈ lw_g, w.before args s = true)
    (hK : va_K D vwCl (tysB ca) s) (hB : BWd D gm ca A s.heap st H locs) (hZ : zz A s s.heap) (hls : ls.size = nL) (hn : As.length = n) (hst : st0 = As.reverse ++ .ref (gm 0) :: rest) (hW : 2 * (F0 m pc ls st0).monitorRoom + (rest.map fun v => v.category).sum ≤ 8)
    (hdg : decode cc pc = .ok (.invokevirtual idx, 3)) (hf : cells + rm.cells ≤ R.cells ∧ slots + rm.slots ≤ R.slots) :
    xx_Run p l e R s m args below meth c H locs cells slots rm.cells rm.slots (F0 m pc ls st0) rest (mm_Q D gm ca (va_A (wB gm ca st) H.size) r st' (Value.ref (gm 0) :: As).toArray) (va_A (wB gm ca st) H.size) :=
  xx_runV (C := RB) (Ts := lw_g) ⟨hx, hb, hml, hown, hts⟩ (hM H.size) cw
    ⟨fun a U g mk q => ⟨q.1, q.2.1, q.2.2.1.moved rfl (Vm.Alike.refl U.vm), q.2.2.2⟩, va_recv hK hB.1 (ci := 0) (q0 := 0) rfl rfl, fun U hU hW => ⟨rfl, by rw [hU], ⟨by rw [hU]; exact hB.1, va_K.moved hW.alike hK, hZ.at hB.2.2 hU hW.alike⟩, hB.2.1.weaken (fun _ _ _ _ => trivial)⟩⟩ rfl hn hls hst hW hdg hf
/-- the world behind a writer's call -/
theorem mm_back {s0 t : State} {L : List Loc} (hA : ∀ q, s.heap.size ≤ q → A q) (hB : BWd D gm ca A s.heap st H locs) (h0 : s0.heap = H) (hL : ∀ q ∈ L, va_A (wB gm ca st) H.size q.base) (hP : va_P D vwCl (wB gm ca st') t.heap) (hD : va_D (va_A (wB gm ca st) H.size) (wB gm ca st')) (hF : va_F (va_A (wB gm ca st) H.size) s0 t) : BWd D gm ca A s.heap st' t.heap (locs ++ L) := by
  have hsub : ∀ q, va_A (wB gm ca st) H.size q → A q := by
    intro q hq
    rcases hq with ⟨k, e, h⟩ | h
    · exact hB.2.1.2 k (q, e) h
    · exact hA q (Nat.le_trans hB.2.2.1 h)
  refine ⟨hP, hD.weaken (fun _ _ _ h => hsub _ h), ?_, ?_, ?_⟩
  · exact Nat.le_trans hB.2.2.1 (by rw [← h0]; exact hF.1)
  · intro q h1 h2
    rw [hF.2 q (by rw [h0]; exact Nat.lt_of_lt_of_le h1 hB.2.2.1) (fun z => h2 (hsub q z)), h0]
    exact hB.2.2.2.1 q h1 h2
  · intro q hq
    rcases List.mem_append.mp hq with h | h
    · exact hB.2.2.2.2 q h
    · exact hsub _ (hL q h)
theorem mm_v {v : Option Value} (hM : MM l y rm D gm ca As st (.inl v) st') (cw : CallW R s args RB RB idx y bytes maxL ret lw_g rm rm.cells rm.slots n) (hx : p.tables.exec = Jvm.exec) (hb : c.code = cc) (hml : c.maxLocals = nL) (hown : s.vm.findClass RB = some m.cls) (hts : ∀ w ∈ lw_g, w.before args s = true)
    (hK : va_K D vwCl (tysB ca) s) (hB : BWd D gm ca A s.heap st H locs) (hZ : zz A s s.heap) (hA : ∀ q, s.heap.size ≤ q → A q) (hls : ls.size = nL) (hn : As.length = n) (hst : st0 = As.reverse ++ .ref (gm 0) :: rest) (hW : 2 * (F0 m pc ls st0).monitorRoom + (rest.map fun v => v.category).sum ≤ 8)
    (hdg : decode cc pc = .ok (.invokevirtual idx, 3)) (hf : cells + rm.cells ≤ R.cells ∧ slots + rm.slots ≤ R.slots)
    (kk : ∀ (H : Heap) (locs : List Loc), BWd D gm ca A s.heap st' H locs → W p l e R s m args below meth c H locs (cells + rm.cells) (slots + rm.slots) Q (F0 m (pc + 3) ls (v.toList ++ rest))) : W p l e R s m args below meth c H locs cells slots Q (F0 m pc ls st0) := by
  refine xx_call (mm_run hM cw hx hb hml hown hts hK hB hZ hls hn hst hW hdg hf) ?_ ?_
  · intro v' s0 t L h0 hw hL hq
    obtain ⟨hv, hP, hD, hF⟩ := hq
    cases hv
    exact kk _ _ (mm_back hA hB h0 hL hP hD hF)
  · intro x s0 t L h0 hw hL hq
    cases hq.1
theorem mmI {r : Int32} (hM : MM l y rm D gm ca As st (XI r) st') (cw : CallW R s args RB RB idx y bytes maxL ret lw_g rm rm.cells rm.slots n) (hx : p.tables.exec = Jvm.exec) (hb : c.code = cc) (hml : c.maxLocals = nL) (hown : s.vm.findClass RB = some m.cls) (hts : ∀ w ∈ lw_g, w.before args s = true)
    (hK : va_K D vwCl (tysB ca) s) (hB : BWd D gm ca A s.heap st H locs) (hZ : zz A s s.heap) (hA : ∀ q, s.heap.size ≤ q → A q) (hls : ls.size = nL) (hn : As.length = n) (hst : st0 = As.reverse ++ .ref (gm 0) :: rest) (hW : 2 * (F0 m pc ls st0).monitorRoom + (rest.map fun v => v.category).sum ≤ 8)
    (hdg : decode cc pc = .ok (.invokevirtual idx, 3)) (hf : cells + rm.cells ≤ R.cells ∧ slots + rm.slots ≤ R.slots)
    (kk : ∀ (H : Heap) (locs : List Loc), BWd D gm ca A s.heap st' H locs → W p l e R s m args below meth c H locs (cells + rm.cells) (slots + rm.slots) Q (F0 m (pc + 3) ls (.int r :: rest))) : W p l e R s m args below meth c H locs cells slots Q (F0 m pc ls st0) := mm_v hM cw hx hb hml hown hts hK hB hZ hA hls hn hst hW hdg hf kk
theorem mmV (hM : MM l y rm D gm ca As st XV st') (cw : CallW R s args RB RB idx y bytes maxL ret lw_g rm rm.cells rm.slots n) (hx : p.tables.exec = Jvm.exec) (hb : c.code = cc) (hml : c.maxLocals = nL) (hown : s.vm.findClass RB = some m.cls) (hts : ∀ w ∈ lw_g, w.before args s = true)
    (hK : va_K D vwCl (tysB ca) s) (hB : BWd D gm ca A s.heap st H locs) (hZ : zz A s s.heap) (hA : ∀ q, s.heap.size ≤ q → A q) (hls : ls.size = nL) (hn : As.length = n) (hst : st0 = As.reverse ++ .ref (gm 0) :: rest) (hW : 2 * (F0 m pc ls st0).monitorRoom + (rest.map fun v => v.category).sum ≤ 8)
    (hdg : decode cc pc = .ok (.invokevirtual idx, 3)) (hf : cells + rm.cells ≤ R.cells ∧ slots + rm.slots ≤ R.slots)
    (kk : ∀ (H : Heap) (locs : List Loc), BWd D gm ca A s.heap st' H locs → W p l e R s m args below meth c H locs (cells + rm.cells) (slots + rm.slots) Q (F0 m (pc + 3) ls rest)) : W p l e R s m args below meth c H locs cells slots Q (F0 m pc ls st0) := mm_v hM cw hx hb hml hown hts hK hB hZ hA hls hn hst hW hdg hf kk
theorem mmT {k : Nat} (hM : MM l y rm D gm ca As st (.inr k) st') (cw : CallW R s args RB RB idx y bytes maxL ret lw_g rm rm.cells rm.slots n) (hx : p.tables.exec = Jvm.exec) (hb : c.code = cc) (hml : c.maxLocals = nL) (hown : s.vm.findClass RB = some m.cls) (hts : ∀ w ∈ lw_g, w.before args s = true)
    (hK : va_K D vwCl (tysB ca) s) (hB : BWd D gm ca A s.heap st H locs) (hZ : zz A s s.heap) (hA : ∀ q, s.heap.size ≤ q → A q) (hls : ls.size = nL) (hn : As.length = n) (hst : st0 = As.reverse ++ .ref (gm 0) :: rest) (hW : 2 * (F0 m pc ls st0).monitorRoom + (rest.map fun v => v.category).sum ≤ 8)
    (hdg : decode cc pc = .ok (.invokevirtual idx, 3)) (hf : cells + rm.cells ≤ R.cells ∧ slots + rm.slots ≤ R.slots)
    (kk : ∀ (H : Heap) (locs : List Loc) (x : Addr) (t : State), t.heap = H → s.heap.size ≤ x → xx_X k t x → s.WarmedH t.vm → BWd D gm ca A s.heap st' H locs → WT p l e R s m args below meth c H locs (cells + rm.cells) (slots + rm.slots) Q (F0 m pc ls rest) x) : W p l e R s m args below meth c H locs cells slots Q (F0 m pc ls st0) := by
  refine xx_call (mm_run hM cw hx hb hml hown hts hK hB hZ hls hn hst hW hdg hf) ?_ ?_
  · intro v' s0 t L h0 hw hL hq
    obtain ⟨⟨x, hv, -⟩, -⟩ := hq
    cases hv
  · intro x s0 t L h0 hw hL hq
    obtain ⟨⟨x', hv, g1, g2⟩, hP, hD, hF⟩ := hq
    cases hv
    rw [h0] at g1
    exact kk _ _ x t rfl (Nat.le_trans hB.2.2.1 g1) g2 hw (mm_back hA hB h0 hL hP hD hF)
end BK
end
section
/-! ends of the book's methods, and how a walk becomes a contract -/
/-- a boolean that is handed on: 0 or 1 -/
def zb (v : Int32) : Option Int32 := if v = 0 ∨ v = 1 then some v else none
theorem zb_ok {v z : Int32} (h : zb v = some z) : narrow .boolean (.int v) = .int v := by
  unfold zb at h
  split at h
  · rename_i c
    rcases c with rfl | rfl <;> rfl
  · cases h
section BE
variable {p : Program} {l : Launch} {e : Env} {R : Room} {s : State} {m : MethodId} {args : Array Value} {below : List Frame} {meth : Method} {c : Code} {H : Heap} {locs : List Loc} {cells slots : Nat}
variable {cc : ByteArray} {pc nL : Nat} {ls : Array Slot} {rest : List Value} {D : va_G} {A : Nat → Prop} {gm : Nat → Nat} {ca : Nat → ClassId} {st st' : BSt} {ret : Option FieldType}
def BX (p : Program) (l : Launch) (e : Env) (R : Room) (s : State) (m : MethodId) (args : Array Value) (meth : Method) (c : Code) (D : va_G) (ca : Nat → ClassId) (A : Nat → Prop) (cc : ByteArray) (nL : Nat) (ret : Option FieldType) : Prop :=
  p.tables.exec = Jvm.exec ∧ c.code = cc ∧ c.maxLocals = nL ∧ meth.sig.returnType = ret ∧ meth.locks = false ∧ s.vm.findClass RB = some m.cls ∧ (∀ w ∈ lw_g, w.before args s = true) ∧ va_K D vwCl (tysB ca) s ∧ e.platform.stackTraces = false ∧ zz A s s.heap ∧ c.exceptionTable.isEmpty = true ∧ (∀ q, s.heap.size ≤ q → A q) ∧ l.flags = flags0
def SX (p : Program) (l : Launch) (e : Env) (R : Room) (s : State) (m : MethodId) (args : Array Value) (meth : Method) (c : Code) (D : va_G) (cA : ClassId) (cc : ByteArray) (nL : Nat) (ret : Option FieldType) : Prop :=
  p.tables.exec = Jvm.exec ∧ c.code = cc ∧ c.maxLocals = nL ∧ meth.sig.returnType = ret ∧ meth.locks = false ∧ s.vm.findClass RB = some m.cls ∧ (∀ w ∈ lw_g, w.before args s = true) ∧ va_K D vwCl [(cA, .long)] s ∧ l.flags = flags0
theorem er_i {v : Int32} (hx : p.tables.exec = Jvm.exec) (hb : c.code = cc) (hr : meth.sig.returnType = some .int) (hlk : meth.locks = false) (hdg : decode cc pc = .ok (.ireturn, 1)) :
    W p l e R s m args below meth c s.heap [] cells slots (MQX below (xx_Q (XI v)) args s cells slots (fun _ => False)) (F0 m pc ls [.int v]) :=
  W.toX (W.iret (free := fun _ => False) hx hb hr (fun t ht _ => ⟨rfl, ht⟩) (fun q h => by cases h) hdg (hlocks := hlk))
theorem er_z {v : Int32} (hx : p.tables.exec = Jvm.exec) (hb : c.code = cc) (hr : meth.sig.returnType = some .boolean) (hlk : meth.locks = false) (hn : narrow .boolean (.int v) = .int v) (hdg : decode cc pc = .ok (.ireturn, 1)) :
    W p l e R s m args below meth c s.heap [] cells slots (MQX below (xx_Q (XI v)) args s cells slots (fun _ => False)) (F0 m pc ls [.int v]) :=
  W.toX (W.zret (free := fun _ => False) hx hb hr hn (fun t ht _ => ⟨rfl, ht⟩) (fun q h => by cases h) hdg (hlocks := hlk))
theorem er_l {v : Int64} (hx : p.tables.exec = Jvm.exec) (hb : c.code = cc) (hr : meth.sig.returnType = some .long) (hlk : meth.locks = false) (hdg : decode cc pc = .ok (.lreturn, 1)) :
    W p l e R s m args below meth c s.heap [] cells slots (MQX below (xx_Q (XL v)) args s cells slots (fun _ => False)) (F0 m pc ls [.long v]) :=
  W.toX (W.lret (free := fun _ => False) hx hb hr (fun t ht _ => ⟨rfl, ht⟩) (fun q h => by cases h) hdg (hlocks := hlk))
theorem er_v (hx : p.tables.exec = Jvm.exec) (hb : c.code = cc) (hr : meth.sig.returnType = none) (hlk : meth.locks = false) (hdg : decode cc pc = .ok (.return_, 1)) :
    W p l e R s m args below meth c s.heap [] cells slots (MQX below (xx_Q XV) args s cells slots (fun _ => False)) (F0 m pc ls []) :=
  W.toX (W.vret (free := fun _ => False) hx hb hr (fun t ht _ => ⟨rfl, ht⟩) (fun q h => by cases h) hdg (hlocks := hlk))
theorem em_i {v : Int32} (hx : p.tables.exec = Jvm.exec) (hb : c.code = cc) (hr : meth.sig.returnType = some .int) (hlk : meth.locks = false) (hB : BWd D gm ca A s.heap st H locs) (hdg : decode cc pc = .ok (.ireturn, 1)) :
    W p l e R s m args below meth c H locs cells slots (MQX below (mm_Q D gm ca A (XI v) st) args s cells slots A) (F0 m pc ls [.int v]) :=
  W.toX (W.iret (free := A) hx hb hr (fun t ht _ => ⟨rfl, by rw [ht]; exact hB.1, hB.2.1, hB.2.2.F ht⟩) hB.2.2.2.2 hdg (hlocks := hlk))
theorem em_z {v : Int32} (hx : p.tables.exec = Jvm.exec) (hb : c.code = cc) (hr : meth.sig.returnType = some .boolean) (hlk : meth.locks = false) (hB : BWd D gm ca A s.heap st H locs) (hn : narrow .boolean (.int v) = .int v) (hdg : decode cc pc = .ok (.ireturn, 1)) :
    W p l e R s m args below meth c H locs cells slots (MQX below (mm_Q D gm ca A (XI v) st) args s cells slots A) (F0 m pc ls [.int v]) :=
  W.toX (W.zret (free := A) hx hb hr hn (fun t ht _ => ⟨rfl, by rw [ht]; exact hB.1, hB.2.1, hB.2.2.F ht⟩) hB.2.2.2.2 hdg (hlocks := hlk))
theorem em_v (hx : p.tables.exec = Jvm.exec) (hb : c.code = cc) (hr : meth.sig.returnType = none) (hlk : meth.locks = false) (hB : BWd D gm ca A s.heap st H locs) (hdg : decode cc pc = .ok (.return_, 1)) :
    W p l e R s m args below meth c H locs cells slots (MQX below (mm_Q D gm ca A XV st) args s cells slots A) (F0 m pc ls []) :=
  W.toX (W.vret (free := A) hx hb hr (fun t ht _ => ⟨rfl, by rw [ht]; exact hB.1, hB.2.1, hB.2.2.F ht⟩) hB.2.2.2.2 hdg (hlocks := hlk))
theorem noH (h : c.exceptionTable.isEmpty = true) (pc : Nat) : ∀ x ∈ c.exceptionTable.toList, covers x pc = false := by
  have h0 : c.exceptionTable.toList = [] := by simpa using h
  intro x hx
  rw [h0] at hx
  cases hx
/-- the words of a throw: every one of them is a word of the tables, or speaks of the two statics -/
def zz_words : List Cond := [.laysStatic "java/lang/Throwable" "UNASSIGNED_STACK" "[Ljava/lang/StackTraceElement;", .laysStatic "java/lang/Throwable" "SUPPRESSED_SENTINEL" "Ljava/util/List;", .isRef (.static "java/lang/Throwable" "UNASSIGNED_STACK" "[Ljava/lang/StackTraceElement;"), .isRef (.static "java/lang/Throwable" "SUPPRESSED_SENTINEL" "Ljava/util/List;")]
def bt_words (k i1 i2 i3 : Nat) (tx : String) : Prop := (∀ w ∈ Bundle.ownAtoms RB i3 (xx_nm k) ["java/lang/RuntimeException", "java/lang/Exception"], w ∈ lw_g ∨ w ∈ zz_words)
  ∧ Cond.classLink RB i1 (xx_nm k) ∈ lw_g ∧ Cond.initialized (xx_nm k) ∈ lw_g ∧ Cond.stringRef RB i2 tx ∈ lw_g
theorem bt_atoms {k i1 i2 i3 : Nat} {tx : String} (hw : bt_words k i1 i2 i3 tx) (hts : ∀ w ∈ lw_g, w.before args s = true) (hZ : zz A s s.heap) : ∀ w ∈ Bundle.ownAtoms RB i3 (xx_nm k) ["java/lang/RuntimeException", "java/lang/Exception"], w.before args s = true := by
  intro w h
  rcases hw.1 w h with h | h
  · exact hts w h
  · simp only [zz_words, List.mem_cons, List.not_mem_nil, or_false] at h
    rcases h with rfl | rfl | rfl | rfl
    · exact hZ.1.lays
    · exact hZ.2.lays
    · exact hZ.1.isRef
    · exact hZ.2.isRef
theorem fit_nm (k : Nat) : Bundle.fit (xx_nm k) = true := by
  match k with
  | 0 => decide +kernel
  | 1 => decide +kernel
  | _ + 2 => exact (by decide +kernel : Bundle.fit "java/lang/IndexOutOfBoundsException" = true)
theorem fit_up : ∀ n ∈ ["java/lang/RuntimeException", "java/lang/Exception"], Bundle.fit n = true := by decide +kernel
theorem rt_throw {k i1 i2 i3 : Nat} {tx : String} (hw : bt_words k i1 i2 i3 tx) (hX : BX p l e R s m args meth c D ca A cc nL ret) (hls : ls.size = nL)
    (d0 : decode cc pc = .ok (.new i1, 3)) (d1 : decode cc (pc + 3) = .ok (.dup, 1)) (d2 : decode cc (pc + 3 + 1) = .ok (.ldc i2, 2)) (d3 : decode cc (pc + 3 + 1 + 2) = .ok (.invokespecial i3, 3)) (d4 : decode cc (pc + 3 + 1 + 2 + 3) = .ok (.athrow, 1))
    (hc : cells + 1 ≤ R.cells ∧ slots + 6 ≤ R.slots) (hR : 5 < R.frames ∧ 82 ≤ R.locals) :
    W p l e R s m args below meth c s.heap [] cells slots (MQX below (xx_Q (.inr k)) args s (cells + 1) (slots + 6) (fun _ => False)) (F0 m pc ls []) := by
  obtain ⟨hx, hb, hml, hr, hlk, hown, hts, hK, htr, hZ, hnh, hA, hfl⟩ := hX
  refine xx_thrownew hx hb hml htr hown hlk (fit_nm k) fit_up (bt_atoms hw hts hZ) (hts _ hw.2.1) (hts _ hw.2.2.1) (hts _ hw.2.2.2) (noH hnh _) hls hc.1 hc.2 (by show 2 + 3 < _; omega) (by show 1 + 0 + (13 * (2 + 1) + 42) ≤ _; omega) d0 d1 d2 d3 d4 ?_
  intro x t h1 h2 h3 h4 h5
  obtain ⟨ce, g1, g2, g3⟩ := h5
  exact ⟨x, rfl, h1, h2, h3, ce, g1, g2, by rw [h4.alike.findClass]; exact g3⟩
/-- the same of a method that may write, before it has written -/
theorem mt_throw {k i1 i2 i3 : Nat} {tx : String} (hw : bt_words k i1 i2 i3 tx) (hX : BX p l e R s m args meth c D ca A cc nL ret) (hls : ls.size = nL)
    (d0 : decode cc pc = .ok (.new i1, 3)) (d1 : decode cc (pc + 3) = .ok (.dup, 1)) (d2 : decode cc (pc + 3 + 1) = .ok (.ldc i2, 2)) (d3 : decode cc (pc + 3 + 1 + 2) = .ok (.invokespecial i3, 3)) (d4 : decode cc (pc + 3 + 1 + 2 + 3) = .ok (.athrow, 1))
    (hc : cells + 1 ≤ R.cells ∧ slots + 6 ≤ R.slots) (hR : 5 < R.frames ∧ 82 ≤ R.locals) (hB : BWd D gm ca A s.heap st s.heap []) :
    W p l e R s m args below meth c s.heap [] cells slots (MQX below (mm_Q D gm ca A (.inr k) st) args s (cells + 1) (slots + 6) A) (F0 m pc ls []) := by
  obtain ⟨hx, hb, hml, hr, hlk, hown, hts, hK, htr, hZ, hnh, hA, hfl⟩ := hX
  refine xx_thrownew hx hb hml htr hown hlk (fit_nm k) fit_up (bt_atoms hw hts hZ) (hts _ hw.2.1) (hts _ hw.2.2.1) (hts _ hw.2.2.2) (noH hnh _) hls hc.1 hc.2 (by show 2 + 3 < _; omega) (by show 1 + 0 + (13 * (2 + 1) + 42) ≤ _; omega) d0 d1 d2 d3 d4 ?_
  intro x t h1 h2 h3 h4 h5
  obtain ⟨ce, g1, g2, g3⟩ := h5
  refine ⟨⟨x, rfl, h1, ce, g1, g2, by rw [h4.alike.findClass]; exact g3⟩, hB.1.kept (fun k q hk => h3 _ ((hB.1 k q hk).lt)), hB.2.1, h2, fun q hq _ => h3 q hq⟩
/-- an exception of a callee goes through a reader -/
theorem rt_out {k : Nat} {x : Addr} {t : State} (hX : BX p l e R s m args meth c D ca A cc nL ret) (h1 : s.heap.size ≤ x) (h2 : s.heap.size ≤ t.heap.size) (h3 : ∀ q, q < s.heap.size → t.heap[q]? = s.heap[q]?) (h4 : s.WarmedH t.vm) (h5 : xx_X k t x) :
    WT p l e R s m args below meth c t.heap [] cells slots (MQX below (xx_Q (.inr k)) args s cells slots (fun _ => False)) (F0 m pc ls rest) x := by
  obtain ⟨hx, hb, hml, hr, hlk, hown, hts, hK, htr, hZ, hnh, hA, hfl⟩ := hX
  refine WT.out (noH hnh pc) hlk (fun u hu hw => ?_) (fun q h => by cases h)
  obtain ⟨ce, g1, g2, g3⟩ := h5
  exact ⟨x, rfl, h1, by rw [hu]; exact h2, by rw [hu]; exact h3, ce, by rw [hu]; exact g1, g2, by rw [hw.alike.findClass, ← h4.alike.findClass]; exact g3⟩
/-- .. through a method that may write, out of a reader -/
theorem mt_outR {k : Nat} {x : Addr} {t : State} (hX : BX p l e R s m args meth c D ca A cc nL ret) (hB : BWd D gm ca A s.heap st H locs) (h1 : H.size ≤ x) (h2 : H.size ≤ t.heap.size) (h3 : ∀ q, q < H.size → t.heap[q]? = H[q]?) (h4 : s.WarmedH t.vm) (h5 : xx_X k t x) :
    WT p l e R s m args below meth c t.heap locs cells slots (MQX below (mm_Q D gm ca A (.inr k) st) args s cells slots A) (F0 m pc ls rest) x := by
  obtain ⟨hx, hb, hml, hr, hlk, hown, hts, hK, htr, hZ, hnh, hA, hfl⟩ := hX
  refine WT.out (noH hnh pc) hlk (fun u hu hw => ?_) hB.2.2.2.2
  obtain ⟨ce, g1, g2, g3⟩ := h5
  refine ⟨⟨x, rfl, Nat.le_trans hB.2.2.1 h1, ce, by rw [hu]; exact g1, g2, by rw [hw.alike.findClass, ← h4.alike.findClass]; exact g3⟩, ?_, hB.2.1, ?_, ?_⟩
  · rw [hu]; exact hB.1.kept (fun k q hk => h3 _ ((hB.1 k q hk).lt))
  · rw [hu]; exact Nat.le_trans hB.2.2.1 h2
  · intro q hq hn; rw [hu, h3 q (Nat.lt_of_lt_of_le hq hB.2.2.1)]; exact hB.2.2.2.1 q hq hn
/-- .. out of a writer -/
theorem mt_outM {k : Nat} {x : Addr} {t : State} (hX : BX p l e R s m args meth c D ca A cc nL ret) (ht : t.heap = H) (h1 : s.heap.size ≤ x) (h5 : xx_X k t x) (h4 : s.WarmedH t.vm) (hB : BWd D gm ca A s.heap st H locs) :
    WT p l e R s m args below meth c H locs cells slots (MQX below (mm_Q D gm ca A (.inr k) st) args s cells slots A) (F0 m pc ls rest) x := by
  obtain ⟨hx, hb, hml, hr, hlk, hown, hts, hK, htr, hZ, hnh, hA, hfl⟩ := hX
  refine WT.out (noH hnh pc) hlk (fun u hu hw => ?_) hB.2.2.2.2
  obtain ⟨ce, g1, g2, g3⟩ := h5
  exact ⟨⟨x, rfl, h1, ce, by rw [hu, ← ht]; exact g1, g2, by rw [hw.alike.findClass, ← h4.alike.findClass]; exact g3⟩, by rw [hu]; exact hB.1, hB.2.1, hB.2.2.F hu⟩
end BE
section BO
variable {l : Launch} {y : MethodName} {rm : Room} {D : va_G} {gm : Nat → Nat} {ca : Nat → ClassId} {st st' : BSt} {cc : ByteArray} {nL : Nat} {ret : Option FieldType} {As : List Value} {r : XR}
/-- the locals at the entry -/
abbrev ent (vs : List Value) (n : Nat) : Array Slot := (lg_sl vs ++ List.replicate (n - (lg_sl vs).length) Slot.unset).toArray
theorem zz.self {s : State} (h : zz (fun _ => False) s s.heap) : zz (va_A [] s.heap.size) s s.heap := zz.world (D := (fun _ => 0, fun _ _ => 0)) (cl := []) (fun k q h => by simp at h) h
theorem RM.of (hfl : l.flags = flags0) (hy : plainFor y = true) (hc : y.cls = RB) (hw : Cond.code y cc nL ret ∈ lw_g)
    (body : ∀ (p : Program) (e : Env) (s : State) (m : MethodId) (below : List Frame) (meth : Method) (c : Code), BX p l e rm s m (Value.ref (gm 0) :: As).toArray meth c D ca (va_A [] s.heap.size) cc nL ret → va_P D vwCl (wB gm ca st) s.heap →
      W p l e rm s m (Value.ref (gm 0) :: As).toArray below meth c s.heap [] 0 0 (MQX below (xx_Q r) (Value.ref (gm 0) :: As).toArray s rm.cells rm.slots (fun _ => False)) (F0 m 0 (ent (.ref (gm 0) :: As) nL) [])) : RM l y rm D gm ca As st r := by
  refine MetX.ofW hy hw ?_
  intro p e s m args below meth c s₁ B hml hv
  obtain ⟨rfl, hP, hK, hZ⟩ := hv
  rw [lg_entry_eq]
  exact body p e s m below meth c ⟨B.exec, B.bytes, hml, B.returns, B.notSynchronized, by rw [← hc]; exact findClass_of_methodNamed B.named, atoms_spec (ws := lw_g) B.pre, hK, Launch.traces_off hfl B.admits, hZ.self, B.noHandlers (atoms_spec (ws := lw_g) B.pre _ hw), fun q h => Or.inr h, hfl⟩ hP
theorem MM.of (hfl : l.flags = flags0) (hy : plainFor y = true) (hc : y.cls = RB) (hw : Cond.code y cc nL ret ∈ lw_g)
    (body : ∀ (p : Program) (e : Env) (s : State) (m : MethodId) (below : List Frame) (meth : Method) (c : Code) (A : Nat → Prop), A = va_A (wB gm ca st) s.heap.size → BX p l e rm s m (Value.ref (gm 0) :: As).toArray meth c D ca A cc nL ret → BWd D gm ca A s.heap st s.heap [] →
      W p l e rm s m (Value.ref (gm 0) :: As).toArray below meth c s.heap [] 0 0 (MQX below (mm_Q D gm ca A r st') (Value.ref (gm 0) :: As).toArray s rm.cells rm.slots A) (F0 m 0 (ent (.ref (gm 0) :: As) nL) [])) : MM l y rm D gm ca As st r st' := by
  intro sz
  refine MetX.ofW hy hw ?_
  intro p e s m args below meth c s₁ B hml hv
  obtain ⟨rfl, rfl, ⟨hP, hK, hZ⟩, hD⟩ := hv
  rw [lg_entry_eq]
  exact body p e s m below meth c _ rfl ⟨B.exec, B.bytes, hml, B.returns, B.notSynchronized, by rw [← hc]; exact findClass_of_methodNamed B.named, atoms_spec (ws := lw_g) B.pre, hK, Launch.traces_off hfl B.admits, hZ.world hP, B.noHandlers (atoms_spec (ws := lw_g) B.pre _ hw), fun q h => Or.inr h, hfl⟩ ⟨hP, hD.self, va_S.rf⟩
theorem SM.of {own : String} (hfl : l.flags = flags0) (hy : plainFor y = true) (hc : y.cls = own) (hw : Cond.code y cc nL ret ∈ lw_g)
    (body : ∀ (p : Program) (e : Env) (s : State) (m : MethodId) (below : List Frame) (meth : Method) (c : Code), p.tables.exec = Jvm.exec → c.code = cc → c.maxLocals = nL → meth.sig.returnType = ret → meth.locks = false → s.vm.findClass own = some m.cls → (∀ w ∈ lw_g, w.before As.toArray s = true) →
      W p l e rm s m As.toArray below meth c s.heap [] 0 0 (MQX below (xx_Q r) As.toArray s rm.cells rm.slots (fun _ => False)) (F0 m 0 (ent As nL) [])) : SM l y rm As r := by
  refine MetX.ofW hy hw ?_
  intro p e s m args below meth c s₁ B hml hv
  obtain ⟨rfl, -⟩ := hv
  rw [lg_entry_eq]
  exact body p e s m below meth c B.exec B.bytes hml B.returns B.notSynchronized (by rw [← hc]; exact findClass_of_methodNamed B.named) (atoms_spec (ws := lw_g) B.pre)
theorem SA.of {a : Nat} {cA : ClassId} {f0 : Nat → Int64} {k0 : Nat} (hfl : l.flags = flags0) (hy : plainFor y = true) (hc : y.cls = RB) (hw : Cond.code y cc nL ret ∈ lw_g)
    (body : ∀ (p : Program) (e : Env) (s : State) (m : MethodId) (below : List Frame) (meth : Method) (c : Code), SX p l e rm s m (Value.ref a :: As).toArray meth c D cA cc nL ret → va_P D vwCl [(a, .inl (cA, k0, .inr (.inl f0)))] s.heap →
      W p l e rm s m (Value.ref a :: As).toArray below meth c s.heap [] 0 0 (MQX below (xx_Q r) (Value.ref a :: As).toArray s rm.cells rm.slots (fun _ => False)) (F0 m 0 (ent (.ref a :: As) nL) [])) : SA l y rm D a cA f0 k0 As r := by
  refine MetX.ofW hy hw ?_
  intro p e s m args below meth c s₁ B hml hv
  obtain ⟨rfl, hP, hK⟩ := hv
  rw [lg_entry_eq]
  exact body p e s m below meth c ⟨B.exec, B.bytes, hml, B.returns, B.notSynchronized, by rw [← hc]; exact findClass_of_methodNamed B.named, atoms_spec (ws := lw_g) B.pre, hK, hfl⟩ hP
end BO
end
section
abbrev rmb_clearRoot : Room := { frames := 0, cells := 0, slots := 0, locals := 0 }
abbrev rmb_sumOf : Room := { frames := 0, cells := 0, slots := 0, locals := 0 }
abbrev rmb_makeRootZeroAnew : Room := { frames := 1, cells := 0, slots := 0, locals := 27 }
abbrev rmb_requireOpen : Room := { frames := 6, cells := 1, slots := 6, locals := 82 }
abbrev rmb_rootOf : Room := { frames := 1, cells := 0, slots := 0, locals := 22 }
abbrev rmb_hasRootSum : Room := { frames := 1, cells := 0, slots := 0, locals := 27 }
abbrev rmb_isSound : Room := { frames := 0, cells := 0, slots := 0, locals := 0 }
abbrev rmb_leavesOf : Room := { frames := 0, cells := 0, slots := 0, locals := 0 }
abbrev rmb_pageOf : Room := { frames := 0, cells := 0, slots := 0, locals := 0 }
abbrev rmb_isRightPage : Room := { frames := 1, cells := 0, slots := 0, locals := 27 }
abbrev rmb_entriesOf : Room := { frames := 0, cells := 0, slots := 0, locals := 0 }
abbrev rmb_entryAt : Room := { frames := 0, cells := 0, slots := 0, locals := 0 }
abbrev rmb_firstKey : Room := { frames := 1, cells := 0, slots := 0, locals := 21 }
abbrev rmb_lastKey : Room := { frames := 1, cells := 0, slots := 0, locals := 21 }
abbrev rmb_hasRightLeaves : Room := { frames := 2, cells := 0, slots := 0, locals := 56 }
abbrev rmb_isRightRoot : Room := { frames := 3, cells := 0, slots := 0, locals := 84 }
abbrev rmb_isKept : Room := { frames := 4, cells := 0, slots := 0, locals := 105 }
abbrev rmb_requireWritable : Room := { frames := 7, cells := 2, slots := 12, locals := 127 }
abbrev rmb_requireKey : Room := { frames := 6, cells := 1, slots := 6, locals := 82 }
abbrev rmb_leafFor : Room := { frames := 2, cells := 0, slots := 0, locals := 42 }
abbrev rmb_loadDraft : Room := { frames := 1, cells := 0, slots := 0, locals := 22 }
abbrev rmb_placeInDraft : Room := { frames := 0, cells := 0, slots := 0, locals := 0 }
abbrev rmb_draftHasAt : Room := { frames := 0, cells := 0, slots := 0, locals := 0 }
abbrev rmb_putInDraft : Room := { frames := 1, cells := 0, slots := 0, locals := 22 }
abbrev rmb_pagesOf : Room := { frames := 1, cells := 0, slots := 0, locals := 22 }
abbrev rmb_heldPages : Room := { frames := 2, cells := 0, slots := 0, locals := 47 }
abbrev rmb_isIn : Room := { frames := 0, cells := 0, slots := 0, locals := 0 }
abbrev rmb_pageNotIn : Room := { frames := 1, cells := 0, slots := 0, locals := 22 }
abbrev rmb_saveWordsBefore : Room := { frames := 1, cells := 0, slots := 0, locals := 54 }
abbrev rmb_writeLeaf : Room := { frames := 1, cells := 0, slots := 0, locals := 27 }
abbrev rmb_writeLeaves : Room := { frames := 2, cells := 0, slots := 0, locals := 52 }
abbrev rmb_entriesOfRoot : Room := { frames := 0, cells := 0, slots := 0, locals := 0 }
abbrev rmb_writeRoot : Room := { frames := 1, cells := 0, slots := 0, locals := 27 }
abbrev rmb_act : Room := { frames := 6, cells := 1, slots := 6, locals := 82 }
abbrev rmb_put : Room := { frames := 8, cells := 4, slots := 24, locals := 147 }
abbrev rmb_dropFromDraft : Room := { frames := 1, cells := 0, slots := 0, locals := 22 }
abbrev rmb_drop : Room := { frames := 8, cells := 4, slots := 24, locals := 147 }
abbrev rmb_version : Room := { frames := 7, cells := 1, slots := 6, locals := 102 }
abbrev rmb_requireKept : Room := { frames := 6, cells := 1, slots := 6, locals := 127 }
abbrev rmb_entryWithKey : Room := { frames := 3, cells := 0, slots := 0, locals := 67 }
abbrev rmb_has : Room := { frames := 7, cells := 2, slots := 12, locals := 148 }
abbrev rmb_find : Room := { frames := 7, cells := 2, slots := 12, locals := 148 }
abbrev rmb_count : Room := { frames := 7, cells := 3, slots := 18, locals := 148 }
abbrev rmb_entryByNumber : Room := { frames := 1, cells := 0, slots := 0, locals := 22 }
abbrev rmb_key : Room := { frames := 7, cells := 3, slots := 18, locals := 148 }
abbrev rmb_haveSameEntries : Room := { frames := 2, cells := 0, slots := 0, locals := 49 }
abbrev rmb_same : Room := { frames := 7, cells := 3, slots := 18, locals := 148 }
abbrev rmb_free : Room := { frames := 7, cells := 1, slots := 6, locals := 102 }
abbrev rmb_writtenWords : Room := { frames := 0, cells := 0, slots := 0, locals := 0 }
abbrev rmb_restoreFrom : Room := { frames := 1, cells := 0, slots := 0, locals := 20 }
abbrev rmb_crash : Room := { frames := 7, cells := 2, slots := 12, locals := 102 }
abbrev rmb_greatestWhole : Room := { frames := 4, cells := 0, slots := 0, locals := 105 }
abbrev rmb_reopen : Room := { frames := 5, cells := 0, slots := 0, locals := 131 }
abbrev rmb_requirePageWord : Room := { frames := 6, cells := 1, slots := 6, locals := 82 }
abbrev rmb_wordAt : Room := { frames := 7, cells := 1, slots := 6, locals := 104 }
abbrev rmb_requireRootWord : Room := { frames := 6, cells := 1, slots := 6, locals := 82 }
abbrev rmb_rootAt : Room := { frames := 7, cells := 1, slots := 6, locals := 104 }
abbrev rmb_requireMask : Room := { frames := 6, cells := 1, slots := 6, locals := 82 }
abbrev rmb_poke : Room := { frames := 7, cells := 2, slots := 12, locals := 104 }
abbrev rmb_pokeRoot : Room := { frames := 7, cells := 2, slots := 12, locals := 104 }
abbrev rmb_isBlankRoot : Room := { frames := 0, cells := 0, slots := 0, locals := 0 }
abbrev rmb_badAt : Room := { frames := 3, cells := 0, slots := 0, locals := 70 }
abbrev rmj_floorMod : Room := { frames := 0, cells := 0, slots := 0, locals := 0 }
abbrev rmj_max : Room := { frames := 0, cells := 0, slots := 0, locals := 0 }
abbrev rmj_min : Room := { frames := 0, cells := 0, slots := 0, locals := 0 }
abbrev rmj_bitCount : Room := { frames := 0, cells := 0, slots := 0, locals := 0 }
theorem cw_clearRoot {R : Room} {s : State} {args : Array Value} (hts : ∀ w ∈ lw_g, w.before args s = true) {rm : Room} (hR : rm.frames + 1 ≤ R.frames ∧ 8 + (4 + 11) + rm.locals ≤ R.locals) : CallW R s args RB RB 269 yb_clearRoot kb_clearRoot 4 (none) lw_g rm rm.cells rm.slots 1 := ⟨callB_x hts mcb_clearRoot 1 (List.mem_filter.mpr ⟨List.mem_append_right _ (List.mem_of_getElem? (i := 1) (by decide +kernel)), rfl⟩) (List.mem_filter.mpr ⟨List.mem_append_right _ (List.mem_of_getElem? (i := 30) (by decide +kernel)), rfl⟩) (by decide +kernel) hR, hts _ (List.mem_filter.mpr ⟨List.mem_append_right _ (List.mem_of_getElem? (i := 32) (by decide +kernel)), rfl⟩), hts _ (List.mem_filter.mpr ⟨List.mem_append_left _ (List.mem_of_getElem? (i := 1) (by decide +kernel)), rfl⟩)⟩
theorem cw_sumOf {R : Room} {s : State} {args : Array Value} (hts : ∀ w ∈ lw_g, w.before args s = true) {rm : Room} (hR : rm.frames + 1 ≤ R.frames ∧ 8 + (8 + 11) + rm.locals ≤ R.locals) : CallB R s args RB 194 yb_sumOf kb_sumOf 8 (some .long) lw_g rm rm.cells rm.slots 3 ∧ (Cond.static yb_sumOf).before args s = true := ⟨callB_x hts mcb_sumOf 3 (List.mem_filter.mpr ⟨List.mem_append_right _ (List.mem_of_getElem? (i := 1) (by decide +kernel)), rfl⟩) (List.mem_filter.mpr ⟨List.mem_append_right _ (List.mem_of_getElem? (i := 34) (by decide +kernel)), rfl⟩) (by decide +kernel) hR, hts _ (List.mem_filter.mpr ⟨List.mem_append_right _ (List.mem_of_getElem? (i := 35) (by decide +kernel)), rfl⟩)⟩
theorem cw_makeRootZeroAnew {R : Room} {s : State} {args : Array Value} (hts : ∀ w ∈ lw_g, w.before args s = true) {rm : Room} (hR : rm.frames + 1 ≤ R.frames ∧ 8 + (1 + 11) + rm.locals ≤ R.locals) : CallW R s args RB RB 42 yb_makeRootZeroAnew kb_makeRootZeroAnew 1 (none) lw_g rm rm.cells rm.slots 0 := ⟨callB_x hts mcb_makeRootZeroAnew 0 (List.mem_filter.mpr ⟨List.mem_append_right _ (List.mem_of_getElem? (i := 1) (by decide +kernel)), rfl⟩) (List.mem_filter.mpr ⟨List.mem_append_right _ (List.mem_of_getElem? (i := 26) (by decide +kernel)), rfl⟩) (by decide +kernel) hR, hts _ (List.mem_filter.mpr ⟨List.mem_append_right _ (List.mem_of_getElem? (i := 28) (by decide +kernel)), rfl⟩), hts _ (List.mem_filter.mpr ⟨List.mem_append_left _ (List.mem_of_getElem? (i := 0) (by decide +kernel)), rfl⟩)⟩
theorem cw_requireOpen {R : Room} {s : State} {args : Array Value} (hts : ∀ w ∈ lw_g, w.before args s = true) {rm : Room} (hR : rm.frames + 1 ≤ R.frames ∧ 8 + (1 + 11) + rm.locals ≤ R.locals) : CallW R s args RB RB 77 yb_requireOpen kb_requireOpen 1 (none) lw_g rm rm.cells rm.slots 0 := ⟨callB_x hts mcb_requireOpen 0 (List.mem_filter.mpr ⟨List.mem_append_right _ (List.mem_of_getElem? (i := 1) (by decide +kernel)), rfl⟩) (List.mem_filter.mpr ⟨List.mem_append_right _ (List.mem_of_getElem? (i := 177) (by decide +kernel)), rfl⟩) (by decide +kernel) hR, hts _ (List.mem_filter.mpr ⟨List.mem_append_right _ (List.mem_of_getElem? (i := 179) (by decide +kernel)), rfl⟩), hts _ (List.mem_filter.mpr ⟨List.mem_append_left _ (List.mem_of_getElem? (i := 17) (by decide +kernel)), rfl⟩)⟩
theorem cw_rootOf {R : Room} {s : State} {args : Array Value} (hts : ∀ w ∈ lw_g, w.before args s = true) {rm : Room} (hR : rm.frames + 1 ≤ R.frames ∧ 8 + (1 + 11) + rm.locals ≤ R.locals) : CallB R s args RB 55 yb_rootOf kb_rootOf 1 (some .int) lw_g rm rm.cells rm.slots 1 ∧ (Cond.static yb_rootOf).before args s = true := ⟨callB_x hts mcb_rootOf 1 (List.mem_filter.mpr ⟨List.mem_append_right _ (List.mem_of_getElem? (i := 1) (by decide +kernel)), rfl⟩) (List.mem_filter.mpr ⟨List.mem_append_right _ (List.mem_of_getElem? (i := 90) (by decide +kernel)), rfl⟩) (by decide +kernel) hR, hts _ (List.mem_filter.mpr ⟨List.mem_append_right _ (List.mem_of_getElem? (i := 91) (by decide +kernel)), rfl⟩)⟩
theorem cw_hasRootSum {R : Room} {s : State} {args : Array Value} (hts : ∀ w ∈ lw_g, w.before args s = true) {rm : Room} (hR : rm.frames + 1 ≤ R.frames ∧ 8 + (3 + 11) + rm.locals ≤ R.locals) : CallW R s args RB RB 165 yb_hasRootSum kb_hasRootSum 3 (some .boolean) lw_g rm rm.cells rm.slots 1 := ⟨callB_x hts mcb_hasRootSum 1 (List.mem_filter.mpr ⟨List.mem_append_right _ (List.mem_of_getElem? (i := 1) (by decide +kernel)), rfl⟩) (List.mem_filter.mpr ⟨List.mem_append_right _ (List.mem_of_getElem? (i := 100) (by decide +kernel)), rfl⟩) (by decide +kernel) hR, hts _ (List.mem_filter.mpr ⟨List.mem_append_right _ (List.mem_of_getElem? (i := 102) (by decide +kernel)), rfl⟩), hts _ (List.mem_filter.mpr ⟨List.mem_append_left _ (List.mem_of_getElem? (i := 4) (by decide +kernel)), rfl⟩)⟩
theorem cw_isSound {R : Room} {s : State} {args : Array Value} (hts : ∀ w ∈ lw_g, w.before args s = true) {rm : Room} (hR : rm.frames + 1 ≤ R.frames ∧ 8 + (8 + 11) + rm.locals ≤ R.locals) : CallW R s args RB RB 200 yb_isSound kb_isSound 8 (some .boolean) lw_g rm rm.cells rm.slots 1 := ⟨callB_x hts mcb_isSound 1 (List.mem_filter.mpr ⟨List.mem_append_right _ (List.mem_of_getElem? (i := 1) (by decide +kernel)), rfl⟩) (List.mem_filter.mpr ⟨List.mem_append_right _ (List.mem_of_getElem? (i := 104) (by decide +kernel)), rfl⟩) (by decide +kernel) hR, hts _ (List.mem_filter.mpr ⟨List.mem_append_right _ (List.mem_of_getElem? (i := 106) (by decide +kernel)), rfl⟩), hts _ (List.mem_filter.mpr ⟨List.mem_append_left _ (List.mem_of_getElem? (i := 5) (by decide +kernel)), rfl⟩)⟩
theorem cw_leavesOf {R : Room} {s : State} {args : Array Value} (hts : ∀ w ∈ lw_g, w.before args s = true) {rm : Room} (hR : rm.frames + 1 ≤ R.frames ∧ 8 + (2 + 11) + rm.locals ≤ R.locals) : CallW R s args RB RB 96 yb_leavesOf kb_leavesOf 2 (some .int) lw_g rm rm.cells rm.slots 1 := ⟨callB_x hts mcb_leavesOf 1 (List.mem_filter.mpr ⟨List.mem_append_right _ (List.mem_of_getElem? (i := 1) (by decide +kernel)), rfl⟩) (List.mem_filter.mpr ⟨List.mem_append_right _ (List.mem_of_getElem? (i := 113) (by decide +kernel)), rfl⟩) (by decide +kernel) hR, hts _ (List.mem_filter.mpr ⟨List.mem_append_right _ (List.mem_of_getElem? (i := 115) (by decide +kernel)), rfl⟩), hts _ (List.mem_filter.mpr ⟨List.mem_append_left _ (List.mem_of_getElem? (i := 7) (by decide +kernel)), rfl⟩)⟩
theorem cw_pageOf {R : Room} {s : State} {args : Array Value} (hts : ∀ w ∈ lw_g, w.before args s = true) {rm : Room} (hR : rm.frames + 1 ≤ R.frames ∧ 8 + (3 + 11) + rm.locals ≤ R.locals) : CallW R s args RB RB 206 yb_pageOf kb_pageOf 3 (some .int) lw_g rm rm.cells rm.slots 2 := ⟨callB_x hts mcb_pageOf 2 (List.mem_filter.mpr ⟨List.mem_append_right _ (List.mem_of_getElem? (i := 1) (by decide +kernel)), rfl⟩) (List.mem_filter.mpr ⟨List.mem_append_right _ (List.mem_of_getElem? (i := 117) (by decide +kernel)), rfl⟩) (by decide +kernel) hR, hts _ (List.mem_filter.mpr ⟨List.mem_append_right _ (List.mem_of_getElem? (i := 119) (by decide +kernel)), rfl⟩), hts _ (List.mem_filter.mpr ⟨List.mem_append_left _ (List.mem_of_getElem? (i := 8) (by decide +kernel)), rfl⟩)⟩
theorem cw_isRightPage {R : Room} {s : State} {args : Array Value} (hts : ∀ w ∈ lw_g, w.before args s = true) {rm : Room} (hR : rm.frames + 1 ≤ R.frames ∧ 8 + (10 + 11) + rm.locals ≤ R.locals) : CallW R s args RB RB 159 yb_isRightPage kb_isRightPage 10 (some .boolean) lw_g rm rm.cells rm.slots 1 := ⟨callB_x hts mcb_isRightPage 1 (List.mem_filter.mpr ⟨List.mem_append_right _ (List.mem_of_getElem? (i := 1) (by decide +kernel)), rfl⟩) (List.mem_filter.mpr ⟨List.mem_append_right _ (List.mem_of_getElem? (i := 121) (by decide +kernel)), rfl⟩) (by decide +kernel) hR, hts _ (List.mem_filter.mpr ⟨List.mem_append_right _ (List.mem_of_getElem? (i := 123) (by decide +kernel)), rfl⟩), hts _ (List.mem_filter.mpr ⟨List.mem_append_left _ (List.mem_of_getElem? (i := 9) (by decide +kernel)), rfl⟩)⟩
theorem cw_entriesOf {R : Room} {s : State} {args : Array Value} (hts : ∀ w ∈ lw_g, w.before args s = true) {rm : Room} (hR : rm.frames + 1 ≤ R.frames ∧ 8 + (2 + 11) + rm.locals ≤ R.locals) : CallW R s args RB RB 209 yb_entriesOf kb_entriesOf 2 (some .int) lw_g rm rm.cells rm.slots 1 := ⟨callB_x hts mcb_entriesOf 1 (List.mem_filter.mpr ⟨List.mem_append_right _ (List.mem_of_getElem? (i := 1) (by decide +kernel)), rfl⟩) (List.mem_filter.mpr ⟨List.mem_append_right _ (List.mem_of_getElem? (i := 127) (by decide +kernel)), rfl⟩) (by decide +kernel) hR, hts _ (List.mem_filter.mpr ⟨List.mem_append_right _ (List.mem_of_getElem? (i := 129) (by decide +kernel)), rfl⟩), hts _ (List.mem_filter.mpr ⟨List.mem_append_left _ (List.mem_of_getElem? (i := 10) (by decide +kernel)), rfl⟩)⟩
theorem cw_entryAt {R : Room} {s : State} {args : Array Value} (hts : ∀ w ∈ lw_g, w.before args s = true) {rm : Room} (hR : rm.frames + 1 ≤ R.frames ∧ 8 + (2 + 11) + rm.locals ≤ R.locals) : CallB R s args RB 230 yb_entryAt kb_entryAt 2 (some .int) lw_g rm rm.cells rm.slots 2 ∧ (Cond.static yb_entryAt).before args s = true := ⟨callB_x hts mcb_entryAt 2 (List.mem_filter.mpr ⟨List.mem_append_right _ (List.mem_of_getElem? (i := 1) (by decide +kernel)), rfl⟩) (List.mem_filter.mpr ⟨List.mem_append_right _ (List.mem_of_getElem? (i := 135) (by decide +kernel)), rfl⟩) (by decide +kernel) hR, hts _ (List.mem_filter.mpr ⟨List.mem_append_right _ (List.mem_of_getElem? (i := 136) (by decide +kernel)), rfl⟩)⟩
theorem cw_firstKey {R : Room} {s : State} {args : Array Value} (hts : ∀ w ∈ lw_g, w.before args s = true) {rm : Room} (hR : rm.frames + 1 ≤ R.frames ∧ 8 + (2 + 11) + rm.locals ≤ R.locals) : CallW R s args RB RB 212 yb_firstKey kb_firstKey 2 (some .long) lw_g rm rm.cells rm.slots 1 := ⟨callB_x hts mcb_firstKey 1 (List.mem_filter.mpr ⟨List.mem_append_right _ (List.mem_of_getElem? (i := 1) (by decide +kernel)), rfl⟩) (List.mem_filter.mpr ⟨List.mem_append_right _ (List.mem_of_getElem? (i := 131) (by decide +kernel)), rfl⟩) (by decide +kernel) hR, hts _ (List.mem_filter.mpr ⟨List.mem_append_right _ (List.mem_of_getElem? (i := 133) (by decide +kernel)), rfl⟩), hts _ (List.mem_filter.mpr ⟨List.mem_append_left _ (List.mem_of_getElem? (i := 11) (by decide +kernel)), rfl⟩)⟩
theorem cw_lastKey {R : Room} {s : State} {args : Array Value} (hts : ∀ w ∈ lw_g, w.before args s = true) {rm : Room} (hR : rm.frames + 1 ≤ R.frames ∧ 8 + (2 + 11) + rm.locals ≤ R.locals) : CallW R s args RB RB 216 yb_lastKey kb_lastKey 2 (some .long) lw_g rm rm.cells rm.slots 1 := ⟨callB_x hts mcb_lastKey 1 (List.mem_filter.mpr ⟨List.mem_append_right _ (List.mem_of_getElem? (i := 1) (by decide +kernel)), rfl⟩) (List.mem_filter.mpr ⟨List.mem_append_right _ (List.mem_of_getElem? (i := 138) (by decide +kernel)), rfl⟩) (by decide +kernel) hR, hts _ (List.mem_filter.mpr ⟨List.mem_append_right _ (List.mem_of_getElem? (i := 140) (by decide +kernel)), rfl⟩), hts _ (List.mem_filter.mpr ⟨List.mem_append_left _ (List.mem_of_getElem? (i := 12) (by decide +kernel)), rfl⟩)⟩
theorem cw_hasRightLeaves {R : Room} {s : State} {args : Array Value} (hts : ∀ w ∈ lw_g, w.before args s = true) {rm : Room} (hR : rm.frames + 1 ≤ R.frames ∧ 8 + (9 + 11) + rm.locals ≤ R.locals) : CallW R s args RB RB 203 yb_hasRightLeaves kb_hasRightLeaves 9 (some .boolean) lw_g rm rm.cells rm.slots 1 := ⟨callB_x hts mcb_hasRightLeaves 1 (List.mem_filter.mpr ⟨List.mem_append_right _ (List.mem_of_getElem? (i := 1) (by decide +kernel)), rfl⟩) (List.mem_filter.mpr ⟨List.mem_append_right _ (List.mem_of_getElem? (i := 109) (by decide +kernel)), rfl⟩) (by decide +kernel) hR, hts _ (List.mem_filter.mpr ⟨List.mem_append_right _ (List.mem_of_getElem? (i := 111) (by decide +kernel)), rfl⟩), hts _ (List.mem_filter.mpr ⟨List.mem_append_left _ (List.mem_of_getElem? (i := 6) (by decide +kernel)), rfl⟩)⟩
theorem cw_isRightRoot {R : Room} {s : State} {args : Array Value} (hts : ∀ w ∈ lw_g, w.before args s = true) {rm : Room} (hR : rm.frames + 1 ≤ R.frames ∧ 8 + (2 + 11) + rm.locals ≤ R.locals) : CallW R s args RB RB 219 yb_isRightRoot kb_isRightRoot 2 (some .boolean) lw_g rm rm.cells rm.slots 1 := ⟨callB_x hts mcb_isRightRoot 1 (List.mem_filter.mpr ⟨List.mem_append_right _ (List.mem_of_getElem? (i := 1) (by decide +kernel)), rfl⟩) (List.mem_filter.mpr ⟨List.mem_append_right _ (List.mem_of_getElem? (i := 96) (by decide +kernel)), rfl⟩) (by decide +kernel) hR, hts _ (List.mem_filter.mpr ⟨List.mem_append_right _ (List.mem_of_getElem? (i := 98) (by decide +kernel)), rfl⟩), hts _ (List.mem_filter.mpr ⟨List.mem_append_left _ (List.mem_of_getElem? (i := 3) (by decide +kernel)), rfl⟩)⟩
theorem cw_isKept {R : Room} {s : State} {args : Array Value} (hts : ∀ w ∈ lw_g, w.before args s = true) {rm : Room} (hR : rm.frames + 1 ≤ R.frames ∧ 8 + (3 + 11) + rm.locals ≤ R.locals) : CallW R s args RB RB 170 yb_isKept kb_isKept 3 (some .boolean) lw_g rm rm.cells rm.slots 1 := ⟨callB_x hts mcb_isKept 1 (List.mem_filter.mpr ⟨List.mem_append_right _ (List.mem_of_getElem? (i := 1) (by decide +kernel)), rfl⟩) (List.mem_filter.mpr ⟨List.mem_append_right _ (List.mem_of_getElem? (i := 249) (by decide +kernel)), rfl⟩) (by decide +kernel) hR, hts _ (List.mem_filter.mpr ⟨List.mem_append_right _ (List.mem_of_getElem? (i := 251) (by decide +kernel)), rfl⟩), hts _ (List.mem_filter.mpr ⟨List.mem_append_left _ (List.mem_of_getElem? (i := 19) (by decide +kernel)), rfl⟩)⟩
theorem cw_requireWritable {R : Room} {s : State} {args : Array Value} (hts : ∀ w ∈ lw_g, w.before args s = true) {rm : Room} (hR : rm.frames + 1 ≤ R.frames ∧ 8 + (1 + 11) + rm.locals ≤ R.locals) : CallW R s args RB RB 45 yb_requireWritable kb_requireWritable 1 (none) lw_g rm rm.cells rm.slots 0 := ⟨callB_x hts mcb_requireWritable 0 (List.mem_filter.mpr ⟨List.mem_append_right _ (List.mem_of_getElem? (i := 1) (by decide +kernel)), rfl⟩) (List.mem_filter.mpr ⟨List.mem_append_right _ (List.mem_of_getElem? (i := 173) (by decide +kernel)), rfl⟩) (by decide +kernel) hR, hts _ (List.mem_filter.mpr ⟨List.mem_append_right _ (List.mem_of_getElem? (i := 175) (by decide +kernel)), rfl⟩), hts _ (List.mem_filter.mpr ⟨List.mem_append_left _ (List.mem_of_getElem? (i := 16) (by decide +kernel)), rfl⟩)⟩
theorem cw_requireKey {R : Room} {s : State} {args : Array Value} (hts : ∀ w ∈ lw_g, w.before args s = true) {rm : Room} (hR : rm.frames + 1 ≤ R.frames ∧ 8 + (2 + 11) + rm.locals ≤ R.locals) : CallW R s args RB RB 48 yb_requireKey kb_requireKey 2 (none) lw_g rm rm.cells rm.slots 1 := ⟨callB_x hts mcb_requireKey 1 (List.mem_filter.mpr ⟨List.mem_append_right _ (List.mem_of_getElem? (i := 1) (by decide +kernel)), rfl⟩) (List.mem_filter.mpr ⟨List.mem_append_right _ (List.mem_of_getElem? (i := 254) (by decide +kernel)), rfl⟩) (by decide +kernel) hR, hts _ (List.mem_filter.mpr ⟨List.mem_append_right _ (List.mem_of_getElem? (i := 256) (by decide +kernel)), rfl⟩), hts _ (List.mem_filter.mpr ⟨List.mem_append_left _ (List.mem_of_getElem? (i := 20) (by decide +kernel)), rfl⟩)⟩
theorem cw_leafFor {R : Room} {s : State} {args : Array Value} (hts : ∀ w ∈ lw_g, w.before args s = true) {rm : Room} (hR : rm.frames + 1 ≤ R.frames ∧ 8 + (6 + 11) + rm.locals ≤ R.locals) : CallW R s args RB RB 59 yb_leafFor kb_leafFor 6 (some .int) lw_g rm rm.cells rm.slots 2 := ⟨callB_x hts mcb_leafFor 2 (List.mem_filter.mpr ⟨List.mem_append_right _ (List.mem_of_getElem? (i := 1) (by decide +kernel)), rfl⟩) (List.mem_filter.mpr ⟨List.mem_append_right _ (List.mem_of_getElem? (i := 275) (by decide +kernel)), rfl⟩) (by decide +kernel) hR, hts _ (List.mem_filter.mpr ⟨List.mem_append_right _ (List.mem_of_getElem? (i := 277) (by decide +kernel)), rfl⟩), hts _ (List.mem_filter.mpr ⟨List.mem_append_left _ (List.mem_of_getElem? (i := 21) (by decide +kernel)), rfl⟩)⟩
theorem cw_loadDraft {R : Room} {s : State} {args : Array Value} (hts : ∀ w ∈ lw_g, w.before args s = true) {rm : Room} (hR : rm.frames + 1 ≤ R.frames ∧ 8 + (6 + 11) + rm.locals ≤ R.locals) : CallW R s args RB RB 62 yb_loadDraft kb_loadDraft 6 (none) lw_g rm rm.cells rm.slots 2 := ⟨callB_x hts mcb_loadDraft 2 (List.mem_filter.mpr ⟨List.mem_append_right _ (List.mem_of_getElem? (i := 1) (by decide +kernel)), rfl⟩) (List.mem_filter.mpr ⟨List.mem_append_right _ (List.mem_of_getElem? (i := 279) (by decide +kernel)), rfl⟩) (by decide +kernel) hR, hts _ (List.mem_filter.mpr ⟨List.mem_append_right _ (List.mem_of_getElem? (i := 281) (by decide +kernel)), rfl⟩), hts _ (List.mem_filter.mpr ⟨List.mem_append_left _ (List.mem_of_getElem? (i := 22) (by decide +kernel)), rfl⟩)⟩
theorem cw_placeInDraft {R : Room} {s : State} {args : Array Value} (hts : ∀ w ∈ lw_g, w.before args s = true) {rm : Room} (hR : rm.frames + 1 ≤ R.frames ∧ 8 + (3 + 11) + rm.locals ≤ R.locals) : CallW R s args RB RB 236 yb_placeInDraft kb_placeInDraft 3 (some .int) lw_g rm rm.cells rm.slots 1 := ⟨callB_x hts mcb_placeInDraft 1 (List.mem_filter.mpr ⟨List.mem_append_right _ (List.mem_of_getElem? (i := 1) (by decide +kernel)), rfl⟩) (List.mem_filter.mpr ⟨List.mem_append_right _ (List.mem_of_getElem? (i := 287) (by decide +kernel)), rfl⟩) (by decide +kernel) hR, hts _ (List.mem_filter.mpr ⟨List.mem_append_right _ (List.mem_of_getElem? (i := 289) (by decide +kernel)), rfl⟩), hts _ (List.mem_filter.mpr ⟨List.mem_append_left _ (List.mem_of_getElem? (i := 24) (by decide +kernel)), rfl⟩)⟩
theorem cw_draftHasAt {R : Room} {s : State} {args : Array Value} (hts : ∀ w ∈ lw_g, w.before args s = true) {rm : Room} (hR : rm.frames + 1 ≤ R.frames ∧ 8 + (3 + 11) + rm.locals ≤ R.locals) : CallW R s args RB RB 239 yb_draftHasAt kb_draftHasAt 3 (some .boolean) lw_g rm rm.cells rm.slots 2 := ⟨callB_x hts mcb_draftHasAt 2 (List.mem_filter.mpr ⟨List.mem_append_right _ (List.mem_of_getElem? (i := 1) (by decide +kernel)), rfl⟩) (List.mem_filter.mpr ⟨List.mem_append_right _ (List.mem_of_getElem? (i := 291) (by decide +kernel)), rfl⟩) (by decide +kernel) hR, hts _ (List.mem_filter.mpr ⟨List.mem_append_right _ (List.mem_of_getElem? (i := 293) (by decide +kernel)), rfl⟩), hts _ (List.mem_filter.mpr ⟨List.mem_append_left _ (List.mem_of_getElem? (i := 25) (by decide +kernel)), rfl⟩)⟩
theorem cw_putInDraft {R : Room} {s : State} {args : Array Value} (hts : ∀ w ∈ lw_g, w.before args s = true) {rm : Room} (hR : rm.frames + 1 ≤ R.frames ∧ 8 + (6 + 11) + rm.locals ≤ R.locals) : CallW R s args RB RB 66 yb_putInDraft kb_putInDraft 6 (none) lw_g rm rm.cells rm.slots 2 := ⟨callB_x hts mcb_putInDraft 2 (List.mem_filter.mpr ⟨List.mem_append_right _ (List.mem_of_getElem? (i := 1) (by decide +kernel)), rfl⟩) (List.mem_filter.mpr ⟨List.mem_append_right _ (List.mem_of_getElem? (i := 283) (by decide +kernel)), rfl⟩) (by decide +kernel) hR, hts _ (List.mem_filter.mpr ⟨List.mem_append_right _ (List.mem_of_getElem? (i := 285) (by decide +kernel)), rfl⟩), hts _ (List.mem_filter.mpr ⟨List.mem_append_left _ (List.mem_of_getElem? (i := 23) (by decide +kernel)), rfl⟩)⟩
theorem cw_pagesOf {R : Room} {s : State} {args : Array Value} (hts : ∀ w ∈ lw_g, w.before args s = true) {rm : Room} (hR : rm.frames + 1 ≤ R.frames ∧ 8 + (6 + 11) + rm.locals ≤ R.locals) : CallW R s args RB RB 222 yb_pagesOf kb_pagesOf 6 (some .long) lw_g rm rm.cells rm.slots 1 := ⟨callB_x hts mcb_pagesOf 1 (List.mem_filter.mpr ⟨List.mem_append_right _ (List.mem_of_getElem? (i := 1) (by decide +kernel)), rfl⟩) (List.mem_filter.mpr ⟨List.mem_append_right _ (List.mem_of_getElem? (i := 150) (by decide +kernel)), rfl⟩) (by decide +kernel) hR, hts _ (List.mem_filter.mpr ⟨List.mem_append_right _ (List.mem_of_getElem? (i := 152) (by decide +kernel)), rfl⟩), hts _ (List.mem_filter.mpr ⟨List.mem_append_left _ (List.mem_of_getElem? (i := 14) (by decide +kernel)), rfl⟩)⟩
theorem cw_heldPages {R : Room} {s : State} {args : Array Value} (hts : ∀ w ∈ lw_g, w.before args s = true) {rm : Room} (hR : rm.frames + 1 ≤ R.frames ∧ 8 + (4 + 11) + rm.locals ≤ R.locals) : CallW R s args RB RB 111 yb_heldPages kb_heldPages 4 (some .long) lw_g rm rm.cells rm.slots 0 := ⟨callB_x hts mcb_heldPages 0 (List.mem_filter.mpr ⟨List.mem_append_right _ (List.mem_of_getElem? (i := 1) (by decide +kernel)), rfl⟩) (List.mem_filter.mpr ⟨List.mem_append_right _ (List.mem_of_getElem? (i := 146) (by decide +kernel)), rfl⟩) (by decide +kernel) hR, hts _ (List.mem_filter.mpr ⟨List.mem_append_right _ (List.mem_of_getElem? (i := 148) (by decide +kernel)), rfl⟩), hts _ (List.mem_filter.mpr ⟨List.mem_append_left _ (List.mem_of_getElem? (i := 13) (by decide +kernel)), rfl⟩)⟩
theorem cw_isIn {R : Room} {s : State} {args : Array Value} (hts : ∀ w ∈ lw_g, w.before args s = true) {rm : Room} (hR : rm.frames + 1 ≤ R.frames ∧ 8 + (3 + 11) + rm.locals ≤ R.locals) : CallB R s args RB 155 yb_isIn kb_isIn 3 (some .boolean) lw_g rm rm.cells rm.slots 2 ∧ (Cond.static yb_isIn).before args s = true := ⟨callB_x hts mcb_isIn 2 (List.mem_filter.mpr ⟨List.mem_append_right _ (List.mem_of_getElem? (i := 1) (by decide +kernel)), rfl⟩) (List.mem_filter.mpr ⟨List.mem_append_right _ (List.mem_of_getElem? (i := 154) (by decide +kernel)), rfl⟩) (by decide +kernel) hR, hts _ (List.mem_filter.mpr ⟨List.mem_append_right _ (List.mem_of_getElem? (i := 155) (by decide +kernel)), rfl⟩)⟩
theorem cw_pageNotIn {R : Room} {s : State} {args : Array Value} (hts : ∀ w ∈ lw_g, w.before args s = true) {rm : Room} (hR : rm.frames + 1 ≤ R.frames ∧ 8 + (5 + 11) + rm.locals ≤ R.locals) : CallW R s args RB RB 244 yb_pageNotIn kb_pageNotIn 5 (some .int) lw_g rm rm.cells rm.slots 2 := ⟨callB_x hts mcb_pageNotIn 2 (List.mem_filter.mpr ⟨List.mem_append_right _ (List.mem_of_getElem? (i := 1) (by decide +kernel)), rfl⟩) (List.mem_filter.mpr ⟨List.mem_append_right _ (List.mem_of_getElem? (i := 300) (by decide +kernel)), rfl⟩) (by decide +kernel) hR, hts _ (List.mem_filter.mpr ⟨List.mem_append_right _ (List.mem_of_getElem? (i := 302) (by decide +kernel)), rfl⟩), hts _ (List.mem_filter.mpr ⟨List.mem_append_left _ (List.mem_of_getElem? (i := 27) (by decide +kernel)), rfl⟩)⟩
theorem cw_saveWordsBefore {R : Room} {s : State} {args : Array Value} (hts : ∀ w ∈ lw_g, w.before args s = true) {rm : Room} (hR : rm.frames + 1 ≤ R.frames ∧ 8 + (2 + 11) + rm.locals ≤ R.locals) : CallW R s args RB RB 256 yb_saveWordsBefore kb_saveWordsBefore 2 (none) lw_g rm rm.cells rm.slots 0 := ⟨callB_x hts mcb_saveWordsBefore 0 (List.mem_filter.mpr ⟨List.mem_append_right _ (List.mem_of_getElem? (i := 1) (by decide +kernel)), rfl⟩) (List.mem_filter.mpr ⟨List.mem_append_right _ (List.mem_of_getElem? (i := 305) (by decide +kernel)), rfl⟩) (by decide +kernel) hR, hts _ (List.mem_filter.mpr ⟨List.mem_append_right _ (List.mem_of_getElem? (i := 307) (by decide +kernel)), rfl⟩), hts _ (List.mem_filter.mpr ⟨List.mem_append_left _ (List.mem_of_getElem? (i := 28) (by decide +kernel)), rfl⟩)⟩
theorem cw_writeLeaf {R : Room} {s : State} {args : Array Value} (hts : ∀ w ∈ lw_g, w.before args s = true) {rm : Room} (hR : rm.frames + 1 ≤ R.frames ∧ 8 + (6 + 11) + rm.locals ≤ R.locals) : CallW R s args RB RB 265 yb_writeLeaf kb_writeLeaf 6 (none) lw_g rm rm.cells rm.slots 3 := ⟨callB_x hts mcb_writeLeaf 3 (List.mem_filter.mpr ⟨List.mem_append_right _ (List.mem_of_getElem? (i := 1) (by decide +kernel)), rfl⟩) (List.mem_filter.mpr ⟨List.mem_append_right _ (List.mem_of_getElem? (i := 316) (by decide +kernel)), rfl⟩) (by decide +kernel) hR, hts _ (List.mem_filter.mpr ⟨List.mem_append_right _ (List.mem_of_getElem? (i := 318) (by decide +kernel)), rfl⟩), hts _ (List.mem_filter.mpr ⟨List.mem_append_left _ (List.mem_of_getElem? (i := 30) (by decide +kernel)), rfl⟩)⟩
theorem cw_writeLeaves {R : Room} {s : State} {args : Array Value} (hts : ∀ w ∈ lw_g, w.before args s = true) {rm : Room} (hR : rm.frames + 1 ≤ R.frames ∧ 8 + (1 + 11) + rm.locals ≤ R.locals) : CallW R s args RB RB 259 yb_writeLeaves kb_writeLeaves 1 (none) lw_g rm rm.cells rm.slots 0 := ⟨callB_x hts mcb_writeLeaves 0 (List.mem_filter.mpr ⟨List.mem_append_right _ (List.mem_of_getElem? (i := 1) (by decide +kernel)), rfl⟩) (List.mem_filter.mpr ⟨List.mem_append_right _ (List.mem_of_getElem? (i := 312) (by decide +kernel)), rfl⟩) (by decide +kernel) hR, hts _ (List.mem_filter.mpr ⟨List.mem_append_right _ (List.mem_of_getElem? (i := 314) (by decide +kernel)), rfl⟩), hts _ (List.mem_filter.mpr ⟨List.mem_append_left _ (List.mem_of_getElem? (i := 29) (by decide +kernel)), rfl⟩)⟩
theorem cw_entriesOfRoot {R : Room} {s : State} {args : Array Value} (hts : ∀ w ∈ lw_g, w.before args s = true) {rm : Room} (hR : rm.frames + 1 ≤ R.frames ∧ 8 + (2 + 11) + rm.locals ≤ R.locals) : CallW R s args RB RB 93 yb_entriesOfRoot kb_entriesOfRoot 2 (some .int) lw_g rm rm.cells rm.slots 1 := ⟨callB_x hts mcb_entriesOfRoot 1 (List.mem_filter.mpr ⟨List.mem_append_right _ (List.mem_of_getElem? (i := 1) (by decide +kernel)), rfl⟩) (List.mem_filter.mpr ⟨List.mem_append_right _ (List.mem_of_getElem? (i := 324) (by decide +kernel)), rfl⟩) (by decide +kernel) hR, hts _ (List.mem_filter.mpr ⟨List.mem_append_right _ (List.mem_of_getElem? (i := 326) (by decide +kernel)), rfl⟩), hts _ (List.mem_filter.mpr ⟨List.mem_append_left _ (List.mem_of_getElem? (i := 32) (by decide +kernel)), rfl⟩)⟩
theorem cw_writeRoot {R : Room} {s : State} {args : Array Value} (hts : ∀ w ∈ lw_g, w.before args s = true) {rm : Room} (hR : rm.frames + 1 ≤ R.frames ∧ 8 + (9 + 11) + rm.locals ≤ R.locals) : CallW R s args RB RB 262 yb_writeRoot kb_writeRoot 9 (none) lw_g rm rm.cells rm.slots 2 := ⟨callB_x hts mcb_writeRoot 2 (List.mem_filter.mpr ⟨List.mem_append_right _ (List.mem_of_getElem? (i := 1) (by decide +kernel)), rfl⟩) (List.mem_filter.mpr ⟨List.mem_append_right _ (List.mem_of_getElem? (i := 320) (by decide +kernel)), rfl⟩) (by decide +kernel) hR, hts _ (List.mem_filter.mpr ⟨List.mem_append_right _ (List.mem_of_getElem? (i := 322) (by decide +kernel)), rfl⟩), hts _ (List.mem_filter.mpr ⟨List.mem_append_left _ (List.mem_of_getElem? (i := 31) (by decide +kernel)), rfl⟩)⟩
theorem cw_act {R : Room} {s : State} {args : Array Value} (hts : ∀ w ∈ lw_g, w.before args s = true) {rm : Room} (hR : rm.frames + 1 ≤ R.frames ∧ 8 + (9 + 11) + rm.locals ≤ R.locals) : CallW R s args RB RB 70 yb_act kb_act 9 (some .int) lw_g rm rm.cells rm.slots 2 := ⟨callB_x hts mcb_act 2 (List.mem_filter.mpr ⟨List.mem_append_right _ (List.mem_of_getElem? (i := 1) (by decide +kernel)), rfl⟩) (List.mem_filter.mpr ⟨List.mem_append_right _ (List.mem_of_getElem? (i := 295) (by decide +kernel)), rfl⟩) (by decide +kernel) hR, hts _ (List.mem_filter.mpr ⟨List.mem_append_right _ (List.mem_of_getElem? (i := 297) (by decide +kernel)), rfl⟩), hts _ (List.mem_filter.mpr ⟨List.mem_append_left _ (List.mem_of_getElem? (i := 26) (by decide +kernel)), rfl⟩)⟩
theorem cw_dropFromDraft {R : Room} {s : State} {args : Array Value} (hts : ∀ w ∈ lw_g, w.before args s = true) {rm : Room} (hR : rm.frames + 1 ≤ R.frames ∧ 8 + (4 + 11) + rm.locals ≤ R.locals) : CallW R s args RB RB 73 yb_dropFromDraft kb_dropFromDraft 4 (some .boolean) lw_g rm rm.cells rm.slots 1 := ⟨callB_x hts mcb_dropFromDraft 1 (List.mem_filter.mpr ⟨List.mem_append_right _ (List.mem_of_getElem? (i := 1) (by decide +kernel)), rfl⟩) (List.mem_filter.mpr ⟨List.mem_append_right _ (List.mem_of_getElem? (i := 335) (by decide +kernel)), rfl⟩) (by decide +kernel) hR, hts _ (List.mem_filter.mpr ⟨List.mem_append_right _ (List.mem_of_getElem? (i := 337) (by decide +kernel)), rfl⟩), hts _ (List.mem_filter.mpr ⟨List.mem_append_left _ (List.mem_of_getElem? (i := 33) (by decide +kernel)), rfl⟩)⟩
theorem cw_requireKept {R : Room} {s : State} {args : Array Value} (hts : ∀ w ∈ lw_g, w.before args s = true) {rm : Room} (hR : rm.frames + 1 ≤ R.frames ∧ 8 + (2 + 11) + rm.locals ≤ R.locals) : CallW R s args RB RB 80 yb_requireKept kb_requireKept 2 (none) lw_g rm rm.cells rm.slots 1 := ⟨callB_x hts mcb_requireKept 1 (List.mem_filter.mpr ⟨List.mem_append_right _ (List.mem_of_getElem? (i := 1) (by decide +kernel)), rfl⟩) (List.mem_filter.mpr ⟨List.mem_append_right _ (List.mem_of_getElem? (i := 354) (by decide +kernel)), rfl⟩) (by decide +kernel) hR, hts _ (List.mem_filter.mpr ⟨List.mem_append_right _ (List.mem_of_getElem? (i := 356) (by decide +kernel)), rfl⟩), hts _ (List.mem_filter.mpr ⟨List.mem_append_left _ (List.mem_of_getElem? (i := 34) (by decide +kernel)), rfl⟩)⟩
theorem cw_entryWithKey {R : Room} {s : State} {args : Array Value} (hts : ∀ w ∈ lw_g, w.before args s = true) {rm : Room} (hR : rm.frames + 1 ≤ R.frames ∧ 8 + (7 + 11) + rm.locals ≤ R.locals) : CallW R s args RB RB 83 yb_entryWithKey kb_entryWithKey 7 (some .int) lw_g rm rm.cells rm.slots 2 := ⟨callB_x hts mcb_entryWithKey 2 (List.mem_filter.mpr ⟨List.mem_append_right _ (List.mem_of_getElem? (i := 1) (by decide +kernel)), rfl⟩) (List.mem_filter.mpr ⟨List.mem_append_right _ (List.mem_of_getElem? (i := 374) (by decide +kernel)), rfl⟩) (by decide +kernel) hR, hts _ (List.mem_filter.mpr ⟨List.mem_append_right _ (List.mem_of_getElem? (i := 376) (by decide +kernel)), rfl⟩), hts _ (List.mem_filter.mpr ⟨List.mem_append_left _ (List.mem_of_getElem? (i := 35) (by decide +kernel)), rfl⟩)⟩
theorem cw_entryByNumber {R : Room} {s : State} {args : Array Value} (hts : ∀ w ∈ lw_g, w.before args s = true) {rm : Room} (hR : rm.frames + 1 ≤ R.frames ∧ 8 + (8 + 11) + rm.locals ≤ R.locals) : CallW R s args RB RB 99 yb_entryByNumber kb_entryByNumber 8 (some .int) lw_g rm rm.cells rm.slots 2 := ⟨callB_x hts mcb_entryByNumber 2 (List.mem_filter.mpr ⟨List.mem_append_right _ (List.mem_of_getElem? (i := 1) (by decide +kernel)), rfl⟩) (List.mem_filter.mpr ⟨List.mem_append_right _ (List.mem_of_getElem? (i := 400) (by decide +kernel)), rfl⟩) (by decide +kernel) hR, hts _ (List.mem_filter.mpr ⟨List.mem_append_right _ (List.mem_of_getElem? (i := 402) (by decide +kernel)), rfl⟩), hts _ (List.mem_filter.mpr ⟨List.mem_append_left _ (List.mem_of_getElem? (i := 36) (by decide +kernel)), rfl⟩)⟩
theorem cw_haveSameEntries {R : Room} {s : State} {args : Array Value} (hts : ∀ w ∈ lw_g, w.before args s = true) {rm : Room} (hR : rm.frames + 1 ≤ R.frames ∧ 8 + (7 + 11) + rm.locals ≤ R.locals) : CallW R s args RB RB 107 yb_haveSameEntries kb_haveSameEntries 7 (some .boolean) lw_g rm rm.cells rm.slots 2 := ⟨callB_x hts mcb_haveSameEntries 2 (List.mem_filter.mpr ⟨List.mem_append_right _ (List.mem_of_getElem? (i := 1) (by decide +kernel)), rfl⟩) (List.mem_filter.mpr ⟨List.mem_append_right _ (List.mem_of_getElem? (i := 412) (by decide +kernel)), rfl⟩) (by decide +kernel) hR, hts _ (List.mem_filter.mpr ⟨List.mem_append_right _ (List.mem_of_getElem? (i := 414) (by decide +kernel)), rfl⟩), hts _ (List.mem_filter.mpr ⟨List.mem_append_left _ (List.mem_of_getElem? (i := 37) (by decide +kernel)), rfl⟩)⟩
theorem cw_writtenWords {R : Room} {s : State} {args : Array Value} (hts : ∀ w ∈ lw_g, w.before args s = true) {rm : Room} (hR : rm.frames + 1 ≤ R.frames ∧ 8 + (1 + 11) + rm.locals ≤ R.locals) : CallW R s args RB RB 138 yb_writtenWords kb_writtenWords 1 (some .int) lw_g rm rm.cells rm.slots 0 := ⟨callB_x hts mcb_writtenWords 0 (List.mem_filter.mpr ⟨List.mem_append_right _ (List.mem_of_getElem? (i := 1) (by decide +kernel)), rfl⟩) (List.mem_filter.mpr ⟨List.mem_append_right _ (List.mem_of_getElem? (i := 442) (by decide +kernel)), rfl⟩) (by decide +kernel) hR, hts _ (List.mem_filter.mpr ⟨List.mem_append_right _ (List.mem_of_getElem? (i := 444) (by decide +kernel)), rfl⟩), hts _ (List.mem_filter.mpr ⟨List.mem_append_left _ (List.mem_of_getElem? (i := 39) (by decide +kernel)), rfl⟩)⟩
theorem cw_restoreFrom {R : Room} {s : State} {args : Array Value} (hts : ∀ w ∈ lw_g, w.before args s = true) {rm : Room} (hR : rm.frames + 1 ≤ R.frames ∧ 8 + (5 + 11) + rm.locals ≤ R.locals) : CallW R s args RB RB 132 yb_restoreFrom kb_restoreFrom 5 (none) lw_g rm rm.cells rm.slots 1 := ⟨callB_x hts mcb_restoreFrom 1 (List.mem_filter.mpr ⟨List.mem_append_right _ (List.mem_of_getElem? (i := 1) (by decide +kernel)), rfl⟩) (List.mem_filter.mpr ⟨List.mem_append_right _ (List.mem_of_getElem? (i := 438) (by decide +kernel)), rfl⟩) (by decide +kernel) hR, hts _ (List.mem_filter.mpr ⟨List.mem_append_right _ (List.mem_of_getElem? (i := 440) (by decide +kernel)), rfl⟩), hts _ (List.mem_filter.mpr ⟨List.mem_append_left _ (List.mem_of_getElem? (i := 38) (by decide +kernel)), rfl⟩)⟩
theorem cw_greatestWhole {R : Room} {s : State} {args : Array Value} (hts : ∀ w ∈ lw_g, w.before args s = true) {rm : Room} (hR : rm.frames + 1 ≤ R.frames ∧ 8 + (7 + 11) + rm.locals ≤ R.locals) : CallW R s args RB RB 142 yb_greatestWhole kb_greatestWhole 7 (some .int) lw_g rm rm.cells rm.slots 0 := ⟨callB_x hts mcb_greatestWhole 0 (List.mem_filter.mpr ⟨List.mem_append_right _ (List.mem_of_getElem? (i := 1) (by decide +kernel)), rfl⟩) (List.mem_filter.mpr ⟨List.mem_append_right _ (List.mem_of_getElem? (i := 84) (by decide +kernel)), rfl⟩) (by decide +kernel) hR, hts _ (List.mem_filter.mpr ⟨List.mem_append_right _ (List.mem_of_getElem? (i := 86) (by decide +kernel)), rfl⟩), hts _ (List.mem_filter.mpr ⟨List.mem_append_left _ (List.mem_of_getElem? (i := 2) (by decide +kernel)), rfl⟩)⟩
theorem cw_requirePageWord {R : Room} {s : State} {args : Array Value} (hts : ∀ w ∈ lw_g, w.before args s = true) {rm : Room} (hR : rm.frames + 1 ≤ R.frames ∧ 8 + (3 + 11) + rm.locals ≤ R.locals) : CallW R s args RB RB 145 yb_requirePageWord kb_requirePageWord 3 (none) lw_g rm rm.cells rm.slots 2 := ⟨callB_x hts mcb_requirePageWord 2 (List.mem_filter.mpr ⟨List.mem_append_right _ (List.mem_of_getElem? (i := 1) (by decide +kernel)), rfl⟩) (List.mem_filter.mpr ⟨List.mem_append_right _ (List.mem_of_getElem? (i := 453) (by decide +kernel)), rfl⟩) (by decide +kernel) hR, hts _ (List.mem_filter.mpr ⟨List.mem_append_right _ (List.mem_of_getElem? (i := 455) (by decide +kernel)), rfl⟩), hts _ (List.mem_filter.mpr ⟨List.mem_append_left _ (List.mem_of_getElem? (i := 40) (by decide +kernel)), rfl⟩)⟩
theorem cw_requireRootWord {R : Room} {s : State} {args : Array Value} (hts : ∀ w ∈ lw_g, w.before args s = true) {rm : Room} (hR : rm.frames + 1 ≤ R.frames ∧ 8 + (3 + 11) + rm.locals ≤ R.locals) : CallW R s args RB RB 148 yb_requireRootWord kb_requireRootWord 3 (none) lw_g rm rm.cells rm.slots 2 := ⟨callB_x hts mcb_requireRootWord 2 (List.mem_filter.mpr ⟨List.mem_append_right _ (List.mem_of_getElem? (i := 1) (by decide +kernel)), rfl⟩) (List.mem_filter.mpr ⟨List.mem_append_right _ (List.mem_of_getElem? (i := 465) (by decide +kernel)), rfl⟩) (by decide +kernel) hR, hts _ (List.mem_filter.mpr ⟨List.mem_append_right _ (List.mem_of_getElem? (i := 467) (by decide +kernel)), rfl⟩), hts _ (List.mem_filter.mpr ⟨List.mem_append_left _ (List.mem_of_getElem? (i := 41) (by decide +kernel)), rfl⟩)⟩
theorem cw_requireMask {R : Room} {s : State} {args : Array Value} (hts : ∀ w ∈ lw_g, w.before args s = true) {rm : Room} (hR : rm.frames + 1 ≤ R.frames ∧ 8 + (3 + 11) + rm.locals ≤ R.locals) : CallW R s args RB RB 151 yb_requireMask kb_requireMask 3 (none) lw_g rm rm.cells rm.slots 1 := ⟨callB_x hts mcb_requireMask 1 (List.mem_filter.mpr ⟨List.mem_append_right _ (List.mem_of_getElem? (i := 1) (by decide +kernel)), rfl⟩) (List.mem_filter.mpr ⟨List.mem_append_right _ (List.mem_of_getElem? (i := 477) (by decide +kernel)), rfl⟩) (by decide +kernel) hR, hts _ (List.mem_filter.mpr ⟨List.mem_append_right _ (List.mem_of_getElem? (i := 479) (by decide +kernel)), rfl⟩), hts _ (List.mem_filter.mpr ⟨List.mem_append_left _ (List.mem_of_getElem? (i := 42) (by decide +kernel)), rfl⟩)⟩
theorem cw_isBlankRoot {R : Room} {s : State} {args : Array Value} (hts : ∀ w ∈ lw_g, w.before args s = true) {rm : Room} (hR : rm.frames + 1 ≤ R.frames ∧ 8 + (4 + 11) + rm.locals ≤ R.locals) : CallW R s args RB RB 162 yb_isBlankRoot kb_isBlankRoot 4 (some .boolean) lw_g rm rm.cells rm.slots 1 := ⟨callB_x hts mcb_isBlankRoot 1 (List.mem_filter.mpr ⟨List.mem_append_right _ (List.mem_of_getElem? (i := 1) (by decide +kernel)), rfl⟩) (List.mem_filter.mpr ⟨List.mem_append_right _ (List.mem_of_getElem? (i := 157) (by decide +kernel)), rfl⟩) (by decide +kernel) hR, hts _ (List.mem_filter.mpr ⟨List.mem_append_right _ (List.mem_of_getElem? (i := 159) (by decide +kernel)), rfl⟩), hts _ (List.mem_filter.mpr ⟨List.mem_append_left _ (List.mem_of_getElem? (i := 15) (by decide +kernel)), rfl⟩)⟩
theorem cw_b_floorMod {R : Room} {s : State} {args : Array Value} (hts : ∀ w ∈ lw_g, w.before args s = true) {rm : Room} (hR : rm.frames + 1 ≤ R.frames ∧ 8 + (3 + 11) + rm.locals ≤ R.locals) : CallB R s args RB 227 yj_floorMod kj_floorMod 3 (some .int) lw_g rm rm.cells rm.slots 2 ∧ (Cond.static yj_floorMod).before args s = true := ⟨callB_x hts mcj_floorMod 2 (List.mem_filter.mpr ⟨List.mem_append_right _ (List.mem_of_getElem? (i := 2) (by decide +kernel)), rfl⟩) (List.mem_filter.mpr ⟨List.mem_append_right _ (List.mem_of_getElem? (i := 93) (by decide +kernel)), rfl⟩) (by decide +kernel) hR, hts _ (List.mem_filter.mpr ⟨List.mem_append_right _ (List.mem_of_getElem? (i := 94) (by decide +kernel)), rfl⟩)⟩
theorem cw_b_max {R : Room} {s : State} {args : Array Value} (hts : ∀ w ∈ lw_g, w.before args s = true) {rm : Room} (hR : rm.frames + 1 ≤ R.frames ∧ 8 + (2 + 11) + rm.locals ≤ R.locals) : CallB R s args RB 15 yj_max kj_max 2 (some .int) lw_g rm rm.cells rm.slots 2 ∧ (Cond.static yj_max).before args s = true := ⟨callB_x hts mcj_max 2 (List.mem_filter.mpr ⟨List.mem_append_right _ (List.mem_of_getElem? (i := 2) (by decide +kernel)), rfl⟩) (List.mem_filter.mpr ⟨List.mem_append_right _ (List.mem_of_getElem? (i := 23) (by decide +kernel)), rfl⟩) (by decide +kernel) hR, hts _ (List.mem_filter.mpr ⟨List.mem_append_right _ (List.mem_of_getElem? (i := 24) (by decide +kernel)), rfl⟩)⟩
theorem cw_b_min {R : Room} {s : State} {args : Array Value} (hts : ∀ w ∈ lw_g, w.before args s = true) {rm : Room} (hR : rm.frames + 1 ≤ R.frames ∧ 8 + (2 + 11) + rm.locals ≤ R.locals) : CallB R s args RB 9 yj_min kj_min 2 (some .int) lw_g rm rm.cells rm.slots 2 ∧ (Cond.static yj_min).before args s = true := ⟨callB_x hts mcj_min 2 (List.mem_filter.mpr ⟨List.mem_append_right _ (List.mem_of_getElem? (i := 2) (by decide +kernel)), rfl⟩) (List.mem_filter.mpr ⟨List.mem_append_right _ (List.mem_of_getElem? (i := 20) (by decide +kernel)), rfl⟩) (by decide +kernel) hR, hts _ (List.mem_filter.mpr ⟨List.mem_append_right _ (List.mem_of_getElem? (i := 21) (by decide +kernel)), rfl⟩)⟩
theorem cw_b_bitCount {R : Room} {s : State} {args : Array Value} (hts : ∀ w ∈ lw_g, w.before args s = true) {rm : Room} (hR : rm.frames + 1 ≤ R.frames ∧ 8 + (2 + 11) + rm.locals ≤ R.locals) : CallB R s args RB 115 yj_bitCount kj_bitCount 2 (some .int) lw_g rm rm.cells rm.slots 1 ∧ (Cond.static yj_bitCount).before args s = true := ⟨callB_x hts mcj_bitCount 1 (List.mem_filter.mpr ⟨List.mem_append_right _ (List.mem_of_getElem? (i := 11) (by decide +kernel)), rfl⟩) (List.mem_filter.mpr ⟨List.mem_append_right _ (List.mem_of_getElem? (i := 423) (by decide +kernel)), rfl⟩) (by decide +kernel) hR, hts _ (List.mem_filter.mpr ⟨List.mem_append_right _ (List.mem_of_getElem? (i := 424) (by decide +kernel)), rfl⟩)⟩
theorem th_own_0 : ∀ w ∈ Bundle.ownAtoms RB 129 (xx_nm 0) ["java/lang/RuntimeException", "java/lang/Exception"], w ∈ lw_g ∨ w ∈ zz_words := by decide +kernel
theorem th_own_1 : ∀ w ∈ Bundle.ownAtoms RB 90 (xx_nm 1) ["java/lang/RuntimeException", "java/lang/Exception"], w ∈ lw_g ∨ w ∈ zz_words := by decide +kernel
theorem th_own_2 : ∀ w ∈ Bundle.ownAtoms RB 106 (xx_nm 2) ["java/lang/RuntimeException", "java/lang/Exception"], w ∈ lw_g ∨ w ∈ zz_words := by decide +kernel
theorem kcb_175 {args : Array Value} {s : State} (hts : ∀ w ∈ lw_g, w.before args s = true) : (Cond.constant RB 175 1000000).before args s = true := hts _ (List.mem_filter.mpr ⟨List.mem_append_right _ (List.mem_of_getElem? (i := 258) (by decide +kernel)), rfl⟩)
theorem kcb_186 {args : Array Value} {s : State} (hts : ∀ w ∈ lw_g, w.before args s = true) : (Cond.constantLong RB 186 (-7046029254386353131)).before args s = true := hts _ (List.mem_filter.mpr ⟨List.mem_append_right _ (List.mem_of_getElem? (i := 37) (by decide +kernel)), rfl⟩)
theorem kcb_188 {args : Array Value} {s : State} (hts : ∀ w ∈ lw_g, w.before args s = true) : (Cond.constantLong RB 188 7).before args s = true := hts _ (List.mem_filter.mpr ⟨List.mem_append_right _ (List.mem_of_getElem? (i := 125) (by decide +kernel)), rfl⟩)
theorem kcb_190 {args : Array Value} {s : State} (hts : ∀ w ∈ lw_g, w.before args s = true) : (Cond.constantLong RB 190 (-1)).before args s = true := hts _ (List.mem_filter.mpr ⟨List.mem_append_right _ (List.mem_of_getElem? (i := 88) (by decide +kernel)), rfl⟩)
theorem kcb_192 {args : Array Value} {s : State} (hts : ∀ w ∈ lw_g, w.before args s = true) : (Cond.constantLong RB 192 1000000).before args s = true := hts _ (List.mem_filter.mpr ⟨List.mem_append_right _ (List.mem_of_getElem? (i := 126) (by decide +kernel)), rfl⟩)
theorem kcb_198 {args : Array Value} {s : State} (hts : ∀ w ∈ lw_g, w.before args s = true) : (Cond.constantLong RB 198 16).before args s = true := hts _ (List.mem_filter.mpr ⟨List.mem_append_right _ (List.mem_of_getElem? (i := 108) (by decide +kernel)), rfl⟩)
theorem kcb_225 {args : Array Value} {s : State} (hts : ∀ w ∈ lw_g, w.before args s = true) : (Cond.constantLong RB 225 1000000000).before args s = true := hts _ (List.mem_filter.mpr ⟨List.mem_append_right _ (List.mem_of_getElem? (i := 89) (by decide +kernel)), rfl⟩)
theorem kcj_314 {args : Array Value} {s : State} (hts : ∀ w ∈ lw_g, w.before args s = true) : (Cond.constantLong "java/lang/Long" 314 6148914691236517205).before args s = true := hts _ (List.mem_filter.mpr ⟨List.mem_append_right _ (List.mem_of_getElem? (i := 426) (by decide +kernel)), rfl⟩)
theorem kcj_316 {args : Array Value} {s : State} (hts : ∀ w ∈ lw_g, w.before args s = true) : (Cond.constantLong "java/lang/Long" 316 3689348814741910323).before args s = true := hts _ (List.mem_filter.mpr ⟨List.mem_append_right _ (List.mem_of_getElem? (i := 427) (by decide +kernel)), rfl⟩)
theorem kcj_318 {args : Array Value} {s : State} (hts : ∀ w ∈ lw_g, w.before args s = true) : (Cond.constantLong "java/lang/Long" 318 1085102592571150095).before args s = true := hts _ (List.mem_filter.mpr ⟨List.mem_append_right _ (List.mem_of_getElem? (i := 428) (by decide +kernel)), rfl⟩)
theorem th_0_127 : bt_words 0 125 127 129 "no writing that can be cut" := ⟨th_own_0, List.mem_filter.mpr ⟨List.mem_append_right _ (List.mem_of_getElem? (i := 181) (by decide +kernel)), rfl⟩, List.mem_filter.mpr ⟨List.mem_append_right _ (List.mem_of_getElem? (i := 7) (by decide +kernel)), rfl⟩, List.mem_filter.mpr ⟨List.mem_append_right _ (List.mem_of_getElem? (i := 436) (by decide +kernel)), rfl⟩⟩
theorem th_0_168 : bt_words 0 125 168 129 "the book is closed" := ⟨th_own_0, List.mem_filter.mpr ⟨List.mem_append_right _ (List.mem_of_getElem? (i := 181) (by decide +kernel)), rfl⟩, List.mem_filter.mpr ⟨List.mem_append_right _ (List.mem_of_getElem? (i := 7) (by decide +kernel)), rfl⟩, List.mem_filter.mpr ⟨List.mem_append_right _ (List.mem_of_getElem? (i := 222) (by decide +kernel)), rfl⟩⟩
theorem th_0_173 : bt_words 0 125 173 129 "the newest version is not kept" := ⟨th_own_0, List.mem_filter.mpr ⟨List.mem_append_right _ (List.mem_of_getElem? (i := 181) (by decide +kernel)), rfl⟩, List.mem_filter.mpr ⟨List.mem_append_right _ (List.mem_of_getElem? (i := 7) (by decide +kernel)), rfl⟩, List.mem_filter.mpr ⟨List.mem_append_right _ (List.mem_of_getElem? (i := 253) (by decide +kernel)), rfl⟩⟩
theorem th_0_242 : bt_words 0 125 242 129 "17 leaves would be" := ⟨th_own_0, List.mem_filter.mpr ⟨List.mem_append_right _ (List.mem_of_getElem? (i := 181) (by decide +kernel)), rfl⟩, List.mem_filter.mpr ⟨List.mem_append_right _ (List.mem_of_getElem? (i := 7) (by decide +kernel)), rfl⟩, List.mem_filter.mpr ⟨List.mem_append_right _ (List.mem_of_getElem? (i := 299) (by decide +kernel)), rfl⟩⟩
theorem th_0_248 : bt_words 0 125 248 129 "not pages enough" := ⟨th_own_0, List.mem_filter.mpr ⟨List.mem_append_right _ (List.mem_of_getElem? (i := 181) (by decide +kernel)), rfl⟩, List.mem_filter.mpr ⟨List.mem_append_right _ (List.mem_of_getElem? (i := 7) (by decide +kernel)), rfl⟩, List.mem_filter.mpr ⟨List.mem_append_right _ (List.mem_of_getElem? (i := 304) (by decide +kernel)), rfl⟩⟩
theorem th_1_88 : bt_words 1 86 88 90 "what is not 0 or 1" := ⟨th_own_1, List.mem_filter.mpr ⟨List.mem_append_right _ (List.mem_of_getElem? (i := 259) (by decide +kernel)), rfl⟩, List.mem_filter.mpr ⟨List.mem_append_right _ (List.mem_of_getElem? (i := 8) (by decide +kernel)), rfl⟩, List.mem_filter.mpr ⟨List.mem_append_right _ (List.mem_of_getElem? (i := 392) (by decide +kernel)), rfl⟩⟩
theorem th_1_130 : bt_words 1 86 130 90 "k is below 0" := ⟨th_own_1, List.mem_filter.mpr ⟨List.mem_append_right _ (List.mem_of_getElem? (i := 259) (by decide +kernel)), rfl⟩, List.mem_filter.mpr ⟨List.mem_append_right _ (List.mem_of_getElem? (i := 8) (by decide +kernel)), rfl⟩, List.mem_filter.mpr ⟨List.mem_append_right _ (List.mem_of_getElem? (i := 437) (by decide +kernel)), rfl⟩⟩
theorem th_1_176 : bt_words 1 86 176 90 "key is not 0 .. 1000000" := ⟨th_own_1, List.mem_filter.mpr ⟨List.mem_append_right _ (List.mem_of_getElem? (i := 259) (by decide +kernel)), rfl⟩, List.mem_filter.mpr ⟨List.mem_append_right _ (List.mem_of_getElem? (i := 8) (by decide +kernel)), rfl⟩, List.mem_filter.mpr ⟨List.mem_append_right _ (List.mem_of_getElem? (i := 268) (by decide +kernel)), rfl⟩⟩
theorem th_1_184 : bt_words 1 86 184 90 "mask is 0" := ⟨th_own_1, List.mem_filter.mpr ⟨List.mem_append_right _ (List.mem_of_getElem? (i := 259) (by decide +kernel)), rfl⟩, List.mem_filter.mpr ⟨List.mem_append_right _ (List.mem_of_getElem? (i := 8) (by decide +kernel)), rfl⟩, List.mem_filter.mpr ⟨List.mem_append_right _ (List.mem_of_getElem? (i := 481) (by decide +kernel)), rfl⟩⟩
theorem th_2_104 : bt_words 2 102 104 106 "no such entry" := ⟨th_own_2, List.mem_filter.mpr ⟨List.mem_append_right _ (List.mem_of_getElem? (i := 358) (by decide +kernel)), rfl⟩, List.mem_filter.mpr ⟨List.mem_append_right _ (List.mem_of_getElem? (i := 10) (by decide +kernel)), rfl⟩, List.mem_filter.mpr ⟨List.mem_append_right _ (List.mem_of_getElem? (i := 404) (by decide +kernel)), rfl⟩⟩
theorem th_2_178 : bt_words 2 102 178 106 "the version is not kept" := ⟨th_own_2, List.mem_filter.mpr ⟨List.mem_append_right _ (List.mem_of_getElem? (i := 358) (by decide +kernel)), rfl⟩, List.mem_filter.mpr ⟨List.mem_append_right _ (List.mem_of_getElem? (i := 10) (by decide +kernel)), rfl⟩, List.mem_filter.mpr ⟨List.mem_append_right _ (List.mem_of_getElem? (i := 367) (by decide +kernel)), rfl⟩⟩
theorem th_2_180 : bt_words 2 102 180 106 "no such page or word" := ⟨th_own_2, List.mem_filter.mpr ⟨List.mem_append_right _ (List.mem_of_getElem? (i := 358) (by decide +kernel)), rfl⟩, List.mem_filter.mpr ⟨List.mem_append_right _ (List.mem_of_getElem? (i := 10) (by decide +kernel)), rfl⟩, List.mem_filter.mpr ⟨List.mem_append_right _ (List.mem_of_getElem? (i := 457) (by decide +kernel)), rfl⟩⟩
theorem th_2_182 : bt_words 2 102 182 106 "no such root or word" := ⟨th_own_2, List.mem_filter.mpr ⟨List.mem_append_right _ (List.mem_of_getElem? (i := 358) (by decide +kernel)), rfl⟩, List.mem_filter.mpr ⟨List.mem_append_right _ (List.mem_of_getElem? (i := 10) (by decide +kernel)), rfl⟩, List.mem_filter.mpr ⟨List.mem_append_right _ (List.mem_of_getElem? (i := 469) (by decide +kernel)), rfl⟩⟩
end
section
def fj_floorMod (n : Nat) (x0 : Int32) (x1 : Int32) : Option Int32 := if (x1 : Int32) = 0 then none else if (0 : Int32) ≤ (x0 ^^^ x1) then some (x0 - x0 / x1 * x1) else if ((x0 - x0 / x1 * x1) : Int32) = 0 then some (x0 - x0 / x1 * x1) else some ((x0 - x0 / x1 * x1) + x1)
def fj_max (n : Nat) (x0 : Int32) (x1 : Int32) : Option Int32 := if (x0 : Int32) < x1 then some x1 else some x0
def fj_min (n : Nat) (x0 : Int32) (x1 : Int32) : Option Int32 := if (x1 : Int32) < x0 then some x1 else some x0
def fj_bitCount (n : Nat) (x0 : Int64) : Option Int32 := some (((((((((x0 - ((x0.toUInt64 >>> ((1 : Int32).toInt64.toUInt64 &&& Int64.toUInt64 63)).toInt64 &&& 6148914691236517205)) &&& 3689348814741910323) + (((x0 - ((x0.toUInt64 >>> ((1 : Int32).toInt64.toUInt64 &&& Int64.toUInt64 63)).toInt64 &&& 6148914691236517205)).toUInt64 >>> ((2 : Int32).toInt64.toUInt64 &&& Int64.toUInt64 63)).toInt64 &&& 3689348814741910323)) + ((((x0 - ((x0.toUInt64 >>> ((1 : Int32).toInt64.toUInt64 &&& Int64.toUInt64 63)).toInt64 &&& 6148914691236517205)) &&& 3689348814741910323) + (((x0 - ((x0.toUInt64 >>> ((1 : Int32).toInt64.toUInt64 &&& Int64.toUInt64 63)).toInt64 &&& 6148914691236517205)).toUInt64 >>> ((2 : Int32).toInt64.toUInt64 &&& Int64.toUInt64 63)).toInt64 &&& 3689348814741910323)).toUInt64 >>> ((4 : Int32).toInt64.toUInt64 &&& Int64.toUInt64 63)).toInt64) &&& 1085102592571150095) + ((((((x0 - ((x0.toUInt64 >>> ((1 : Int32).toInt64.toUInt64 &&& Int64.toUInt64 63)).toInt64 &&& 6148914691236517205)) &&& 3689348814741910323) + (((x0 - ((x0.toUInt64 >>> ((1 : Int32).toInt64.toUInt64 &&& Int64.toUInt64 63)).toInt64 &&& 6148914691236517205)).toUInt64 >>> ((2 : Int32).toInt64.toUInt64 &&& Int64.toUInt64 63)).toInt64 &&& 3689348814741910323)) + ((((x0 - ((x0.toUInt64 >>> ((1 : Int32).toInt64.toUInt64 &&& Int64.toUInt64 63)).toInt64 &&& 6148914691236517205)) &&& 3689348814741910323) + (((x0 - ((x0.toUInt64 >>> ((1 : Int32).toInt64.toUInt64 &&& Int64.toUInt64 63)).toInt64 &&& 6148914691236517205)).toUInt64 >>> ((2 : Int32).toInt64.toUInt64 &&& Int64.toUInt64 63)).toInt64 &&& 3689348814741910323)).toUInt64 >>> ((4 : Int32).toInt64.toUInt64 &&& Int64.toUInt64 63)).toInt64) &&& 1085102592571150095).toUInt64 >>> ((8 : Int32).toInt64.toUInt64 &&& Int64.toUInt64 63)).toInt64) + (((((((x0 - ((x0.toUInt64 >>> ((1 : Int32).toInt64.toUInt64 &&& Int64.toUInt64 63)).toInt64 &&& 6148914691236517205)) &&& 3689348814741910323) + (((x0 - ((x0.toUInt64 >>> ((1 : Int32).toInt64.toUInt64 &&& Int64.toUInt64 63)).toInt64 &&& 6148914691236517205)).toUInt64 >>> ((2 : Int32).toInt64.toUInt64 &&& Int64.toUInt64 63)).toInt64 &&& 3689348814741910323)) + ((((x0 - ((x0.toUInt64 >>> ((1 : Int32).toInt64.toUInt64 &&& Int64.toUInt64 63)).toInt64 &&& 6148914691236517205)) &&& 3689348814741910323) + (((x0 - ((x0.toUInt64 >>> ((1 : Int32).toInt64.toUInt64 &&& Int64.toUInt64 63)).toInt64 &&& 6148914691236517205)).toUInt64 >>> ((2 : Int32).toInt64.toUInt64 &&& Int64.toUInt64 63)).toInt64 &&& 3689348814741910323)).toUInt64 >>> ((4 : Int32).toInt64.toUInt64 &&& Int64.toUInt64 63)).toInt64) &&& 1085102592571150095) + ((((((x0 - ((x0.toUInt64 >>> ((1 : Int32).toInt64.toUInt64 &&& Int64.toUInt64 63)).toInt64 &&& 6148914691236517205)) &&& 3689348814741910323) + (((x0 - ((x0.toUInt64 >>> ((1 : Int32).toInt64.toUInt64 &&& Int64.toUInt64 63)).toInt64 &&& 6148914691236517205)).toUInt64 >>> ((2 : Int32).toInt64.toUInt64 &&& Int64.toUInt64 63)).toInt64 &&& 3689348814741910323)) + ((((x0 - ((x0.toUInt64 >>> ((1 : Int32).toInt64.toUInt64 &&& Int64.toUInt64 63)).toInt64 &&& 6148914691236517205)) &&& 3689348814741910323) + (((x0 - ((x0.toUInt64 >>> ((1 : Int32).toInt64.toUInt64 &&& Int64.toUInt64 63)).toInt64 &&& 6148914691236517205)).toUInt64 >>> ((2 : Int32).toInt64.toUInt64 &&& Int64.toUInt64 63)).toInt64 &&& 3689348814741910323)).toUInt64 >>> ((4 : Int32).toInt64.toUInt64 &&& Int64.toUInt64 63)).toInt64) &&& 1085102592571150095).toUInt64 >>> ((8 : Int32).toInt64.toUInt64 &&& Int64.toUInt64 63)).toInt64).toUInt64 >>> ((16 : Int32).toInt64.toUInt64 &&& Int64.toUInt64 63)).toInt64) + ((((((((x0 - ((x0.toUInt64 >>> ((1 : Int32).toInt64.toUInt64 &&& Int64.toUInt64 63)).toInt64 &&& 6148914691236517205)) &&& 3689348814741910323) + (((x0 - ((x0.toUInt64 >>> ((1 : Int32).toInt64.toUInt64 &&& Int64.toUInt64 63)).toInt64 &&& 6148914691236517205)).toUInt64 >>> ((2 : Int32).toInt64.toUInt64 &&& Int64.toUInt64 63)).toInt64 &&& 3689348814741910323)) + ((((x0 - ((x0.toUInt64 >>> ((1 : Int32).toInt64.toUInt64 &&& Int64.toUInt64 63)).toInt64 &&& 6148914691236517205)) &&& 3689348814741910323) + (((x0 - ((x0.toUInt64 >>> ((1 : Int32).toInt64.toUInt64 &&& Int64.toUInt64 63)).toInt64 &&& 6148914691236517205)).toUInt64 >>> ((2 : Int32).toInt64.toUInt64 &&& Int64.toUInt64 63)).toInt64 &&& 3689348814741910323)).toUInt64 >>> ((4 : Int32).toInt64.toUInt64 &&& Int64.toUInt64 63)).toInt64) &&& 1085102592571150095) + ((((((x0 - ((x0.toUInt64 >>> ((1 : Int32).toInt64.toUInt64 &&& Int64.toUInt64 63)).toInt64 &&& 6148914691236517205)) &&& 3689348814741910323) + (((x0 - ((x0.toUInt64 >>> ((1 : Int32).toInt64.toUInt64 &&& Int64.toUInt64 63)).toInt64 &&& 6148914691236517205)).toUInt64 >>> ((2 : Int32).toInt64.toUInt64 &&& Int64.toUInt64 63)).toInt64 &&& 3689348814741910323)) + ((((x0 - ((x0.toUInt64 >>> ((1 : Int32).toInt64.toUInt64 &&& Int64.toUInt64 63)).toInt64 &&& 6148914691236517205)) &&& 3689348814741910323) + (((x0 - ((x0.toUInt64 >>> ((1 : Int32).toInt64.toUInt64 &&& Int64.toUInt64 63)).toInt64 &&& 6148914691236517205)).toUInt64 >>> ((2 : Int32).toInt64.toUInt64 &&& Int64.toUInt64 63)).toInt64 &&& 3689348814741910323)).toUInt64 >>> ((4 : Int32).toInt64.toUInt64 &&& Int64.toUInt64 63)).toInt64) &&& 1085102592571150095).toUInt64 >>> ((8 : Int32).toInt64.toUInt64 &&& Int64.toUInt64 63)).toInt64) + (((((((x0 - ((x0.toUInt64 >>> ((1 : Int32).toInt64.toUInt64 &&& Int64.toUInt64 63)).toInt64 &&& 6148914691236517205)) &&& 3689348814741910323) + (((x0 - ((x0.toUInt64 >>> ((1 : Int32).toInt64.toUInt64 &&& Int64.toUInt64 63)).toInt64 &&& 6148914691236517205)).toUInt64 >>> ((2 : Int32).toInt64.toUInt64 &&& Int64.toUInt64 63)).toInt64 &&& 3689348814741910323)) + ((((x0 - ((x0.toUInt64 >>> ((1 : Int32).toInt64.toUInt64 &&& Int64.toUInt64 63)).toInt64 &&& 6148914691236517205)) &&& 3689348814741910323) + (((x0 - ((x0.toUInt64 >>> ((1 : Int32).toInt64.toUInt64 &&& Int64.toUInt64 63)).toInt64 &&& 6148914691236517205)).toUInt64 >>> ((2 : Int32).toInt64.toUInt64 &&& Int64.toUInt64 63)).toInt64 &&& 3689348814741910323)).toUInt64 >>> ((4 : Int32).toInt64.toUInt64 &&& Int64.toUInt64 63)).toInt64) &&& 1085102592571150095) + ((((((x0 - ((x0.toUInt64 >>> ((1 : Int32).toInt64.toUInt64 &&& Int64.toUInt64 63)).toInt64 &&& 6148914691236517205)) &&& 3689348814741910323) + (((x0 - ((x0.toUInt64 >>> ((1 : Int32).toInt64.toUInt64 &&& Int64.toUInt64 63)).toInt64 &&& 6148914691236517205)).toUInt64 >>> ((2 : Int32).toInt64.toUInt64 &&& Int64.toUInt64 63)).toInt64 &&& 3689348814741910323)) + ((((x0 - ((x0.toUInt64 >>> ((1 : Int32).toInt64.toUInt64 &&& Int64.toUInt64 63)).toInt64 &&& 6148914691236517205)) &&& 3689348814741910323) + (((x0 - ((x0.toUInt64 >>> ((1 : Int32).toInt64.toUInt64 &&& Int64.toUInt64 63)).toInt64 &&& 6148914691236517205)).toUInt64 >>> ((2 : Int32).toInt64.toUInt64 &&& Int64.toUInt64 63)).toInt64 &&& 3689348814741910323)).toUInt64 >>> ((4 : Int32).toInt64.toUInt64 &&& Int64.toUInt64 63)).toInt64) &&& 1085102592571150095).toUInt64 >>> ((8 : Int32).toInt64.toUInt64 &&& Int64.toUInt64 63)).toInt64).toUInt64 >>> ((16 : Int32).toInt64.toUInt64 &&& Int64.toUInt64 63)).toInt64).toUInt64 >>> ((32 : Int32).toInt64.toUInt64 &&& Int64.toUInt64 63)).toInt64).toInt32 &&& 127)
def fb_clearRoot_7 (n : Nat) : Nat → BSt → Int32 → Int32 → Option BSt
  | 0, _, _, _ => none
  | k + 1, st, x2, x3 => if (20 : Int32) ≤ x3 then some st else (wrL (bs_roots st) 160 (x2 + x3) 0).bind fun a1 => fb_clearRoot_7 n k (bs_put_roots a1 st) x2 (x3 + 1)
def fb_clearRoot (n : Nat) (st : BSt) (x1 : Int32) : Option BSt := fb_clearRoot_7 n n st (x1 * 20) 0
def fb_sumOf_5 (n : Nat) (f0 : Nat → Int64) (k0 : Nat) : Nat → Int32 → Int32 → Int64 → Int32 → Option Int64
  | 0, _, _, _, _ => none
  | k + 1, x1, x2, x3, x5 => if ((x1 + x2) : Int32) ≤ x5 then some (x3 ^^^ 1) else (rdL f0 k0 x5).bind fun r1 => fb_sumOf_5 n f0 k0 k x1 x2 ((((x3 ^^^ r1) <<< ((5 : Int32).toInt64 &&& 63)) ||| ((x3 ^^^ r1).toUInt64 >>> ((59 : Int32).toInt64.toUInt64 &&& Int64.toUInt64 63)).toInt64) * (-7046029254386353131)) (x5 + 1)
def fb_sumOf (n : Nat) (f0 : Nat → Int64) (k0 : Nat) (x1 : Int32) (x2 : Int32) : Option Int64 := fb_sumOf_5 n f0 k0 n x1 x2 0 x1
def fb_makeRootZeroAnew (n : Nat) (st : BSt) : Option BSt := (fb_clearRoot n st 0).bind fun st1 => (fb_sumOf n (bs_roots st1) 160 0 19).bind fun r3 => (wrL (bs_roots st1) 160 19 r3).bind fun a5 => some (bs_put_roots a5 st1)
def fb_requireOpen (n : Nat) (st : BSt) : Option (Unit ⊕ Nat) := if ((bs_closed st) : Int32) = 0 then some (.inl ()) else some (.inr 0)
def fb_rootOf (n : Nat) (x0 : Int32) : Option Int32 := (fj_floorMod n x0 8).bind fun r1 => some r1
def fb_hasRootSum (n : Nat) (st : BSt) (x1 : Int32) : Option Int32 := (rdL (bs_roots st) 160 ((x1 * 20) + 19)).bind fun r1 => (fb_sumOf n (bs_roots st) 160 (x1 * 20) 19).bind fun r2 => if ((lg_cmp r1 r2) : Int32) = 0 then some 1 else some 0
def fb_isSound_33 (n : Nat) : Nat → BSt → Int32 → Int64 → Int32 → Option Int32
  | 0, _, _, _, _ => none
  | k + 1, st, x2, x3, x5 => if (0 : Int32) ≤ (lg_cmp x5.toInt64 x3) then some 1 else (rdL (bs_roots st) 160 ((x2 + 2) + x5)).bind fun r1 => if ((lg_cmp r1 0) : Int32) < 0 then some 0 else if ((lg_cmp r1 (((nI (bs_P st))).toInt64)) : Int32) < 0 then fb_isSound_33 n k st x2 x3 (x5 + 1) else some 0
def fb_isSound (n : Nat) (st : BSt) (x1 : Int32) : Option Int32 := (rdL (bs_roots st) 160 ((x1 * 20) + 1)).bind fun r1 => if ((lg_cmp r1 0) : Int32) < 0 then some 0 else if ((lg_cmp r1 16) : Int32) ≤ 0 then fb_isSound_33 n n st (x1 * 20) r1 0 else some 0
def fb_leavesOf (n : Nat) (st : BSt) (x1 : Int32) : Option Int32 := (rdL (bs_roots st) 160 ((x1 * 20) + 1)).bind fun r1 => some r1.toInt32
def fb_pageOf (n : Nat) (st : BSt) (x1 : Int32) (x2 : Int32) : Option Int32 := (rdL (bs_roots st) 160 (((x1 * 20) + 2) + x2)).bind fun r1 => some r1.toInt32
def fb_isRightPage_36 (n : Nat) : Nat → BSt → Int32 → Int64 → Int64 → Int32 → Option Int32
  | 0, _, _, _, _, _ => none
  | k + 1, st, x2, x3, x5, x7 => if (0 : Int32) ≤ (lg_cmp x7.toInt64 x3) then (rdL (bs_pages st) (16 * bs_P st) (x2 + 15)).bind fun r1 => (fb_sumOf n (bs_pages st) (16 * bs_P st) x2 15).bind fun r2 => if ((lg_cmp r1 r2) : Int32) = 0 then some 1 else some 0 else (rdL (bs_pages st) (16 * bs_P st) ((x2 + 1) + (2 * x7))).bind fun r4 => if ((lg_cmp r4 x5) : Int32) ≤ 0 then some 0 else if ((lg_cmp r4 1000000) : Int32) ≤ 0 then fb_isRightPage_36 n k st x2 x3 r4 (x7 + 1) else some 0
def fb_isRightPage (n : Nat) (st : BSt) (x1 : Int32) : Option Int32 := (rdL (bs_pages st) (16 * bs_P st) (x1 * 16)).bind fun r1 => if ((lg_cmp r1 0) : Int32) < 0 then some 0 else if ((lg_cmp r1 7) : Int32) ≤ 0 then fb_isRightPage_36 n n st (x1 * 16) r1 (-1) 0 else some 0
def fb_entriesOf (n : Nat) (st : BSt) (x1 : Int32) : Option Int32 := (rdL (bs_pages st) (16 * bs_P st) (x1 * 16)).bind fun r1 => some r1.toInt32
def fb_entryAt (n : Nat) (x0 : Int32) (x1 : Int32) : Option Int32 := some (((x0 * 16) + 1) + (2 * x1))
def fb_firstKey (n : Nat) (st : BSt) (x1 : Int32) : Option Int64 := (fb_entryAt n x1 0).bind fun r1 => (rdL (bs_pages st) (16 * bs_P st) r1).bind fun r3 => some r3
def fb_lastKey (n : Nat) (st : BSt) (x1 : Int32) : Option Int64 := (fb_entriesOf n st x1).bind fun r1 => (fb_entryAt n x1 (r1 - 1)).bind fun r3 => (rdL (bs_pages st) (16 * bs_P st) r3).bind fun r5 => some r5
def fb_hasRightLeaves_17 (n : Nat) : Nat → BSt → Int32 → Int64 → Int64 → Int32 → Int32 → Option Int32
  | 0, _, _, _, _, _, _ => none
  | k + 1, st, x1, x2, x4, x6, x7 => if (x6 : Int32) ≤ x7 then (rdL (bs_roots st) 160 ((x1 * 20) + 18)).bind fun r1 => if ((lg_cmp r1 x4) : Int32) = 0 then some 1 else some 0 else (fb_pageOf n st x1 x7).bind fun r2 => (fb_isRightPage n st r2).bind fun r4 => if (r4 : Int32) = 0 then some 0 else (fb_entriesOf n st r2).bind fun r6 => if (r6 : Int32) = 0 then some 0 else (fb_firstKey n st r2).bind fun r8 => if (0 : Int32) < (lg_cmp r8 x2) then (fb_lastKey n st r2).bind fun r10 => (fb_entriesOf n st r2).bind fun r12 => fb_hasRightLeaves_17 n k st x1 r10 (x4 + r12.toInt64) x6 (x7 + 1) else some 0
def fb_hasRightLeaves (n : Nat) (st : BSt) (x1 : Int32) : Option Int32 := (fb_leavesOf n st x1).bind fun r1 => fb_hasRightLeaves_17 n n st x1 (-1) 0 r1 0
def fb_isRightRoot (n : Nat) (st : BSt) (x1 : Int32) : Option Int32 := (fb_hasRootSum n st x1).bind fun r1 => if (r1 : Int32) = 0 then some 0 else (fb_isSound n st x1).bind fun r3 => if (r3 : Int32) = 0 then some 0 else (fb_hasRightLeaves n st x1).bind fun r5 => if (r5 : Int32) = 0 then some 0 else some 1
def fb_isKept (n : Nat) (st : BSt) (x1 : Int32) : Option Int32 := (fb_rootOf n x1).bind fun r1 => if ((bs_newest st) : Int32) < x1 then some 0 else (rdL (bs_roots st) 160 (r1 * 20)).bind fun r3 => if ((lg_cmp r3 x1.toInt64) : Int32) = 0 then (fb_isRightRoot n st r1).bind fun r4 => if (r4 : Int32) = 0 then some 0 else some 1 else some 0
def fb_requireWritable (n : Nat) (st : BSt) : Option (Unit ⊕ Nat) := thn (fb_requireOpen n st) fun _ => (fb_isKept n st (bs_newest st)).bind fun r3 => if (r3 : Int32) = 0 then some (.inr 0) else some (.inl ())
def fb_requireKey (n : Nat) (st : BSt) (x1 : Int32) : Option (Unit ⊕ Nat) := if (x1 : Int32) < 0 then some (.inr 1) else if (x1 : Int32) ≤ 1000000 then some (.inl ()) else some (.inr 1)
def fb_leafFor_18 (n : Nat) : Nat → BSt → Int32 → Int32 → Int32 → Int32 → Int32 → Option Int32
  | 0, _, _, _, _, _, _ => none
  | k + 1, st, x1, x2, x3, x4, x5 => if (x3 : Int32) ≤ x5 then some x4 else (fb_pageOf n st x1 x5).bind fun r1 => (fb_firstKey n st r1).bind fun r3 => if (0 : Int32) < (lg_cmp r3 x2.toInt64) then fb_leafFor_18 n k st x1 x2 x3 x4 (x5 + 1) else fb_leafFor_18 n k st x1 x2 x3 x5 (x5 + 1)
def fb_leafFor (n : Nat) (st : BSt) (x1 : Int32) (x2 : Int32) : Option Int32 := (fb_leavesOf n st x1).bind fun r1 => if (r1 : Int32) = 0 then some (-1) else fb_leafFor_18 n n st x1 x2 r1 0 1
def fb_loadDraft_28 (n : Nat) : Nat → BSt → Int32 → Int32 → Int32 → Option BSt
  | 0, _, _, _, _ => none
  | k + 1, st, x3, x4, x5 => if (x4 : Int32) ≤ x5 then some (bs_put_draftCount x4 st) else (fb_entryAt n x3 x5).bind fun r1 => (rdL (bs_pages st) (16 * bs_P st) r1).bind fun r3 => (wrL (bs_draftKeys st) 8 x5 r3).bind fun a4 => (fb_entryAt n x3 x5).bind fun r5 => (rdL (bs_pages st) (16 * bs_P st) (r5 + 1)).bind fun r7 => (wrL (bs_draftValues st) 8 x5 r7).bind fun a8 => fb_loadDraft_28 n k (bs_put_draftValues a8 (bs_put_draftKeys a4 st)) x3 x4 (x5 + 1)
def fb_loadDraft (n : Nat) (st : BSt) (x1 : Int32) (x2 : Int32) : Option BSt := if (x2 : Int32) = (-1) then some (bs_put_draftCount 0 st) else (fb_pageOf n (bs_put_draftCount 0 st) x1 x2).bind fun r1 => (fb_entriesOf n (bs_put_draftCount 0 st) r1).bind fun r3 => fb_loadDraft_28 n n (bs_put_draftCount 0 st) r1 r3 0
def fb_placeInDraft_2 (n : Nat) : Nat → BSt → Int32 → Int32 → Option Int32
  | 0, _, _, _ => none
  | k + 1, st, x1, x2 => if ((bs_draftCount st) : Int32) ≤ x2 then some x2 else (rdL (bs_draftKeys st) 8 x2).bind fun r1 => if (0 : Int32) ≤ (lg_cmp r1 x1.toInt64) then some x2 else fb_placeInDraft_2 n k st x1 (x2 + 1)
def fb_placeInDraft (n : Nat) (st : BSt) (x1 : Int32) : Option Int32 := fb_placeInDraft_2 n n st x1 0
def fb_draftHasAt (n : Nat) (st : BSt) (x1 : Int32) (x2 : Int32) : Option Int32 := if ((bs_draftCount st) : Int32) ≤ x1 then some 0 else (rdL (bs_draftKeys st) 8 x1).bind fun r1 => if ((lg_cmp r1 x2.toInt64) : Int32) = 0 then some 1 else some 0
def fb_putInDraft_23 (n : Nat) : Nat → BSt → Int32 → Int64 → Int32 → Int32 → Option BSt
  | 0, _, _, _, _, _ => none
  | k + 1, st, x1, x2, x4, x5 => if (x5 : Int32) ≤ x4 then (wrL (bs_draftKeys st) 8 x4 x1.toInt64).bind fun a1 => (wrL (bs_draftValues st) 8 x4 x2).bind fun a2 => some (bs_put_draftValues a2 (bs_put_draftKeys a1 (bs_put_draftCount ((bs_draftCount st) + 1) st))) else (rdL (bs_draftKeys st) 8 (x5 - 1)).bind fun r3 => (wrL (bs_draftKeys st) 8 x5 r3).bind fun a4 => (rdL (bs_draftValues st) 8 (x5 - 1)).bind fun r5 => (wrL (bs_draftValues st) 8 x5 r5).bind fun a6 => fb_putInDraft_23 n k (bs_put_draftValues a6 (bs_put_draftKeys a4 st)) x1 x2 x4 (x5 + (-1))
def fb_putInDraft (n : Nat) (st : BSt) (x1 : Int32) (x2 : Int64) : Option BSt := (fb_placeInDraft n st x1).bind fun r1 => (fb_draftHasAt n st r1 x1).bind fun r3 => if (r3 : Int32) = 0 then fb_putInDraft_23 n n st x1 x2 r1 (bs_draftCount st) else (wrL (bs_draftKeys st) 8 r1 x1.toInt64).bind fun a5 => (wrL (bs_draftValues st) 8 r1 x2).bind fun a6 => some (bs_put_draftValues a6 (bs_put_draftKeys a5 st))
def fb_pagesOf_12 (n : Nat) : Nat → BSt → Int32 → Int64 → Int32 → Int32 → Option Int64
  | 0, _, _, _, _, _ => none
  | k + 1, st, x1, x2, x4, x5 => if (x4 : Int32) ≤ x5 then some x2 else (fb_pageOf n st x1 x5).bind fun r1 => fb_pagesOf_12 n k st x1 (x2 ||| ((1 : Int64) <<< (r1.toInt64 &&& 63))) x4 (x5 + 1)
def fb_pagesOf (n : Nat) (st : BSt) (x1 : Int32) : Option Int64 := (fb_leavesOf n st x1).bind fun r1 => fb_pagesOf_12 n n st x1 0 r1 0
def fb_heldPages_4 (n : Nat) : Nat → BSt → Int64 → Int32 → Option Int64
  | 0, _, _, _ => none
  | k + 1, st, x1, x3 => if (8 : Int32) ≤ x3 then some x1 else (rdL (bs_roots st) 160 (x3 * 20)).bind fun r1 => if (0 : Int32) < (lg_cmp r1 (((bs_newest st)).toInt64)) then fb_heldPages_4 n k st x1 (x3 + 1) else (fb_isSound n st x3).bind fun r2 => if (r2 : Int32) = 0 then fb_heldPages_4 n k st x1 (x3 + 1) else (fb_pagesOf n st x3).bind fun r4 => fb_heldPages_4 n k st (x1 ||| r4) (x3 + 1)
def fb_heldPages (n : Nat) (st : BSt) : Option Int64 := fb_heldPages_4 n n st 0 0
def fb_isIn (n : Nat) (x0 : Int64) (x2 : Int32) : Option Int32 := if ((lg_cmp ((x0.toUInt64 >>> (x2.toInt64.toUInt64 &&& Int64.toUInt64 63)).toInt64 &&& 1) 0) : Int32) = 0 then some 0 else some 1
def fb_pageNotIn_3 (n : Nat) : Nat → BSt → Int64 → Int32 → Option Int32
  | 0, _, _, _ => none
  | k + 1, st, x1, x4 => if ((nI (bs_P st)) : Int32) ≤ x4 then some (-1) else (fb_isIn n x1 x4).bind fun r1 => if (r1 : Int32) = 0 then some x4 else fb_pageNotIn_3 n k st x1 (x4 + 1)
def fb_pageNotIn (n : Nat) (st : BSt) (x1 : Int64) (x3 : Int32) : Option Int32 := fb_pageNotIn_3 n n st x1 x3
def fb_saveWordsBefore_2 (n : Nat) : Nat → BSt → Int32 → Option BSt
  | 0, _, _ => none
  | k + 1, st, x1 => if ((bs_takenCount st) : Int32) ≤ x1 then (cpL (bs_roots st) 160 ((bs_writtenRoot st) * 20) (bs_wordsBefore st) 52 ((bs_takenCount st) * 16) 20).bind fun a1 => some (bs_put_wordsBefore a1 st) else (rdI (bs_takenPages st) 2 x1).bind fun r2 => (cpL (bs_pages st) (16 * bs_P st) (r2 * 16) (bs_wordsBefore st) 52 (x1 * 16) 16).bind fun a3 => fb_saveWordsBefore_2 n k (bs_put_wordsBefore a3 st) (x1 + 1)
def fb_saveWordsBefore (n : Nat) (st : BSt) : Option BSt := fb_saveWordsBefore_2 n n st 0
def fb_writeLeaf_47 (n : Nat) : Nat → BSt → Int32 → Int32 → Int32 → Int32 → Int32 → Option BSt
  | 0, _, _, _, _, _, _ => none
  | k + 1, st, x1, x2, x3, x4, x5 => if (x3 : Int32) ≤ x5 then (fb_sumOf n (bs_pages st) (16 * bs_P st) x4 15).bind fun r1 => (wrL (bs_pages st) (16 * bs_P st) (x4 + 15) r1).bind fun a3 => some (bs_put_pages a3 st) else (fb_entryAt n x1 (x5 - x2)).bind fun r4 => (rdL (bs_draftKeys st) 8 x5).bind fun r6 => (wrL (bs_pages st) (16 * bs_P st) r4 r6).bind fun a7 => (fb_entryAt n x1 (x5 - x2)).bind fun r8 => (rdL (bs_draftValues st) 8 x5).bind fun r10 => (wrL a7 (16 * bs_P st) (r8 + 1) r10).bind fun a11 => fb_writeLeaf_47 n k (bs_put_pages a11 (bs_put_pages a7 st)) x1 x2 x3 x4 (x5 + 1)
def fb_writeLeaf_9 (n : Nat) : Nat → BSt → Int32 → Int32 → Int32 → Int32 → Int32 → Option BSt
  | 0, _, _, _, _, _, _ => none
  | k + 1, st, x1, x2, x3, x4, x5 => if (16 : Int32) ≤ x5 then (wrL (bs_pages st) (16 * bs_P st) x4 (((x3 - x2)).toInt64)).bind fun a1 => fb_writeLeaf_47 n n (bs_put_pages a1 st) x1 x2 x3 x4 x2 else (wrL (bs_pages st) (16 * bs_P st) (x4 + x5) 0).bind fun a2 => fb_writeLeaf_9 n k (bs_put_pages a2 st) x1 x2 x3 x4 (x5 + 1)
def fb_writeLeaf (n : Nat) (st : BSt) (x1 : Int32) (x2 : Int32) (x3 : Int32) : Option BSt := fb_writeLeaf_9 n n st x1 x2 x3 (x1 * 16) 0
def fb_writeLeaves_23 (n : Nat) (st : BSt) : Option BSt := if ((bs_takenCount st) : Int32) = 2 then (rdI (bs_takenPages st) 2 0).bind fun r1 => (fb_writeLeaf n st r1 0 4).bind fun st2 => (rdI (bs_takenPages st2) 2 1).bind fun r4 => (fb_writeLeaf n st2 r4 4 (bs_draftCount st2)).bind fun st5 => some st5 else some st
def fb_writeLeaves (n : Nat) (st : BSt) : Option BSt := if ((bs_takenCount st) : Int32) = 1 then (rdI (bs_takenPages st) 2 0).bind fun r1 => (fb_writeLeaf n st r1 0 (bs_draftCount st)).bind fun st2 => fb_writeLeaves_23 n st2 else fb_writeLeaves_23 n st
def fb_entriesOfRoot (n : Nat) (st : BSt) (x1 : Int32) : Option Int32 := (rdL (bs_roots st) 160 ((x1 * 20) + 18)).bind fun r1 => some r1.toInt32
def fb_writeRoot_143 (n : Nat) : Nat → BSt → Int32 → Int32 → Int32 → Int32 → Int32 → Int32 → Option BSt
  | 0, _, _, _, _, _, _, _ => none
  | k + 1, st, x1, x3, x4, x6, x7, x8 => if (x6 : Int32) ≤ x8 then (wrL (bs_roots st) 160 x3 ((((bs_newest st) + 1)).toInt64)).bind fun a1 => (wrL a1 160 (x3 + 1) x7.toInt64).bind fun a2 => (fb_entriesOfRoot n (bs_put_roots a2 (bs_put_roots a1 st)) x1).bind fun r3 => (wrL a2 160 (x3 + 18) ((((r3 - x4) + (bs_draftCount st))).toInt64)).bind fun a5 => (fb_sumOf n a5 160 x3 19).bind fun r6 => (wrL a5 160 (x3 + 19) r6).bind fun a8 => some (bs_put_roots a8 (bs_put_roots a5 (bs_put_roots a2 (bs_put_roots a1 st)))) else (fb_pageOf n st x1 x8).bind fun r9 => (wrL (bs_roots st) 160 ((x3 + 2) + x7) r9.toInt64).bind fun a11 => fb_writeRoot_143 n k (bs_put_roots a11 st) x1 x3 x4 x6 (x7 + 1) (x8 + 1)
def fb_writeRoot_100 (n : Nat) : Nat → BSt → Int32 → Int32 → Int32 → Int32 → Int32 → Int32 → Int32 → Option BSt
  | 0, _, _, _, _, _, _, _, _ => none
  | k + 1, st, x1, x3, x4, x5, x6, x7, x8 => if ((bs_takenCount st) : Int32) ≤ x8 then fb_writeRoot_143 n n st x1 x3 x4 x6 x7 (x5 + 1) else (rdI (bs_takenPages st) 2 x8).bind fun r1 => (wrL (bs_roots st) 160 ((x3 + 2) + x7) r1.toInt64).bind fun a2 => fb_writeRoot_100 n k (bs_put_roots a2 st) x1 x3 x4 x5 x6 (x7 + 1) (x8 + 1)
def fb_writeRoot_62 (n : Nat) : Nat → BSt → Int32 → Int32 → Int32 → Int32 → Int32 → Int32 → Int32 → Option BSt
  | 0, _, _, _, _, _, _, _, _ => none
  | k + 1, st, x1, x3, x4, x5, x6, x7, x8 => if (x5 : Int32) ≤ x8 then fb_writeRoot_100 n n st x1 x3 x4 x5 x6 x7 0 else (fb_pageOf n st x1 x8).bind fun r1 => (wrL (bs_roots st) 160 ((x3 + 2) + x7) r1.toInt64).bind fun a3 => fb_writeRoot_62 n k (bs_put_roots a3 st) x1 x3 x4 x5 x6 (x7 + 1) (x8 + 1)
def fb_writeRoot_27 (n : Nat) (st : BSt) (x1 : Int32) (x2 : Int32) (x3 : Int32) (y0 : Int32) : Option BSt := if (x2 : Int32) = (-1) then (fb_leavesOf n st x1).bind fun r5 => (fb_clearRoot n st (bs_writtenRoot st)).bind fun st7 => fb_writeRoot_62 n n st7 x1 x3 y0 0 r5 0 0 else (fb_leavesOf n st x1).bind fun r1 => (fb_clearRoot n st (bs_writtenRoot st)).bind fun st3 => fb_writeRoot_62 n n st3 x1 x3 y0 x2 r1 0 0
def fb_writeRoot (n : Nat) (st : BSt) (x1 : Int32) (x2 : Int32) : Option BSt := if (x2 : Int32) = (-1) then fb_writeRoot_27 n st x1 x2 ((bs_writtenRoot st) * 20) 0 else (fb_pageOf n st x1 x2).bind fun r1 => (fb_entriesOf n st r1).bind fun r3 => fb_writeRoot_27 n st x1 x2 ((bs_writtenRoot st) * 20) r3
def fb_act_111 (n : Nat) (st : BSt) (x1 : Int32) (x2 : Int32) (x3 : Int32) (x7 : Int32) (y0 : Int32) : Option ((Int32 ⊕ Nat) × BSt) := if (x7 : Int32) = (-1) then some (.inr 0, st) else if (y0 : Int32) = (-1) then some (.inr 0, st) else (wrI (bs_takenPages st) 2 0 x7).bind fun a1 => (wrI a1 2 1 y0).bind fun a2 => (fb_rootOf n ((bs_newest st) + 1)).bind fun r3 => (fb_saveWordsBefore n (bs_put_writtenRoot r3 (bs_put_takenCount x3 (bs_put_takenPages a2 (bs_put_takenPages a1 st))))).bind fun st5 => (fb_writeLeaves n st5).bind fun st7 => (fb_writeRoot n st7 x1 x2).bind fun st9 => some (.inl ((bs_newest st9) + 1), (bs_put_canBeCut 1 (bs_put_newest ((bs_newest st9) + 1) st9)))
def fb_act_84 (n : Nat) (st : BSt) (x1 : Int32) (x2 : Int32) (x3 : Int32) (x5 : Int64) (y0 : Int32) : Option ((Int32 ⊕ Nat) × BSt) := if (x3 : Int32) ≤ 1 then fb_act_111 n st x1 x2 x3 y0 0 else if (y0 : Int32) = (-1) then fb_act_111 n st x1 x2 x3 y0 0 else (fb_pageNotIn n st x5 (y0 + 1)).bind fun r1 => fb_act_111 n st x1 x2 x3 y0 r1
def fb_act_36 (n : Nat) (st : BSt) (x1 : Int32) (x2 : Int32) (x3 : Int32) (y0 : Int32) : Option ((Int32 ⊕ Nat) × BSt) := (fb_leavesOf n st x1).bind fun r1 => if (((r1 - y0) + x3) : Int32) ≤ 16 then (fb_heldPages n st).bind fun r3 => if (x3 : Int32) ≤ 0 then fb_act_84 n st x1 x2 x3 r3 0 else (fb_pageNotIn n st r3 0).bind fun r5 => fb_act_84 n st x1 x2 x3 r3 r5 else some (.inr 0, st)
def fb_act (n : Nat) (st : BSt) (x1 : Int32) (x2 : Int32) : Option ((Int32 ⊕ Nat) × BSt) := if ((bs_draftCount st) : Int32) ≤ 7 then if ((bs_draftCount st) : Int32) ≤ 0 then if (x2 : Int32) = (-1) then fb_act_36 n st x1 x2 0 0 else fb_act_36 n st x1 x2 0 1 else if (x2 : Int32) = (-1) then fb_act_36 n st x1 x2 1 0 else fb_act_36 n st x1 x2 1 1 else if (x2 : Int32) = (-1) then fb_act_36 n st x1 x2 2 0 else fb_act_36 n st x1 x2 2 1
def fb_put (n : Nat) (st : BSt) (x1 : Int32) (x2 : Int64) : Option ((Int32 ⊕ Nat) × BSt) := thnS st (fb_requireWritable n st) fun _ => thnS st (fb_requireKey n st x1) fun _ => (fb_rootOf n (bs_newest st)).bind fun r5 => (fb_leafFor n st r5 x1).bind fun r7 => (fb_loadDraft n st r5 r7).bind fun st9 => (fb_putInDraft n st9 x1 x2).bind fun st11 => thnM (fb_act n st11 r5 r7) fun r13 st14 => some (.inl r13, st14)
def fb_dropFromDraft_29 (n : Nat) : Nat → BSt → Int32 → Option (Int32 × BSt)
  | 0, _, _ => none
  | k + 1, st, x3 => if ((bs_draftCount st) : Int32) ≤ x3 then some (1, st) else (rdL (bs_draftKeys st) 8 (x3 + 1)).bind fun r1 => (wrL (bs_draftKeys st) 8 x3 r1).bind fun a2 => (rdL (bs_draftValues st) 8 (x3 + 1)).bind fun r3 => (wrL (bs_draftValues st) 8 x3 r3).bind fun a4 => fb_dropFromDraft_29 n k (bs_put_draftValues a4 (bs_put_draftKeys a2 st)) (x3 + 1)
def fb_dropFromDraft (n : Nat) (st : BSt) (x1 : Int32) : Option (Int32 × BSt) := (fb_placeInDraft n st x1).bind fun r1 => (fb_draftHasAt n st r1 x1).bind fun r3 => if (r3 : Int32) = 0 then some (0, st) else fb_dropFromDraft_29 n n (bs_put_draftCount ((bs_draftCount st) - 1) st) r1
def fb_drop (n : Nat) (st : BSt) (x1 : Int32) : Option ((Int32 ⊕ Nat) × BSt) := thnS st (fb_requireWritable n st) fun _ => thnS st (fb_requireKey n st x1) fun _ => (fb_rootOf n (bs_newest st)).bind fun r5 => (fb_leafFor n st r5 x1).bind fun r7 => (fb_loadDraft n st r5 r7).bind fun st9 => (fb_dropFromDraft n st9 x1).bind fun (r11, st12) => if (r11 : Int32) = 0 then some (.inl 0, st12) else thnM (fb_act n st12 r5 r7) fun r14 st15 => some (.inl r14, st15)
def fb_version (n : Nat) (st : BSt) : Option (Int32 ⊕ Nat) := thn (fb_requireOpen n st) fun _ => some (.inl (bs_newest st))
def fb_requireKept (n : Nat) (st : BSt) (x1 : Int32) : Option (Unit ⊕ Nat) := (fb_isKept n st x1).bind fun r1 => if (r1 : Int32) = 0 then some (.inr 2) else some (.inl ())
def fb_entryWithKey_33 (n : Nat) : Nat → BSt → Int32 → Int32 → Int32 → Int32 → Option Int32
  | 0, _, _, _, _, _ => none
  | k + 1, st, x2, x4, x5, x6 => if (x5 : Int32) ≤ x6 then some (-1) else (fb_entryAt n x4 x6).bind fun r1 => (rdL (bs_pages st) (16 * bs_P st) r1).bind fun r3 => if ((lg_cmp r3 x2.toInt64) : Int32) = 0 then (fb_entryAt n x4 x6).bind fun r4 => some r4 else fb_entryWithKey_33 n k st x2 x4 x5 (x6 + 1)
def fb_entryWithKey (n : Nat) (st : BSt) (x1 : Int32) (x2 : Int32) : Option Int32 := (fb_leafFor n st x1 x2).bind fun r1 => if (r1 : Int32) = (-1) then some (-1) else (fb_pageOf n st x1 r1).bind fun r3 => (fb_entriesOf n st r3).bind fun r5 => fb_entryWithKey_33 n n st x2 r3 r5 0
def fb_has (n : Nat) (st : BSt) (x1 : Int32) (x2 : Int32) : Option (Int32 ⊕ Nat) := thn (fb_requireOpen n st) fun _ => thn (fb_requireKept n st x1) fun _ => (fb_rootOf n x1).bind fun r5 => (fb_entryWithKey n st r5 x2).bind fun r7 => if (r7 : Int32) = (-1) then some (.inl 0) else some (.inl 1)
def fb_find (n : Nat) (st : BSt) (x1 : Int32) (x2 : Int32) : Option (Int64 ⊕ Nat) := thn (fb_requireOpen n st) fun _ => thn (fb_requireKept n st x1) fun _ => (fb_rootOf n x1).bind fun r5 => (fb_entryWithKey n st r5 x2).bind fun r7 => if (r7 : Int32) = (-1) then some (.inl 0) else (rdL (bs_pages st) (16 * bs_P st) (r7 + 1)).bind fun r9 => some (.inl r9)
def fb_count (n : Nat) (st : BSt) (x1 : Int32) (x2 : Int32) : Option (Int32 ⊕ Nat) := thn (fb_requireOpen n st) fun _ => thn (fb_requireKept n st x1) fun _ => if (x2 : Int32) = 0 then (fb_rootOf n x1).bind fun r5 => if (x2 : Int32) = 0 then (fb_entriesOfRoot n st r5).bind fun r9 => some (.inl r9) else (fb_leavesOf n st r5).bind fun r7 => some (.inl r7) else if (x2 : Int32) = 1 then (fb_rootOf n x1).bind fun r11 => if (x2 : Int32) = 0 then (fb_entriesOfRoot n st r11).bind fun r15 => some (.inl r15) else (fb_leavesOf n st r11).bind fun r13 => some (.inl r13) else some (.inr 1)
def fb_entryByNumber_18 (n : Nat) : Nat → BSt → Int32 → Int32 → Int32 → Int32 → Option Int32
  | 0, _, _, _, _, _ => none
  | k + 1, st, x1, x3, x4, x5 => if (x4 : Int32) ≤ x5 then some (-1) else (fb_pageOf n st x1 x5).bind fun r1 => (fb_entriesOf n st r1).bind fun r3 => if (r3 : Int32) ≤ x3 then fb_entryByNumber_18 n k st x1 (x3 - r3) x4 (x5 + 1) else (fb_entryAt n r1 x3).bind fun r5 => some r5
def fb_entryByNumber (n : Nat) (st : BSt) (x1 : Int32) (x2 : Int32) : Option Int32 := if (0 : Int32) ≤ x2 then (fb_leavesOf n st x1).bind fun r1 => fb_entryByNumber_18 n n st x1 x2 r1 0 else some (-1)
def fb_key (n : Nat) (st : BSt) (x1 : Int32) (x2 : Int32) : Option (Int32 ⊕ Nat) := thn (fb_requireOpen n st) fun _ => thn (fb_requireKept n st x1) fun _ => (fb_rootOf n x1).bind fun r5 => (fb_entryByNumber n st r5 x2).bind fun r7 => if (r7 : Int32) = (-1) then some (.inr 2) else (rdL (bs_pages st) (16 * bs_P st) r7).bind fun r9 => some (.inl r9.toInt32)
def fb_haveSameEntries_20 (n : Nat) : Nat → BSt → Int32 → Int32 → Int32 → Int32 → Option Int32
  | 0, _, _, _, _, _ => none
  | k + 1, st, x1, x2, x3, x4 => if (x3 : Int32) ≤ x4 then some 1 else (fb_entryByNumber n st x1 x4).bind fun r1 => (fb_entryByNumber n st x2 x4).bind fun r3 => if (r1 : Int32) = (-1) then some 0 else if (r3 : Int32) = (-1) then some 0 else (rdL (bs_pages st) (16 * bs_P st) r1).bind fun r5 => (rdL (bs_pages st) (16 * bs_P st) r3).bind fun r6 => if ((lg_cmp r5 r6) : Int32) = 0 then (rdL (bs_pages st) (16 * bs_P st) (r1 + 1)).bind fun r7 => (rdL (bs_pages st) (16 * bs_P st) (r3 + 1)).bind fun r8 => if ((lg_cmp r7 r8) : Int32) = 0 then fb_haveSameEntries_20 n k st x1 x2 x3 (x4 + 1) else some 0 else some 0
def fb_haveSameEntries (n : Nat) (st : BSt) (x1 : Int32) (x2 : Int32) : Option Int32 := (fb_entriesOfRoot n st x1).bind fun r1 => (fb_entriesOfRoot n st x2).bind fun r3 => if (r1 : Int32) = r3 then fb_haveSameEntries_20 n n st x1 x2 r1 0 else some 0
def fb_same (n : Nat) (st : BSt) (x1 : Int32) (x2 : Int32) : Option (Int32 ⊕ Nat) := thn (fb_requireOpen n st) fun _ => thn (fb_requireKept n st x1) fun _ => thn (fb_requireKept n st x2) fun _ => (fb_rootOf n x1).bind fun r7 => (fb_rootOf n x2).bind fun r9 => (fb_haveSameEntries n st r7 r9).bind fun r11 => (zb r11).bind fun _ => some (.inl r11)
def fb_free (n : Nat) (st : BSt) : Option (Int32 ⊕ Nat) := thn (fb_requireOpen n st) fun _ => (fb_heldPages n st).bind fun r3 => (fj_bitCount n r3).bind fun r5 => some (.inl ((nI (bs_P st)) - r5))
def fb_writtenWords (n : Nat) (st : BSt) : Option Int32 := some (((bs_takenCount st) * 16) + 20)
def fb_restoreFrom_16 (n : Nat) : Nat → BSt → Int32 → Int32 → Int32 → Option BSt
  | 0, _, _, _, _ => none
  | k + 1, st, x2, x3, x4 => if (x3 : Int32) ≤ x4 then some st else if (x2 : Int32) ≤ x4 then (rdL (bs_wordsBefore st) 52 x4).bind fun r1 => (wrL (bs_roots st) 160 ((((bs_writtenRoot st) * 20) + x4) - x2) r1).bind fun a2 => fb_restoreFrom_16 n k (bs_put_roots a2 st) x2 x3 (x4 + 1) else (rdI (bs_takenPages st) 2 (x4 / 16)).bind fun r3 => (rdL (bs_wordsBefore st) 52 x4).bind fun r4 => (wrL (bs_pages st) (16 * bs_P st) ((r3 * 16) + (x4 - x4 / 16 * 16)) r4).bind fun a5 => fb_restoreFrom_16 n k (bs_put_pages a5 st) x2 x3 (x4 + 1)
def fb_restoreFrom (n : Nat) (st : BSt) (x1 : Int32) : Option BSt := (fb_writtenWords n st).bind fun r1 => fb_restoreFrom_16 n n st ((bs_takenCount st) * 16) r1 x1
def fb_crash (n : Nat) (st : BSt) (x1 : Int32) : Option ((Int32 ⊕ Nat) × BSt) := thnS st (fb_requireOpen n st) fun _ => if ((bs_canBeCut st) : Int32) = 0 then some (.inr 0, st) else if (0 : Int32) ≤ x1 then (fb_restoreFrom n st x1).bind fun st3 => (fb_writtenWords n (bs_put_closed 1 st3)).bind fun r5 => some (.inl r5, (bs_put_closed 1 st3)) else some (.inr 1, st)
def fb_greatestWhole_6 (n : Nat) : Nat → BSt → Int64 → Int32 → Option Int32
  | 0, _, _, _ => none
  | k + 1, st, x1, x3 => if (8 : Int32) ≤ x3 then some x1.toInt32 else (rdL (bs_roots st) 160 (x3 * 20)).bind fun r1 => if ((lg_cmp r1 x1) : Int32) ≤ 0 then if (0 : Int32) = 0 then fb_greatestWhole_6 n k st x1 (x3 + 1) else (fb_rootOf n r1.toInt32).bind fun r2 => if (r2 : Int32) = x3 then (fb_isRightRoot n st x3).bind fun r4 => if (r4 : Int32) = 0 then fb_greatestWhole_6 n k st x1 (x3 + 1) else fb_greatestWhole_6 n k st r1 (x3 + 1) else fb_greatestWhole_6 n k st x1 (x3 + 1) else if (0 : Int32) < (lg_cmp r1 1000000000) then if (0 : Int32) = 0 then fb_greatestWhole_6 n k st x1 (x3 + 1) else (fb_rootOf n r1.toInt32).bind fun r6 => if (r6 : Int32) = x3 then (fb_isRightRoot n st x3).bind fun r8 => if (r8 : Int32) = 0 then fb_greatestWhole_6 n k st x1 (x3 + 1) else fb_greatestWhole_6 n k st r1 (x3 + 1) else fb_greatestWhole_6 n k st x1 (x3 + 1) else if (1 : Int32) = 0 then fb_greatestWhole_6 n k st x1 (x3 + 1) else (fb_rootOf n r1.toInt32).bind fun r10 => if (r10 : Int32) = x3 then (fb_isRightRoot n st x3).bind fun r12 => if (r12 : Int32) = 0 then fb_greatestWhole_6 n k st x1 (x3 + 1) else fb_greatestWhole_6 n k st r1 (x3 + 1) else fb_greatestWhole_6 n k st x1 (x3 + 1)
def fb_greatestWhole (n : Nat) (st : BSt) : Option Int32 := fb_greatestWhole_6 n n st (-1) 0
def fb_reopen (n : Nat) (st : BSt) : Option (Int32 × BSt) := (fb_greatestWhole n st).bind fun r1 => if (r1 : Int32) = (-1) then (fb_makeRootZeroAnew n st).bind fun st3 => some (0, (bs_put_canBeCut 0 (bs_put_closed 0 (bs_put_newest 0 st3)))) else some (r1, (bs_put_canBeCut 0 (bs_put_closed 0 (bs_put_newest r1 st))))
def fb_requirePageWord (n : Nat) (st : BSt) (x1 : Int32) (x2 : Int32) : Option (Unit ⊕ Nat) := if (x1 : Int32) < 0 then some (.inr 2) else if ((nI (bs_P st)) : Int32) ≤ x1 then some (.inr 2) else if (x2 : Int32) < 0 then some (.inr 2) else if (x2 : Int32) < 16 then some (.inl ()) else some (.inr 2)
def fb_wordAt (n : Nat) (st : BSt) (x1 : Int32) (x2 : Int32) : Option (Int64 ⊕ Nat) := thn (fb_requirePageWord n st x1 x2) fun _ => (rdL (bs_pages st) (16 * bs_P st) ((x1 * 16) + x2)).bind fun r3 => some (.inl r3)
def fb_requireRootWord (n : Nat) (st : BSt) (x1 : Int32) (x2 : Int32) : Option (Unit ⊕ Nat) := if (x1 : Int32) < 0 then some (.inr 2) else if (8 : Int32) ≤ x1 then some (.inr 2) else if (x2 : Int32) < 0 then some (.inr 2) else if (x2 : Int32) < 20 then some (.inl ()) else some (.inr 2)
def fb_rootAt (n : Nat) (st : BSt) (x1 : Int32) (x2 : Int32) : Option (Int64 ⊕ Nat) := thn (fb_requireRootWord n st x1 x2) fun _ => (rdL (bs_roots st) 160 ((x1 * 20) + x2)).bind fun r3 => some (.inl r3)
def fb_requireMask (n : Nat) (st : BSt) (x1 : Int64) : Option (Unit ⊕ Nat) := if ((lg_cmp x1 0) : Int32) = 0 then some (.inr 1) else some (.inl ())
def fb_poke (n : Nat) (st : BSt) (x1 : Int32) (x2 : Int32) (x3 : Int64) : Option ((Unit ⊕ Nat) × BSt) := thnS st (fb_requirePageWord n st x1 x2) fun _ => thnS st (fb_requireMask n st x3) fun _ => (rdL (bs_pages st) (16 * bs_P st) ((x1 * 16) + x2)).bind fun r5 => (wrL (bs_pages st) (16 * bs_P st) ((x1 * 16) + x2) (r5 ^^^ x3)).bind fun a6 => some (.inl (), (bs_put_canBeCut 0 (bs_put_pages a6 st)))
def fb_pokeRoot (n : Nat) (st : BSt) (x1 : Int32) (x2 : Int32) (x3 : Int64) : Option ((Unit ⊕ Nat) × BSt) := thnS st (fb_requireRootWord n st x1 x2) fun _ => thnS st (fb_requireMask n st x3) fun _ => (rdL (bs_roots st) 160 ((x1 * 20) + x2)).bind fun r5 => (wrL (bs_roots st) 160 ((x1 * 20) + x2) (r5 ^^^ x3)).bind fun a6 => some (.inl (), (bs_put_canBeCut 0 (bs_put_roots a6 st)))
def fb_isBlankRoot_7 (n : Nat) : Nat → BSt → Int32 → Int32 → Option Int32
  | 0, _, _, _ => none
  | k + 1, st, x2, x3 => if (19 : Int32) ≤ x3 then some 1 else (rdL (bs_roots st) 160 (x2 + x3)).bind fun r1 => if ((lg_cmp r1 0) : Int32) = 0 then fb_isBlankRoot_7 n k st x2 (x3 + 1) else some 0
def fb_isBlankRoot (n : Nat) (st : BSt) (x1 : Int32) : Option Int32 := fb_isBlankRoot_7 n n st (x1 * 20) 0
def fb_badAt_41 (n : Nat) : Nat → BSt → Int32 → Option Int32
  | 0, _, _ => none
  | k + 1, st, x3 => if (8 : Int32) ≤ x3 then some (-1) else (fb_isBlankRoot n st x3).bind fun r1 => if (r1 : Int32) = 0 then (fb_hasRootSum n st x3).bind fun r3 => if (r3 : Int32) = 0 then some (100 + x3) else fb_badAt_41 n k st (x3 + 1) else fb_badAt_41 n k st (x3 + 1)
def fb_badAt_7 (n : Nat) : Nat → BSt → Int64 → Int32 → Option Int32
  | 0, _, _, _ => none
  | k + 1, st, x1, x3 => if ((nI (bs_P st)) : Int32) ≤ x3 then fb_badAt_41 n n st 0 else (fb_isIn n x1 x3).bind fun r1 => if (r1 : Int32) = 0 then fb_badAt_7 n k st x1 (x3 + 1) else (fb_isRightPage n st x3).bind fun r3 => if (r3 : Int32) = 0 then some x3 else fb_badAt_7 n k st x1 (x3 + 1)
def fb_badAt (n : Nat) (st : BSt) : Option Int32 := (fb_heldPages n st).bind fun r1 => fb_badAt_7 n n st r1 0
end
section
set_option maxRecDepth 100000 in
set_option maxHeartbeats 4000000 in
theorem wj_floorMod_0 {p : Program} {l : Launch} {e : Env} {s : State} {m : MethodId} {args : Array Value} {below : List Frame} {meth : Method} {c : Code} (hX : p.tables.exec = Jvm.exec ∧ c.code = kj_floorMod ∧ c.maxLocals = 3 ∧ meth.sig.returnType = some .int ∧ meth.locks = false ∧ s.vm.findClass "java/lang/Math" = some m.cls ∧ (∀ w ∈ lw_g, w.before args s = true) ∧ l.flags = flags0) (n : Nat) : ∀ (x0 : Int32) (x1 : Int32) {r : Int32} (ls : Array Slot), lv_has ls 3 [(0, .int x0), (1, .int x1)] → fj_floorMod n x0 x1 = some r → W p l e rmj_floorMod s m args below meth c s.heap [] 0 0 (MQX below (xx_Q (XI r)) args s 0 0 (fun _ => False)) (F0 m 0 ls []) := by
  obtain ⟨hx, hb, hml, hr, hlk, hown, hts, hfl⟩ := id hX
  intro x0 x1 r ls hl hf
  rw [fj_floorMod] at hf
  refine lv_iload_n hx hb dj_floorMod_0 rfl (lv_at hl 0 rfl) ?_
  refine lv_iload_n hx hb dj_floorMod_1 rfl (lv_at hl 1 rfl) ?_
  have z1 : ¬ (x1 : Int32) = 0 := fun h => by have hf := ifp h hf; cases hf
  have hf := ifn z1 hf
  refine lv_irem hx hb dj_floorMod_2 z1 ?_
  refine lv_istore_n (lv' := [(2, .int (x0 - x0 / x1 * x1)), (0, .int x0), (1, .int x1)]) hx hb dj_floorMod_3 rfl hl (by decide) rfl (fun ls hl => ?_)
  refine lv_iload_n hx hb dj_floorMod_4 rfl (lv_at hl 1 rfl) ?_
  refine lv_iload_n hx hb dj_floorMod_5 rfl (lv_at hl 2 rfl) ?_
  refine lv_ixor hx hb dj_floorMod_6 ?_
  refine lv_if_ge (tgt := 18) hx hb dj_floorMod_7 (by decide) (fun c2 => ?_) (fun c2 => ?_)
  · have hf := ifp c2 hf
    refine lv_iload_n hx hb dj_floorMod_18 rfl (lv_at hl 0 rfl) ?_
    cases hf
    exact er_i hx hb hr hlk dj_floorMod_19
  · have hf := ifn c2 hf
    refine lv_iload_n hx hb dj_floorMod_10 rfl (lv_at hl 0 rfl) ?_
    refine lv_if_eq (tgt := 18) hx hb dj_floorMod_11 (by decide) (fun c3 => ?_) (fun c3 => ?_)
    · have hf := ifp c3 hf
      refine lv_iload_n hx hb dj_floorMod_18 rfl (lv_at hl 0 rfl) ?_
      cases hf
      exact er_i hx hb hr hlk dj_floorMod_19
    · have hf := ifn c3 hf
      refine lv_iload_n hx hb dj_floorMod_14 rfl (lv_at hl 0 rfl) ?_
      refine lv_iload_n hx hb dj_floorMod_15 rfl (lv_at hl 2 rfl) ?_
      refine lv_iadd hx hb dj_floorMod_16 ?_
      cases hf
      exact er_i hx hb hr hlk dj_floorMod_17
set_option maxRecDepth 100000 in
set_option maxHeartbeats 4000000 in
theorem cj_floorMod {l : Launch} (hfl : l.flags = flags0) {n : Nat} {x0 : Int32} {x1 : Int32} {r : Int32} (hf : fj_floorMod n x0 x1 = some r) : SM l yj_floorMod rmj_floorMod [.int x0, .int x1] (XI r) :=
  SM.of hfl (by decide +kernel) rfl mcj_floorMod (fun p e s m below meth c h1 h2 h3 h4 h5 h6 h7 => wj_floorMod_0 ⟨h1, h2, h3, h4, h5, h6, h7, hfl⟩ n _ _ _ (lv_entry _ (Nat.le_of_ble_eq_true rfl)) hf)
set_option maxRecDepth 100000 in
set_option maxHeartbeats 4000000 in
theorem wj_max_0 {p : Program} {l : Launch} {e : Env} {s : State} {m : MethodId} {args : Array Value} {below : List Frame} {meth : Method} {c : Code} (hX : p.tables.exec = Jvm.exec ∧ c.code = kj_max ∧ c.maxLocals = 2 ∧ meth.sig.returnType = some .int ∧ meth.locks = false ∧ s.vm.findClass "java/lang/Math" = some m.cls ∧ (∀ w ∈ lw_g, w.before args s = true) ∧ l.flags = flags0) (n : Nat) : ∀ (x0 : Int32) (x1 : Int32) {r : Int32} (ls : Array Slot), lv_has ls 2 [(0, .int x0), (1, .int x1)] → fj_max n x0 x1 = some r → W p l e rmj_max s m args below meth c s.heap [] 0 0 (MQX below (xx_Q (XI r)) args s 0 0 (fun _ => False)) (F0 m 0 ls []) := by
  obtain ⟨hx, hb, hml, hr, hlk, hown, hts, hfl⟩ := id hX
  intro x0 x1 r ls hl hf
  rw [fj_max] at hf
  refine lv_iload_n hx hb dj_max_0 rfl (lv_at hl 0 rfl) ?_
  refine lv_iload_n hx hb dj_max_1 rfl (lv_at hl 1 rfl) ?_
  refine lv_icmp_lt (tgt := 9) hx hb dj_max_2 (by decide) (fun c1 => ?_) (fun c1 => ?_)
  · have hf := ifp c1 hf
    refine lv_iload_n hx hb dj_max_9 rfl (lv_at hl 1 rfl) ?_
    cases hf
    exact er_i hx hb hr hlk dj_max_10
  · have hf := ifn c1 hf
    refine lv_iload_n hx hb dj_max_5 rfl (lv_at hl 0 rfl) ?_
    refine lv_goto (tgt := 10) hx hb dj_max_6 (by decide) ?_
    cases hf
    exact er_i hx hb hr hlk dj_max_10
set_option maxRecDepth 100000 in
set_option maxHeartbeats 4000000 in
theorem cj_max {l : Launch} (hfl : l.flags = flags0) {n : Nat} {x0 : Int32} {x1 : Int32} {r : Int32} (hf : fj_max n x0 x1 = some r) : SM l yj_max rmj_max [.int x0, .int x1] (XI r) :=
  SM.of hfl (by decide +kernel) rfl mcj_max (fun p e s m below meth c h1 h2 h3 h4 h5 h6 h7 => wj_max_0 ⟨h1, h2, h3, h4, h5, h6, h7, hfl⟩ n _ _ _ (lv_entry _ (Nat.le_of_ble_eq_true rfl)) hf)
set_option maxRecDepth 100000 in
set_option maxHeartbeats 4000000 in
theorem wj_min_0 {p : Program} {l : Launch} {e : Env} {s : State} {m : MethodId} {args : Array Value} {below : List Frame} {meth : Method} {c : Code} (hX : p.tables.exec = Jvm.exec ∧ c.code = kj_min ∧ c.maxLocals = 2 ∧ meth.sig.returnType = some .int ∧ meth.locks = false ∧ s.vm.findClass "java/lang/Math" = some m.cls ∧ (∀ w ∈ lw_g, w.before args s = true) ∧ l.flags = flags0) (n : Nat) : ∀ (x0 : Int32) (x1 : Int32) {r : Int32} (ls : Array Slot), lv_has ls 2 [(0, .int x0), (1, .int x1)] → fj_min n x0 x1 = some r → W p l e rmj_min s m args below meth c s.heap [] 0 0 (MQX below (xx_Q (XI r)) args s 0 0 (fun _ => False)) (F0 m 0 ls []) := by
  obtain ⟨hx, hb, hml, hr, hlk, hown, hts, hfl⟩ := id hX
  intro x0 x1 r ls hl hf
  rw [fj_min] at hf
  refine lv_iload_n hx hb dj_min_0 rfl (lv_at hl 0 rfl) ?_
  refine lv_iload_n hx hb dj_min_1 rfl (lv_at hl 1 rfl) ?_
  refine lv_icmp_gt (tgt := 9) hx hb dj_min_2 (by decide) (fun c1 => ?_) (fun c1 => ?_)
  · have hf := ifp c1 hf
    refine lv_iload_n hx hb dj_min_9 rfl (lv_at hl 1 rfl) ?_
    cases hf
    exact er_i hx hb hr hlk dj_min_10
  · have hf := ifn c1 hf
    refine lv_iload_n hx hb dj_min_5 rfl (lv_at hl 0 rfl) ?_
    refine lv_goto (tgt := 10) hx hb dj_min_6 (by decide) ?_
    cases hf
    exact er_i hx hb hr hlk dj_min_10
set_option maxRecDepth 100000 in
set_option maxHeartbeats 4000000 in
theorem cj_min {l : Launch} (hfl : l.flags = flags0) {n : Nat} {x0 : Int32} {x1 : Int32} {r : Int32} (hf : fj_min n x0 x1 = some r) : SM l yj_min rmj_min [.int x0, .int x1] (XI r) :=
  SM.of hfl (by decide +kernel) rfl mcj_min (fun p e s m below meth c h1 h2 h3 h4 h5 h6 h7 => wj_min_0 ⟨h1, h2, h3, h4, h5, h6, h7, hfl⟩ n _ _ _ (lv_entry _ (Nat.le_of_ble_eq_true rfl)) hf)
set_option maxRecDepth 100000 in
set_option maxHeartbeats 4000000 in
theorem wj_bitCount_0 {p : Program} {l : Launch} {e : Env} {s : State} {m : MethodId} {args : Array Value} {below : List Frame} {meth : Method} {c : Code} (hX : p.tables.exec = Jvm.exec ∧ c.code = kj_bitCount ∧ c.maxLocals = 2 ∧ meth.sig.returnType = some .int ∧ meth.locks = false ∧ s.vm.findClass "java/lang/Long" = some m.cls ∧ (∀ w ∈ lw_g, w.before args s = true) ∧ l.flags = flags0) (n : Nat) : ∀ (x0 : Int64) {r : Int32} (ls : Array Slot), lv_has ls 2 [(0, .long x0)] → fj_bitCount n x0 = some r → W p l e rmj_bitCount s m args below meth c s.heap [] 0 0 (MQX below (xx_Q (XI r)) args s 0 0 (fun _ => False)) (F0 m 0 ls []) := by
  obtain ⟨hx, hb, hml, hr, hlk, hown, hts, hfl⟩ := id hX
  intro x0 r ls hl hf
  rw [fj_bitCount] at hf
  refine lv_lload_n hx hb dj_bitCount_0 rfl (lv_at hl 0 rfl) ?_
  refine lv_lload_n hx hb dj_bitCount_1 rfl (lv_at hl 0 rfl) ?_
  refine lv_iconst (v := 1) hx hb dj_bitCount_2 (by decide) ?_
  refine lv_lushr hx hb dj_bitCount_3 rfl ?_
  refine lv_ldc2 (v := 6148914691236517205) hx hb hown (kcj_314 hts) dj_bitCount_4 ?_
  refine lv_land hx hb dj_bitCount_7 ?_
  refine lv_lsub hx hb dj_bitCount_8 ?_
  refine lv_lstore_n (lv' := [(0, .long (x0 - ((x0.toUInt64 >>> ((1 : Int32).toInt64.toUInt64 &&& Int64.toUInt64 63)).toInt64 &&& 6148914691236517205)))]) hx hb dj_bitCount_9 rfl hl (by decide) rfl (fun ls hl => ?_)
  refine lv_lload_n hx hb dj_bitCount_10 rfl (lv_at hl 0 rfl) ?_
  refine lv_ldc2 (v := 3689348814741910323) hx hb hown (kcj_316 hts) dj_bitCount_11 ?_
  refine lv_land hx hb dj_bitCount_14 ?_
  refine lv_lload_n hx hb dj_bitCount_15 rfl (lv_at hl 0 rfl) ?_
  refine lv_iconst (v := 2) hx hb dj_bitCount_16 (by decide) ?_
  refine lv_lushr hx hb dj_bitCount_17 rfl ?_
  refine lv_ldc2 (v := 3689348814741910323) hx hb hown (kcj_316 hts) dj_bitCount_18 ?_
  refine lv_land hx hb dj_bitCount_21 ?_
  refine lv_ladd hx hb dj_bitCount_22 ?_
  refine lv_lstore_n (lv' := [(0, .long (((x0 - ((x0.toUInt64 >>> ((1 : Int32).toInt64.toUInt64 &&& Int64.toUInt64 63)).toInt64 &&& 6148914691236517205)) &&& 3689348814741910323) + (((x0 - ((x0.toUInt64 >>> ((1 : Int32).toInt64.toUInt64 &&& Int64.toUInt64 63)).toInt64 &&& 6148914691236517205)).toUInt64 >>> ((2 : Int32).toInt64.toUInt64 &&& Int64.toUInt64 63)).toInt64 &&& 3689348814741910323)))]) hx hb dj_bitCount_23 rfl hl (by decide) rfl (fun ls hl => ?_)
  refine lv_lload_n hx hb dj_bitCount_24 rfl (lv_at hl 0 rfl) ?_
  refine lv_lload_n hx hb dj_bitCount_25 rfl (lv_at hl 0 rfl) ?_
  refine lv_iconst (v := 4) hx hb dj_bitCount_26 (by decide) ?_
  refine lv_lushr hx hb dj_bitCount_27 rfl ?_
  refine lv_ladd hx hb dj_bitCount_28 ?_
  refine lv_ldc2 (v := 1085102592571150095) hx hb hown (kcj_318 hts) dj_bitCount_29 ?_
  refine lv_land hx hb dj_bitCount_32 ?_
  refine lv_lstore_n (lv' := [(0, .long (((((x0 - ((x0.toUInt64 >>> ((1 : Int32).toInt64.toUInt64 &&& Int64.toUInt64 63)).toInt64 &&& 6148914691236517205)) &&& 3689348814741910323) + (((x0 - ((x0.toUInt64 >>> ((1 : Int32).toInt64.toUInt64 &&& Int64.toUInt64 63)).toInt64 &&& 6148914691236517205)).toUInt64 >>> ((2 : Int32).toInt64.toUInt64 &&& Int64.toUInt64 63)).toInt64 &&& 3689348814741910323)) + ((((x0 - ((x0.toUInt64 >>> ((1 : Int32).toInt64.toUInt64 &&& Int64.toUInt64 63)).toInt64 &&& 6148914691236517205)) &&& 3689348814741910323) + (((x0 - ((x0.toUInt64 >>> ((1 : Int32).toInt64.toUInt64 &&& Int64.toUInt64 63)).toInt64 &&& 6148914691236517205)).toUInt64 >>> ((2 : Int32).toInt64.toUInt64 &&& Int64.toUInt64 63)).toInt64 &&& 3689348814741910323)).toUInt64 >>> ((4 : Int32).toInt64.toUInt64 &&& Int64.toUInt64 63)).toInt64) &&& 1085102592571150095))]) hx hb dj_bitCount_33 rfl hl (by decide) rfl (fun ls hl => ?_)
  refine lv_lload_n hx hb dj_bitCount_34 rfl (lv_at hl 0 rfl) ?_
  refine lv_lload_n hx hb dj_bitCount_35 rfl (lv_at hl 0 rfl) ?_
  refine lv_bipush (v := 8) hx hb dj_bitCount_36 (by decide) ?_
  refine lv_lushr hx hb dj_bitCount_38 rfl ?_
  refine lv_ladd hx hb dj_bitCount_39 ?_
  refine lv_lstore_n (lv' := [(0, .long ((((((x0 - ((x0.toUInt64 >>> ((1 : Int32).toInt64.toUInt64 &&& Int64.toUInt64 63)).toInt64 &&& 6148914691236517205)) &&& 3689348814741910323) + (((x0 - ((x0.toUInt64 >>> ((1 : Int32).toInt64.toUInt64 &&& Int64.toUInt64 63)).toInt64 &&& 6148914691236517205)).toUInt64 >>> ((2 : Int32).toInt64.toUInt64 &&& Int64.toUInt64 63)).toInt64 &&& 3689348814741910323)) + ((((x0 - ((x0.toUInt64 >>> ((1 : Int32).toInt64.toUInt64 &&& Int64.toUInt64 63)).toInt64 &&& 6148914691236517205)) &&& 3689348814741910323) + (((x0 - ((x0.toUInt64 >>> ((1 : Int32).toInt64.toUInt64 &&& Int64.toUInt64 63)).toInt64 &&& 6148914691236517205)).toUInt64 >>> ((2 : Int32).toInt64.toUInt64 &&& Int64.toUInt64 63)).toInt64 &&& 3689348814741910323)).toUInt64 >>> ((4 : Int32).toInt64.toUInt64 &&& Int64.toUInt64 63)).toInt64) &&& 1085102592571150095) + ((((((x0 - ((x0.toUInt64 >>> ((1 : Int32).toInt64.toUInt64 &&& Int64.toUInt64 63)).toInt64 &&& 6148914691236517205)) &&& 3689348814741910323) + (((x0 - ((x0.toUInt64 >>> ((1 : Int32).toInt64.toUInt64 &&& Int64.toUInt64 63)).toInt64 &&& 6148914691236517205)).toUInt64 >>> ((2 : Int32).toInt64.toUInt64 &&& Int64.toUInt64 63)).toInt64 &&& 3689348814741910323)) + ((((x0 - ((x0.toUInt64 >>> ((1 : Int32).toInt64.toUInt64 &&& Int64.toUInt64 63)).toInt64 &&& 6148914691236517205)) &&& 3689348814741910323) + (((x0 - ((x0.toUInt64 >>> ((1 : Int32).toInt64.toUInt64 &&& Int64.toUInt64 63)).toInt64 &&& 6148914691236517205)).toUInt64 >>> ((2 : Int32).toInt64.toUInt64 &&& Int64.toUInt64 63)).toInt64 &&& 3689348814741910323)).toUInt64 >>> ((4 : Int32).toInt64.toUInt64 &&& Int64.toUInt64 63)).toInt64) &&& 1085102592571150095).toUInt64 >>> ((8 : Int32).toInt64.toUInt64 &&& Int64.toUInt64 63)).toInt64))]) hx hb dj_bitCount_40 rfl hl (by decide) rfl (fun ls hl => ?_)
  refine lv_lload_n hx hb dj_bitCount_41 rfl (lv_at hl 0 rfl) ?_
  refine lv_lload_n hx hb dj_bitCount_42 rfl (lv_at hl 0 rfl) ?_
  refine lv_bipush (v := 16) hx hb dj_bitCount_43 (by decide) ?_
  refine lv_lushr hx hb dj_bitCount_45 rfl ?_
  refine lv_ladd hx hb dj_bitCount_46 ?_
  refine lv_lstore_n (lv' := [(0, .long (((((((x0 - ((x0.toUInt64 >>> ((1 : Int32).toInt64.toUInt64 &&& Int64.toUInt64 63)).toInt64 &&& 6148914691236517205)) &&& 3689348814741910323) + (((x0 - ((x0.toUInt64 >>> ((1 : Int32).toInt64.toUInt64 &&& Int64.toUInt64 63)).toInt64 &&& 6148914691236517205)).toUInt64 >>> ((2 : Int32).toInt64.toUInt64 &&& Int64.toUInt64 63)).toInt64 &&& 3689348814741910323)) + ((((x0 - ((x0.toUInt64 >>> ((1 : Int32).toInt64.toUInt64 &&& Int64.toUInt64 63)).toInt64 &&& 6148914691236517205)) &&& 3689348814741910323) + (((x0 - ((x0.toUInt64 >>> ((1 : Int32).toInt64.toUInt64 &&& Int64.toUInt64 63)).toInt64 &&& 6148914691236517205)).toUInt64 >>> ((2 : Int32).toInt64.toUInt64 &&& Int64.toUInt64 63)).toInt64 &&& 3689348814741910323)).toUInt64 >>> ((4 : Int32).toInt64.toUInt64 &&& Int64.toUInt64 63)).toInt64) &&& 1085102592571150095) + ((((((x0 - ((x0.toUInt64 >>> ((1 : Int32).toInt64.toUInt64 &&& Int64.toUInt64 63)).toInt64 &&& 6148914691236517205)) &&& 3689348814741910323) + (((x0 - ((x0.toUInt64 >>> ((1 : Int32).toInt64.toUInt64 &&& Int64.toUInt64 63)).toInt64 &&& 6148914691236517205)).toUInt64 >>> ((2 : Int32).toInt64.toUInt64 &&& Int64.toUInt64 63)).toInt64 &&& 3689348814741910323)) + ((((x0 - ((x0.toUInt64 >>> ((1 : Int32).toInt64.toUInt64 &&& Int64.toUInt64 63)).toInt64 &&& 6148914691236517205)) &&& 3689348814741910323) + (((x0 - ((x0.toUInt64 >>> ((1 : Int32).toInt64.toUInt64 &&& Int64.toUInt64 63)).toInt64 &&& 6148914691236517205)).toUInt64 >>> ((2 : Int32).toInt64.toUInt64 &&& Int64.toUInt64 63)).toInt64 &&& 3689348814741910323)).toUInt64 >>> ((4 : Int32).toInt64.toUInt64 &&& Int64.toUInt64 63)).toInt64) &&& 1085102592571150095).toUInt64 >>> ((8 : Int32).toInt64.toUInt64 &&& Int64.toUInt64 63)).toInt64) + (((((((x0 - ((x0.toUInt64 >>> ((1 : Int32).toInt64.toUInt64 &&& Int64.toUInt64 63)).toInt64 &&& 6148914691236517205)) &&& 3689348814741910323) + (((x0 - ((x0.toUInt64 >>> ((1 : Int32).toInt64.toUInt64 &&& Int64.toUInt64 63)).toInt64 &&& 6148914691236517205)).toUInt64 >>> ((2 : Int32).toInt64.toUInt64 &&& Int64.toUInt64 63)).toInt64 &&& 3689348814741910323)) + ((((x0 - ((x0.toUInt64 >>> ((1 : Int32).toInt64.toUInt64 &&& Int64.toUInt64 63)).toInt64 &&& 6148914691236517205)) &&& 3689348814741910323) + (((x0 - ((x0.toUInt64 >>> ((1 : Int32).toInt64.toUInt64 &&& Int64.toUInt64 63)).toInt64 &&& 6148914691236517205)).toUInt64 >>> ((2 : Int32).toInt64.toUInt64 &&& Int64.toUInt64 63)).toInt64 &&& 3689348814741910323)).toUInt64 >>> ((4 : Int32).toInt64.toUInt64 &&& Int64.toUInt64 63)).toInt64) &&& 1085102592571150095) + ((((((x0 - ((x0.toUInt64 >>> ((1 : Int32).toInt64.toUInt64 &&& Int64.toUInt64 63)).toInt64 &&& 6148914691236517205)) &&& 3689348814741910323) + (((x0 - ((x0.toUInt64 >>> ((1 : Int32).toInt64.toUInt64 &&& Int64.toUInt64 63)).toInt64 &&& 6148914691236517205)).toUInt64 >>> ((2 : Int32).toInt64.toUInt64 &&& Int64.toUInt64 63)).toInt64 &&& 3689348814741910323)) + ((((x0 - ((x0.toUInt64 >>> ((1 : Int32).toInt64.toUInt64 &&& Int64.toUInt64 63)).toInt64 &&& 6148914691236517205)) &&& 3689348814741910323) + (((x0 - ((x0.toUInt64 >>> ((1 : Int32).toInt64.toUInt64 &&& Int64.toUInt64 63)).toInt64 &&& 6148914691236517205)).toUInt64 >>> ((2 : Int32).toInt64.toUInt64 &&& Int64.toUInt64 63)).toInt64 &&& 3689348814741910323)).toUInt64 >>> ((4 : Int32).toInt64.toUInt64 &&& Int64.toUInt64 63)).toInt64) &&& 1085102592571150095).toUInt64 >>> ((8 : Int32).toInt64.toUInt64 &&& Int64.toUInt64 63)).toInt64).toUInt64 >>> ((16 : Int32).toInt64.toUInt64 &&& Int64.toUInt64 63)).toInt64))]) hx hb dj_bitCount_47 rfl hl (by decide) rfl (fun ls hl => ?_)
  refine lv_lload_n hx hb dj_bitCount_48 rfl (lv_at hl 0 rfl) ?_
  refine lv_lload_n hx hb dj_bitCount_49 rfl (lv_at hl 0 rfl) ?_
  refine lv_bipush (v := 32) hx hb dj_bitCount_50 (by decide) ?_
  refine lv_lushr hx hb dj_bitCount_52 rfl ?_
  refine lv_ladd hx hb dj_bitCount_53 ?_
  refine lv_lstore_n (lv' := [(0, .long ((((((((x0 - ((x0.toUInt64 >>> ((1 : Int32).toInt64.toUInt64 &&& Int64.toUInt64 63)).toInt64 &&& 6148914691236517205)) &&& 3689348814741910323) + (((x0 - ((x0.toUInt64 >>> ((1 : Int32).toInt64.toUInt64 &&& Int64.toUInt64 63)).toInt64 &&& 6148914691236517205)).toUInt64 >>> ((2 : Int32).toInt64.toUInt64 &&& Int64.toUInt64 63)).toInt64 &&& 3689348814741910323)) + ((((x0 - ((x0.toUInt64 >>> ((1 : Int32).toInt64.toUInt64 &&& Int64.toUInt64 63)).toInt64 &&& 6148914691236517205)) &&& 3689348814741910323) + (((x0 - ((x0.toUInt64 >>> ((1 : Int32).toInt64.toUInt64 &&& Int64.toUInt64 63)).toInt64 &&& 6148914691236517205)).toUInt64 >>> ((2 : Int32).toInt64.toUInt64 &&& Int64.toUInt64 63)).toInt64 &&& 3689348814741910323)).toUInt64 >>> ((4 : Int32).toInt64.toUInt64 &&& Int64.toUInt64 63)).toInt64) &&& 1085102592571150095) + ((((((x0 - ((x0.toUInt64 >>> ((1 : Int32).toInt64.toUInt64 &&& Int64.toUInt64 63)).toInt64 &&& 6148914691236517205)) &&& 3689348814741910323) + (((x0 - ((x0.toUInt64 >>> ((1 : Int32).toInt64.toUInt64 &&& Int64.toUInt64 63)).toInt64 &&& 6148914691236517205)).toUInt64 >>> ((2 : Int32).toInt64.toUInt64 &&& Int64.toUInt64 63)).toInt64 &&& 3689348814741910323)) + ((((x0 - ((x0.toUInt64 >>> ((1 : Int32).toInt64.toUInt64 &&& Int64.toUInt64 63)).toInt64 &&& 6148914691236517205)) &&& 3689348814741910323) + (((x0 - ((x0.toUInt64 >>> ((1 : Int32).toInt64.toUInt64 &&& Int64.toUInt64 63)).toInt64 &&& 6148914691236517205)).toUInt64 >>> ((2 : Int32).toInt64.toUInt64 &&& Int64.toUInt64 63)).toInt64 &&& 3689348814741910323)).toUInt64 >>> ((4 : Int32).toInt64.toUInt64 &&& Int64.toUInt64 63)).toInt64) &&& 1085102592571150095).toUInt64 >>> ((8 : Int32).toInt64.toUInt64 &&& Int64.toUInt64 63)).toInt64) + (((((((x0 - ((x0.toUInt64 >>> ((1 : Int32).toInt64.toUInt64 &&& Int64.toUInt64 63)).toInt64 &&& 6148914691236517205)) &&& 3689348814741910323) + (((x0 - ((x0.toUInt64 >>> ((1 : Int32).toInt64.toUInt64 &&& Int64.toUInt64 63)).toInt64 &&& 6148914691236517205)).toUInt64 >>> ((2 : Int32).toInt64.toUInt64 &&& Int64.toUInt64 63)).toInt64 &&& 3689348814741910323)) + ((((x0 - ((x0.toUInt64 >>> ((1 : Int32).toInt64.toUInt64 &&& Int64.toUInt64 63)).toInt64 &&& 6148914691236517205)) &&& 3689348814741910323) + (((x0 - ((x0.toUInt64 >>> ((1 : Int32).toInt64.toUInt64 &&& Int64.toUInt64 63)).toInt64 &&& 6148914691236517205)).toUInt64 >>> ((2 : Int32).toInt64.toUInt64 &&& Int64.toUInt64 63)).toInt64 &&& 3689348814741910323)).toUInt64 >>> ((4 : Int32).toInt64.toUInt64 &&& Int64.toUInt64 63)).toInt64) &&& 1085102592571150095) + ((((((x0 - ((x0.toUInt64 >>> ((1 : Int32).toInt64.toUInt64 &&& Int64.toUInt64 63)).toInt64 &&& 6148914691236517205)) &&& 3689348814741910323) + (((x0 - ((x0.toUInt64 >>> ((1 : Int32).toInt64.toUInt64 &&& Int64.toUInt64 63)).toInt64 &&& 6148914691236517205)).toUInt64 >>> ((2 : Int32).toInt64.toUInt64 &&& Int64.toUInt64 63)).toInt64 &&& 3689348814741910323)) + ((((x0 - ((x0.toUInt64 >>> ((1 : Int32).toInt64.toUInt64 &&& Int64.toUInt64 63)).toInt64 &&& 6148914691236517205)) &&& 3689348814741910323) + (((x0 - ((x0.toUInt64 >>> ((1 : Int32).toInt64.toUInt64 &&& Int64.toUInt64 63)).toInt64 &&& 6148914691236517205)).toUInt64 >>> ((2 : Int32).toInt64.toUInt64 &&& Int64.toUInt64 63)).toInt64 &&& 3689348814741910323)).toUInt64 >>> ((4 : Int32).toInt64.toUInt64 &&& Int64.toUInt64 63)).toInt64) &&& 1085102592571150095).toUInt64 >>> ((8 : Int32).toInt64.toUInt64 &&& Int64.toUInt64 63)).toInt64).toUInt64 >>> ((16 : Int32).toInt64.toUInt64 &&& Int64.toUInt64 63)).toInt64) + ((((((((x0 - ((x0.toUInt64 >>> ((1 : Int32).toInt64.toUInt64 &&& Int64.toUInt64 63)).toInt64 &&& 6148914691236517205)) &&& 3689348814741910323) + (((x0 - ((x0.toUInt64 >>> ((1 : Int32).toInt64.toUInt64 &&& Int64.toUInt64 63)).toInt64 &&& 6148914691236517205)).toUInt64 >>> ((2 : Int32).toInt64.toUInt64 &&& Int64.toUInt64 63)).toInt64 &&& 3689348814741910323)) + ((((x0 - ((x0.toUInt64 >>> ((1 : Int32).toInt64.toUInt64 &&& Int64.toUInt64 63)).toInt64 &&& 6148914691236517205)) &&& 3689348814741910323) + (((x0 - ((x0.toUInt64 >>> ((1 : Int32).toInt64.toUInt64 &&& Int64.toUInt64 63)).toInt64 &&& 6148914691236517205)).toUInt64 >>> ((2 : Int32).toInt64.toUInt64 &&& Int64.toUInt64 63)).toInt64 &&& 3689348814741910323)).toUInt64 >>> ((4 : Int32).toInt64.toUInt64 &&& Int64.toUInt64 63)).toInt64) &&& 1085102592571150095) + ((((((x0 - ((x0.toUInt64 >>> ((1 : Int32).toInt64.toUInt64 &&& Int64.toUInt64 63)).toInt64 &&& 6148914691236517205)) &&& 3689348814741910323) + (((x0 - ((x0.toUInt64 >>> ((1 : Int32).toInt64.toUInt64 &&& Int64.toUInt64 63)).toInt64 &&& 6148914691236517205)).toUInt64 >>> ((2 : Int32).toInt64.toUInt64 &&& Int64.toUInt64 63)).toInt64 &&& 3689348814741910323)) + ((((x0 - ((x0.toUInt64 >>> ((1 : Int32).toInt64.toUInt64 &&& Int64.toUInt64 63)).toInt64 &&& 6148914691236517205)) &&& 3689348814741910323) + (((x0 - ((x0.toUInt64 >>> ((1 : Int32).toInt64.toUInt64 &&& Int64.toUInt64 63)).toInt64 &&& 6148914691236517205)).toUInt64 >>> ((2 : Int32).toInt64.toUInt64 &&& Int64.toUInt64 63)).toInt64 &&& 3689348814741910323)).toUInt64 >>> ((4 : Int32).toInt64.toUInt64 &&& Int64.toUInt64 63)).toInt64) &&& 1085102592571150095).toUInt64 >>> ((8 : Int32).toInt64.toUInt64 &&& Int64.toUInt64 63)).toInt64) + (((((((x0 - ((x0.toUInt64 >>> ((1 : Int32).toInt64.toUInt64 &&& Int64.toUInt64 63)).toInt64 &&& 6148914691236517205)) &&& 3689348814741910323) + (((x0 - ((x0.toUInt64 >>> ((1 : Int32).toInt64.toUInt64 &&& Int64.toUInt64 63)).toInt64 &&& 6148914691236517205)).toUInt64 >>> ((2 : Int32).toInt64.toUInt64 &&& Int64.toUInt64 63)).toInt64 &&& 3689348814741910323)) + ((((x0 - ((x0.toUInt64 >>> ((1 : Int32).toInt64.toUInt64 &&& Int64.toUInt64 63)).toInt64 &&& 6148914691236517205)) &&& 3689348814741910323) + (((x0 - ((x0.toUInt64 >>> ((1 : Int32).toInt64.toUInt64 &&& Int64.toUInt64 63)).toInt64 &&& 6148914691236517205)).toUInt64 >>> ((2 : Int32).toInt64.toUInt64 &&& Int64.toUInt64 63)).toInt64 &&& 3689348814741910323)).toUInt64 >>> ((4 : Int32).toInt64.toUInt64 &&& Int64.toUInt64 63)).toInt64) &&& 1085102592571150095) + ((((((x0 - ((x0.toUInt64 >>> ((1 : Int32).toInt64.toUInt64 &&& Int64.toUInt64 63)).toInt64 &&& 6148914691236517205)) &&& 3689348814741910323) + (((x0 - ((x0.toUInt64 >>> ((1 : Int32).toInt64.toUInt64 &&& Int64.toUInt64 63)).toInt64 &&& 6148914691236517205)).toUInt64 >>> ((2 : Int32).toInt64.toUInt64 &&& Int64.toUInt64 63)).toInt64 &&& 3689348814741910323)) + ((((x0 - ((x0.toUInt64 >>> ((1 : Int32).toInt64.toUInt64 &&& Int64.toUInt64 63)).toInt64 &&& 6148914691236517205)) &&& 3689348814741910323) + (((x0 - ((x0.toUInt64 >>> ((1 : Int32).toInt64.toUInt64 &&& Int64.toUInt64 63)).toInt64 &&& 6148914691236517205)).toUInt64 >>> ((2 : Int32).toInt64.toUInt64 &&& Int64.toUInt64 63)).toInt64 &&& 3689348814741910323)).toUInt64 >>> ((4 : Int32).toInt64.toUInt64 &&& Int64.toUInt64 63)).toInt64) &&& 1085102592571150095).toUInt64 >>> ((8 : Int32).toInt64.toUInt64 &&& Int64.toUInt64 63)).toInt64).toUInt64 >>> ((16 : Int32).toInt64.toUInt64 &&& Int64.toUInt64 63)).toInt64).toUInt64 >>> ((32 : Int32).toInt64.toUInt64 &&& Int64.toUInt64 63)).toInt64))]) hx hb dj_bitCount_54 rfl hl (by decide) rfl (fun ls hl => ?_)
  refine lv_lload_n hx hb dj_bitCount_55 rfl (lv_at hl 0 rfl) ?_
  refine lv_l2i hx hb dj_bitCount_56 rfl ?_
  refine lv_bipush (v := 127) hx hb dj_bitCount_57 (by decide) ?_
  refine lv_iand hx hb dj_bitCount_59 ?_
  cases hf
  exact er_i hx hb hr hlk dj_bitCount_60
set_option maxRecDepth 100000 in
set_option maxHeartbeats 4000000 in
theorem cj_bitCount {l : Launch} (hfl : l.flags = flags0) {n : Nat} {x0 : Int64} {r : Int32} (hf : fj_bitCount n x0 = some r) : SM l yj_bitCount rmj_bitCount [.long x0] (XI r) :=
  SM.of hfl (by decide +kernel) rfl mcj_bitCount (fun p e s m below meth c h1 h2 h3 h4 h5 h6 h7 => wj_bitCount_0 ⟨h1, h2, h3, h4, h5, h6, h7, hfl⟩ n _ _ (lv_entry _ (Nat.le_of_ble_eq_true rfl)) hf)
end
section
set_option maxRecDepth 100000 in
set_option maxHeartbeats 4000000 in
theorem wb_clearRoot_7 {p : Program} {l : Launch} {e : Env} {s : State} {m : MethodId} {args : Array Value} {below : List Frame} {meth : Method} {c : Code} {D : va_G} {gm : Nat → Nat} {ca : Nat → ClassId} {A : Nat → Prop} (hX : BX p l e rmb_clearRoot s m args meth c D ca A kb_clearRoot 4 (none)) (n : Nat) :∀ (k : Nat), ∀ (st : BSt) (x2 : Int32) (x3 : Int32) {st' : BSt} (ls : Array Slot) (H : Heap) (locs : List Loc), BWd D gm ca A s.heap st H locs → lv_has ls 4 [(0, .ref (gm 0)), (2, .int x2), (3, .int x3)] → fb_clearRoot_7 n k st x2 x3 = some st' → W p l e rmb_clearRoot s m args below meth c H locs 0 0 (MQX below (mm_Q D gm ca A (XV) st') args s 0 0 A) (F0 m 7 ls []) := by
  obtain ⟨hx, hb, hml, hr, hlk, hown, hts, hK, htr, hZ, hnh, hA, hfl⟩ := id hX
  intro k
  induction k with
  | zero =>
    intro st x2 x3 st' ls H locs hB hl hf
    rw [fb_clearRoot_7] at hf
    cases hf
  | succ k ih =>
    intro st x2 x3 st' ls H locs hB hl hf
    rw [fb_clearRoot_7] at hf
    refine lv_iload_n hx hb db_clearRoot_7 rfl (lv_at hl 2 rfl) ?_
    refine lv_bipush (v := 20) hx hb db_clearRoot_8 (by decide) ?_
    refine lv_icmp_ge (tgt := 28) hx hb db_clearRoot_10 (by decide) (fun c1 => ?_) (fun c1 => ?_)
    · have hf := ifp c1 hf
      cases hf
      exact em_v hx hb hr hlk hB db_clearRoot_28
    · have hf := ifn c1 hf
      refine lv_aload_n hx hb db_clearRoot_13 rfl (lv_at hl 0 rfl) ?_
      refine bg_roots hx hb hown hts hK hB.1 db_clearRoot_14 ?_
      refine lv_iload_n hx hb db_clearRoot_17 rfl (lv_at hl 1 rfl) ?_
      refine lv_iload_n hx hb db_clearRoot_18 rfl (lv_at hl 2 rfl) ?_
      refine lv_iadd hx hb db_clearRoot_19 ?_
      refine lv_lconst (v := 0) hx hb db_clearRoot_20 (by decide) ?_
      obtain ⟨a2, ea2, ia2, hf⟩ := wrL_some hf
      refine bt_roots hx hb hK hB ia2 ea2 db_clearRoot_21 (fun H locs hB => ?_)
      refine lv_iinc (v := (x3 + 1)) (lv' := [(3, .int (x3 + 1)), (0, .ref (gm 0)), (2, .int x2)]) hx hb db_clearRoot_22 hl (k := 2) rfl rfl (by decide) rfl (fun ls hl => ?_)
      refine lv_goto (tgt := 7) hx hb db_clearRoot_25 (by decide) ?_
      exact ih _ _ _ _ _ _ hB (lv_sub hl [1, 2, 0] rfl) hf
set_option maxRecDepth 100000 in
set_option maxHeartbeats 4000000 in
theorem wb_clearRoot_0 {p : Program} {l : Launch} {e : Env} {s : State} {m : MethodId} {args : Array Value} {below : List Frame} {meth : Method} {c : Code} {D : va_G} {gm : Nat → Nat} {ca : Nat → ClassId} {A : Nat → Prop} {st : BSt} (hX : BX p l e rmb_clearRoot s m args meth c D ca A kb_clearRoot 4 (none)) (hB : BWd D gm ca A s.heap st s.heap []) (n : Nat) : ∀ (x1 : Int32) {st' : BSt} (ls : Array Slot), lv_has ls 4 [(0, .ref (gm 0)), (1, .int x1)] → fb_clearRoot n st x1 = some st' → W p l e rmb_clearRoot s m args below meth c s.heap [] 0 0 (MQX below (mm_Q D gm ca A (XV) st') args s 0 0 A) (F0 m 0 ls []) := by
  obtain ⟨hx, hb, hml, hr, hlk, hown, hts, hK, htr, hZ, hnh, hA, hfl⟩ := id hX
  intro x1 st' ls hl hf
  rw [fb_clearRoot] at hf
  refine lv_iload_n hx hb db_clearRoot_0 rfl (lv_at hl 1 rfl) ?_
  refine lv_bipush (v := 20) hx hb db_clearRoot_1 (by decide) ?_
  refine lv_imul hx hb db_clearRoot_3 ?_
  refine lv_istore_n (lv' := [(2, .int (x1 * 20)), (0, .ref (gm 0)), (1, .int x1)]) hx hb db_clearRoot_4 rfl hl (by decide) rfl (fun ls hl => ?_)
  refine lv_iconst (v := 0) hx hb db_clearRoot_5 (by decide) ?_
  refine lv_istore_n (lv' := [(3, .int 0), (2, .int (x1 * 20)), (0, .ref (gm 0)), (1, .int x1)]) hx hb db_clearRoot_6 rfl hl (by decide) rfl (fun ls hl => ?_)
  exact wb_clearRoot_7 hX n n _ _ _ _ _ _ hB (lv_sub hl [2, 1, 0] rfl) hf
set_option maxRecDepth 100000 in
set_option maxHeartbeats 4000000 in
theorem cb_clearRoot {l : Launch} (hfl : l.flags = flags0) {D : va_G} {gm : Nat → Nat} {ca : Nat → ClassId} {st : BSt} {n : Nat} {x1 : Int32} {st' : BSt} (hf : fb_clearRoot n st x1 = some st') : MM l yb_clearRoot rmb_clearRoot D gm ca [.int x1] st (XV) st' :=
  MM.of hfl (by decide +kernel) rfl mcb_clearRoot (fun p e s m below meth c A _ hX hB => wb_clearRoot_0 hX hB n _ _ (lv_entry _ (Nat.le_of_ble_eq_true rfl)) hf)
set_option maxRecDepth 100000 in
set_option maxHeartbeats 4000000 in
theorem wb_sumOf_5 {p : Program} {l : Launch} {e : Env} {s : State} {m : MethodId} {args : Array Value} {below : List Frame} {meth : Method} {c : Code} {D : va_G} {a0 : Nat} {cA : ClassId} {f0 : Nat → Int64} {k0 : Nat} (hX : SX p l e rmb_sumOf s m args meth c D cA kb_sumOf 8 (some .long)) (hP : va_P D vwCl [(a0, .inl (cA, k0, .inr (.inl f0)))] s.heap) (n : Nat) :∀ (k : Nat), ∀ (x1 : Int32) (x2 : Int32) (x3 : Int64) (x5 : Int32) {r : Int64} (ls : Array Slot), lv_has ls 8 [(0, .ref a0), (1, .int x1), (2, .int x2), (3, .long x3), (5, .int x5)] → fb_sumOf_5 n f0 k0 k x1 x2 x3 x5 = some r → W p l e rmb_sumOf s m args below meth c s.heap [] 0 0 (MQX below (xx_Q (XL r)) args s 0 0 (fun _ => False)) (F0 m 5 ls []) := by
  obtain ⟨hx, hb, hml, hr, hlk, hown, hts, hK, hfl⟩ := id hX
  intro k
  induction k with
  | zero =>
    intro x1 x2 x3 x5 r ls hl hf
    rw [fb_sumOf_5] at hf
    cases hf
  | succ k ih =>
    intro x1 x2 x3 x5 r ls hl hf
    rw [fb_sumOf_5] at hf
    refine lv_iload hx hb db_sumOf_5 (lv_at hl 4 rfl) ?_
    refine lv_iload_n hx hb db_sumOf_7 rfl (lv_at hl 1 rfl) ?_
    refine lv_iload_n hx hb db_sumOf_8 rfl (lv_at hl 2 rfl) ?_
    refine lv_iadd hx hb db_sumOf_9 ?_
    refine lv_icmp_ge (tgt := 42) hx hb db_sumOf_10 (by decide) (fun c1 => ?_) (fun c1 => ?_)
    · have hf := ifp c1 hf
      refine lv_lload_n hx hb db_sumOf_42 rfl (lv_at hl 3 rfl) ?_
      refine lv_lconst (v := 1) hx hb db_sumOf_43 (by decide) ?_
      refine lv_lxor hx hb db_sumOf_44 ?_
      cases hf
      exact er_l hx hb hr hlk db_sumOf_45
    · have hf := ifn c1 hf
      refine lv_lload_n hx hb db_sumOf_13 rfl (lv_at hl 3 rfl) ?_
      refine lv_aload_n hx hb db_sumOf_14 rfl (lv_at hl 0 rfl) ?_
      refine lv_iload hx hb db_sumOf_15 (lv_at hl 4 rfl) ?_
      obtain ⟨r2, er2, ir2, hf⟩ := rdL_some hf
      refine ba_ld hx hb hK hP ir2 er2 db_sumOf_17 ?_
      refine lv_lxor hx hb db_sumOf_18 ?_
      refine lv_lstore (lv' := [(6, .long (x3 ^^^ r2)), (0, .ref a0), (1, .int x1), (2, .int x2), (3, .long x3), (5, .int x5)]) hx hb db_sumOf_19 hl (by decide) rfl (fun ls hl => ?_)
      refine lv_lload hx hb db_sumOf_21 (lv_at hl 0 rfl) ?_
      refine lv_iconst (v := 5) hx hb db_sumOf_23 (by decide) ?_
      refine lv_lshl hx hb db_sumOf_24 rfl ?_
      refine lv_lload hx hb db_sumOf_25 (lv_at hl 0 rfl) ?_
      refine lv_bipush (v := 59) hx hb db_sumOf_27 (by decide) ?_
      refine lv_lushr hx hb db_sumOf_29 rfl ?_
      refine lv_lor hx hb db_sumOf_30 ?_
      refine lv_ldc2 (v := (-7046029254386353131)) hx hb hown (kcb_186 hts) db_sumOf_31 ?_
      refine lv_lmul hx hb db_sumOf_34 ?_
      refine lv_lstore_n (lv' := [(3, .long ((((x3 ^^^ r2) <<< ((5 : Int32).toInt64 &&& 63)) ||| ((x3 ^^^ r2).toUInt64 >>> ((59 : Int32).toInt64.toUInt64 &&& Int64.toUInt64 63)).toInt64) * (-7046029254386353131))), (6, .long (x3 ^^^ r2)), (0, .ref a0), (1, .int x1), (2, .int x2), (5, .int x5)]) hx hb db_sumOf_35 rfl hl (by decide) rfl (fun ls hl => ?_)
      refine lv_iinc (v := (x5 + 1)) (lv' := [(5, .int (x5 + 1)), (3, .long ((((x3 ^^^ r2) <<< ((5 : Int32).toInt64 &&& 63)) ||| ((x3 ^^^ r2).toUInt64 >>> ((59 : Int32).toInt64.toUInt64 &&& Int64.toUInt64 63)).toInt64) * (-7046029254386353131))), (6, .long (x3 ^^^ r2)), (0, .ref a0), (1, .int x1), (2, .int x2)]) hx hb db_sumOf_36 hl (k := 5) rfl rfl (by decide) rfl (fun ls hl => ?_)
      refine lv_goto (tgt := 5) hx hb db_sumOf_39 (by decide) ?_
      exact ih _ _ _ _ _ (lv_sub hl [3, 4, 5, 1, 0] rfl) hf
set_option maxRecDepth 100000 in
set_option maxHeartbeats 4000000 in
theorem wb_sumOf_0 {p : Program} {l : Launch} {e : Env} {s : State} {m : MethodId} {args : Array Value} {below : List Frame} {meth : Method} {c : Code} {D : va_G} {a0 : Nat} {cA : ClassId} {f0 : Nat → Int64} {k0 : Nat} (hX : SX p l e rmb_sumOf s m args meth c D cA kb_sumOf 8 (some .long)) (hP : va_P D vwCl [(a0, .inl (cA, k0, .inr (.inl f0)))] s.heap) (n : Nat) : ∀ (x1 : Int32) (x2 : Int32) {r : Int64} (ls : Array Slot), lv_has ls 8 [(0, .ref a0), (1, .int x1), (2, .int x2)] → fb_sumOf n f0 k0 x1 x2 = some r → W p l e rmb_sumOf s m args below meth c s.heap [] 0 0 (MQX below (xx_Q (XL r)) args s 0 0 (fun _ => False)) (F0 m 0 ls []) := by
  obtain ⟨hx, hb, hml, hr, hlk, hown, hts, hK, hfl⟩ := id hX
  intro x1 x2 r ls hl hf
  rw [fb_sumOf] at hf
  refine lv_lconst (v := 0) hx hb db_sumOf_0 (by decide) ?_
  refine lv_lstore_n (lv' := [(3, .long 0), (0, .ref a0), (1, .int x1), (2, .int x2)]) hx hb db_sumOf_1 rfl hl (by decide) rfl (fun ls hl => ?_)
  refine lv_iload_n hx hb db_sumOf_2 rfl (lv_at hl 2 rfl) ?_
  refine lv_istore (lv' := [(5, .int x1), (3, .long 0), (0, .ref a0), (1, .int x1), (2, .int x2)]) hx hb db_sumOf_3 hl (by decide) rfl (fun ls hl => ?_)
  exact wb_sumOf_5 hX hP n n _ _ _ _ _ (lv_sub hl [2, 3, 4, 1, 0] rfl) hf
set_option maxRecDepth 100000 in
set_option maxHeartbeats 4000000 in
theorem cb_sumOf {l : Launch} (hfl : l.flags = flags0) {D : va_G} {a0 : Nat} {cA : ClassId} {f0 : Nat → Int64} {k0 n : Nat} {x1 : Int32} {x2 : Int32} {r : Int64} (hf : fb_sumOf n f0 k0 x1 x2 = some r) : SA l yb_sumOf rmb_sumOf D a0 cA f0 k0 [.int x1, .int x2] (XL r) :=
  SA.of hfl (by decide +kernel) rfl mcb_sumOf (fun p e s m below meth c hX hP => wb_sumOf_0 hX hP n _ _ _ (lv_entry _ (Nat.le_of_ble_eq_true rfl)) hf)
set_option maxRecDepth 100000 in
set_option maxHeartbeats 4000000 in
theorem wb_makeRootZeroAnew_0 {p : Program} {l : Launch} {e : Env} {s : State} {m : MethodId} {args : Array Value} {below : List Frame} {meth : Method} {c : Code} {D : va_G} {gm : Nat → Nat} {ca : Nat → ClassId} {A : Nat → Prop} {st : BSt} (hX : BX p l e rmb_makeRootZeroAnew s m args meth c D ca A kb_makeRootZeroAnew 1 (none)) (hB : BWd D gm ca A s.heap st s.heap []) (n : Nat) : ∀ {st' : BSt} (ls : Array Slot), lv_has ls 1 [(0, .ref (gm 0))] → fb_makeRootZeroAnew n st = some st' → W p l e rmb_makeRootZeroAnew s m args below meth c s.heap [] 0 0 (MQX below (mm_Q D gm ca A (XV) st') args s 0 0 A) (F0 m 0 ls []) := by
  obtain ⟨hx, hb, hml, hr, hlk, hown, hts, hK, htr, hZ, hnh, hA, hfl⟩ := id hX
  intro st' ls hl hf
  rw [fb_makeRootZeroAnew] at hf
  refine lv_aload_n hx hb db_makeRootZeroAnew_0 rfl (lv_at hl 0 rfl) ?_
  refine lv_iconst (v := 0) hx hb db_makeRootZeroAnew_1 (by decide) ?_
  obtain ⟨st1, h2, hf⟩ := obs hf
  refine mmV (cb_clearRoot (l := l) (hfl := hfl) h2) (cw_clearRoot hts ⟨by decide, by decide⟩) hx hb hml hown hts hK hB hZ hA hl.1 rfl rfl (lv_room (Nat.le_of_ble_eq_true rfl)) db_makeRootZeroAnew_2 ⟨by decide, by decide⟩ (fun H locs hB => ?_)
  refine lv_aload_n hx hb db_makeRootZeroAnew_5 rfl (lv_at hl 0 rfl) ?_
  refine bg_roots hx hb hown hts hK hB.1 db_makeRootZeroAnew_6 ?_
  refine lv_bipush (v := 19) hx hb db_makeRootZeroAnew_9 (by decide) ?_
  refine lv_aload_n hx hb db_makeRootZeroAnew_11 rfl (lv_at hl 0 rfl) ?_
  refine bg_roots hx hb hown hts hK hB.1 db_makeRootZeroAnew_12 ?_
  refine lv_iconst (v := 0) hx hb db_makeRootZeroAnew_15 (by decide) ?_
  refine lv_bipush (v := 19) hx hb db_makeRootZeroAnew_16 (by decide) ?_
  obtain ⟨r3, h4, hf⟩ := obs hf
  refine saL (cb_sumOf (l := l) (hfl := hfl) h4) (cw_sumOf hts ⟨by decide, by decide⟩) hx hb hml hown hts hK hB.1 2 1 rfl rfl hl.1 rfl rfl (lv_room (Nat.le_of_ble_eq_true rfl)) db_makeRootZeroAnew_18 ⟨by decide, by decide⟩ ?_
  obtain ⟨a5, ea5, ia5, hf⟩ := wrL_some hf
  refine bt_roots hx hb hK hB ia5 ea5 db_makeRootZeroAnew_21 (fun H locs hB => ?_)
  cases hf
  exact em_v hx hb hr hlk hB db_makeRootZeroAnew_22
set_option maxRecDepth 100000 in
set_option maxHeartbeats 4000000 in
theorem cb_makeRootZeroAnew {l : Launch} (hfl : l.flags = flags0) {D : va_G} {gm : Nat → Nat} {ca : Nat → ClassId} {st : BSt} {n : Nat} {st' : BSt} (hf : fb_makeRootZeroAnew n st = some st') : MM l yb_makeRootZeroAnew rmb_makeRootZeroAnew D gm ca [] st (XV) st' :=
  MM.of hfl (by decide +kernel) rfl mcb_makeRootZeroAnew (fun p e s m below meth c A _ hX hB => wb_makeRootZeroAnew_0 hX hB n _ (lv_entry _ (Nat.le_of_ble_eq_true rfl)) hf)
set_option maxRecDepth 100000 in
set_option maxHeartbeats 4000000 in
theorem wb_requireOpen_0 {p : Program} {l : Launch} {e : Env} {s : State} {m : MethodId} {args : Array Value} {below : List Frame} {meth : Method} {c : Code} {D : va_G} {gm : Nat → Nat} {ca : Nat → ClassId} {A : Nat → Prop} {st : BSt} (hX : BX p l e rmb_requireOpen s m args meth c D ca A kb_requireOpen 1 (none)) (hP : va_P D vwCl (wB gm ca st) s.heap) (n : Nat) : ∀ {r : Unit ⊕ Nat} (ls : Array Slot), lv_has ls 1 [(0, .ref (gm 0))] → fb_requireOpen n st = some r → W p l e rmb_requireOpen s m args below meth c s.heap [] 0 0 (MQX below (xx_Q (xu r)) args s 1 6 (fun _ => False)) (F0 m 0 ls []) := by
  obtain ⟨hx, hb, hml, hr, hlk, hown, hts, hK, htr, hZ, hnh, hA, hfl⟩ := id hX
  intro r ls hl hf
  rw [fb_requireOpen] at hf
  refine lv_aload_n hx hb db_requireOpen_0 rfl (lv_at hl 0 rfl) ?_
  refine bg_closed hx hb hown hts hK hP db_requireOpen_1 ?_
  refine lv_if_eq (tgt := 17) hx hb db_requireOpen_4 (by decide) (fun c1 => ?_) (fun c1 => ?_)
  · have hf := ifp c1 hf
    cases hf
    refine W.widen (k := 1) (n := 6) (by decide) (by decide) ?_
    exact er_v hx hb hr hlk db_requireOpen_17
  · have hf := ifn c1 hf
    cases hf
    exact rt_throw th_0_168 hX hl.1 db_requireOpen_7 db_requireOpen_10 db_requireOpen_11 db_requireOpen_13 db_requireOpen_16 ⟨by decide, by decide⟩ ⟨by decide, by decide⟩
set_option maxRecDepth 100000 in
set_option maxHeartbeats 4000000 in
theorem cb_requireOpen {l : Launch} (hfl : l.flags = flags0) {D : va_G} {gm : Nat → Nat} {ca : Nat → ClassId} {st : BSt} {n : Nat} {r : Unit ⊕ Nat} (hf : fb_requireOpen n st = some r) : RM l yb_requireOpen rmb_requireOpen D gm ca [] st (xu r) :=
  RM.of hfl (by decide +kernel) rfl mcb_requireOpen (fun p e s m below meth c hX hP => wb_requireOpen_0 hX hP n _ (lv_entry _ (Nat.le_of_ble_eq_true rfl)) hf)
set_option maxRecDepth 100000 in
set_option maxHeartbeats 4000000 in
theorem wb_rootOf_0 {p : Program} {l : Launch} {e : Env} {s : State} {m : MethodId} {args : Array Value} {below : List Frame} {meth : Method} {c : Code} (hX : p.tables.exec = Jvm.exec ∧ c.code = kb_rootOf ∧ c.maxLocals = 1 ∧ meth.sig.returnType = some .int ∧ meth.locks = false ∧ s.vm.findClass RB = some m.cls ∧ (∀ w ∈ lw_g, w.before args s = true) ∧ l.flags = flags0) (n : Nat) : ∀ (x0 : Int32) {r : Int32} (ls : Array Slot), lv_has ls 1 [(0, .int x0)] → fb_rootOf n x0 = some r → W p l e rmb_rootOf s m args below meth c s.heap [] 0 0 (MQX below (xx_Q (XI r)) args s 0 0 (fun _ => False)) (F0 m 0 ls []) := by
  obtain ⟨hx, hb, hml, hr, hlk, hown, hts, hfl⟩ := id hX
  intro x0 r ls hl hf
  rw [fb_rootOf] at hf
  refine lv_iload_n hx hb db_rootOf_0 rfl (lv_at hl 0 rfl) ?_
  refine lv_bipush (v := 8) hx hb db_rootOf_1 (by decide) ?_
  obtain ⟨r1, h2, hf⟩ := obs hf
  refine smI (cj_floorMod (l := l) (hfl := hfl) h2) (cw_b_floorMod hts ⟨by decide, by decide⟩) hx hb hml hown hts hl.1 rfl rfl (lv_room (Nat.le_of_ble_eq_true rfl)) db_rootOf_3 ⟨by decide, by decide⟩ ?_
  cases hf
  exact er_i hx hb hr hlk db_rootOf_6
set_option maxRecDepth 100000 in
set_option maxHeartbeats 4000000 in
theorem cb_rootOf {l : Launch} (hfl : l.flags = flags0) {n : Nat} {x0 : Int32} {r : Int32} (hf : fb_rootOf n x0 = some r) : SM l yb_rootOf rmb_rootOf [.int x0] (XI r) :=
  SM.of hfl (by decide +kernel) rfl mcb_rootOf (fun p e s m below meth c h1 h2 h3 h4 h5 h6 h7 => wb_rootOf_0 ⟨h1, h2, h3, h4, h5, h6, h7, hfl⟩ n _ _ (lv_entry _ (Nat.le_of_ble_eq_true rfl)) hf)
set_option maxRecDepth 100000 in
set_option maxHeartbeats 4000000 in
theorem wb_hasRootSum_0 {p : Program} {l : Launch} {e : Env} {s : State} {m : MethodId} {args : Array Value} {below : List Frame} {meth : Method} {c : Code} {D : va_G} {gm : Nat → Nat} {ca : Nat → ClassId} {A : Nat → Prop} {st : BSt} (hX : BX p l e rmb_hasRootSum s m args meth c D ca A kb_hasRootSum 3 (some .boolean)) (hP : va_P D vwCl (wB gm ca st) s.heap) (n : Nat) : ∀ (x1 : Int32) {r : Int32} (ls : Array Slot), lv_has ls 3 [(0, .ref (gm 0)), (1, .int x1)] → fb_hasRootSum n st x1 = some r → W p l e rmb_hasRootSum s m args below meth c s.heap [] 0 0 (MQX below (xx_Q (XI r)) args s 0 0 (fun _ => False)) (F0 m 0 ls []) := by
  obtain ⟨hx, hb, hml, hr, hlk, hown, hts, hK, htr, hZ, hnh, hA, hfl⟩ := id hX
  intro x1 r ls hl hf
  rw [fb_hasRootSum] at hf
  refine lv_iload_n hx hb db_hasRootSum_0 rfl (lv_at hl 1 rfl) ?_
  refine lv_bipush (v := 20) hx hb db_hasRootSum_1 (by decide) ?_
  refine lv_imul hx hb db_hasRootSum_3 ?_
  refine lv_istore_n (lv' := [(2, .int (x1 * 20)), (0, .ref (gm 0)), (1, .int x1)]) hx hb db_hasRootSum_4 rfl hl (by decide) rfl (fun ls hl => ?_)
  refine lv_aload_n hx hb db_hasRootSum_5 rfl (lv_at hl 1 rfl) ?_
  refine bg_roots hx hb hown hts hK hP db_hasRootSum_6 ?_
  refine lv_iload_n hx hb db_hasRootSum_9 rfl (lv_at hl 0 rfl) ?_
  refine lv_bipush (v := 19) hx hb db_hasRootSum_10 (by decide) ?_
  refine lv_iadd hx hb db_hasRootSum_12 ?_
  obtain ⟨r1, er1, ir1, hf⟩ := rdL_some hf
  refine bl_roots hx hb hK hP ir1 er1 db_hasRootSum_13 ?_
  refine lv_aload_n hx hb db_hasRootSum_14 rfl (lv_at hl 1 rfl) ?_
  refine bg_roots hx hb hown hts hK hP db_hasRootSum_15 ?_
  refine lv_iload_n hx hb db_hasRootSum_18 rfl (lv_at hl 0 rfl) ?_
  refine lv_bipush (v := 19) hx hb db_hasRootSum_19 (by decide) ?_
  obtain ⟨r2, h3, hf⟩ := obs hf
  refine saL (cb_sumOf (l := l) (hfl := hfl) h3) (cw_sumOf hts ⟨by decide, by decide⟩) hx hb hml hown hts hK hP 2 1 rfl rfl hl.1 rfl rfl (lv_room (Nat.le_of_ble_eq_true rfl)) db_hasRootSum_21 ⟨by decide, by decide⟩ ?_
  refine W.lcmp hx hb db_hasRootSum_24 ?_
  refine lv_if_ne (tgt := 32) hx hb db_hasRootSum_25 (by decide) (fun c4 => ?_) (fun c4 => ?_)
  · have hf := ifn c4 hf
    refine lv_iconst (v := 0) hx hb db_hasRootSum_32 (by decide) ?_
    cases hf
    exact er_z hx hb hr hlk rfl db_hasRootSum_33
  · have hf := ifp c4 hf
    refine lv_iconst (v := 1) hx hb db_hasRootSum_28 (by decide) ?_
    refine lv_goto (tgt := 33) hx hb db_hasRootSum_29 (by decide) ?_
    cases hf
    exact er_z hx hb hr hlk rfl db_hasRootSum_33
set_option maxRecDepth 100000 in
set_option maxHeartbeats 4000000 in
theorem cb_hasRootSum {l : Launch} (hfl : l.flags = flags0) {D : va_G} {gm : Nat → Nat} {ca : Nat → ClassId} {st : BSt} {n : Nat} {x1 : Int32} {r : Int32} (hf : fb_hasRootSum n st x1 = some r) : RM l yb_hasRootSum rmb_hasRootSum D gm ca [.int x1] st (XI r) :=
  RM.of hfl (by decide +kernel) rfl mcb_hasRootSum (fun p e s m below meth c hX hP => wb_hasRootSum_0 hX hP n _ _ (lv_entry _ (Nat.le_of_ble_eq_true rfl)) hf)
set_option maxRecDepth 100000 in
set_option maxHeartbeats 4000000 in
theorem wb_isSound_33 {p : Program} {l : Launch} {e : Env} {s : State} {m : MethodId} {args : Array Value} {below : List Frame} {meth : Method} {c : Code} {D : va_G} {gm : Nat → Nat} {ca : Nat → ClassId} {A : Nat → Prop} {st : BSt} (hX : BX p l e rmb_isSound s m args meth c D ca A kb_isSound 8 (some .boolean)) (hP : va_P D vwCl (wB gm ca st) s.heap) (n : Nat) :∀ (k : Nat), ∀ (x2 : Int32) (x3 : Int64) (x5 : Int32) {r : Int32} (ls : Array Slot), lv_has ls 8 [(0, .ref (gm 0)), (2, .int x2), (3, .long x3), (5, .int x5)] → fb_isSound_33 n k st x2 x3 x5 = some r → W p l e rmb_isSound s m args below meth c s.heap [] 0 0 (MQX below (xx_Q (XI r)) args s 0 0 (fun _ => False)) (F0 m 33 ls []) := by
  obtain ⟨hx, hb, hml, hr, hlk, hown, hts, hK, htr, hZ, hnh, hA, hfl⟩ := id hX
  intro k
  induction k with
  | zero =>
    intro x2 x3 x5 r ls hl hf
    rw [fb_isSound_33] at hf
    cases hf
  | succ k ih =>
    intro x2 x3 x5 r ls hl hf
    rw [fb_isSound_33] at hf
    refine lv_iload hx hb db_isSound_33 (lv_at hl 3 rfl) ?_
    refine lv_i2l hx hb db_isSound_35 rfl ?_
    refine lv_lload_n hx hb db_isSound_36 rfl (lv_at hl 2 rfl) ?_
    refine W.lcmp hx hb db_isSound_37 ?_
    refine lv_if_ge (tgt := 80) hx hb db_isSound_38 (by decide) (fun c1 => ?_) (fun c1 => ?_)
    · have hf := ifp c1 hf
      refine lv_iconst (v := 1) hx hb db_isSound_80 (by decide) ?_
      cases hf
      exact er_z hx hb hr hlk rfl db_isSound_81
    · have hf := ifn c1 hf
      refine lv_aload_n hx hb db_isSound_41 rfl (lv_at hl 0 rfl) ?_
      refine bg_roots hx hb hown hts hK hP db_isSound_42 ?_
      refine lv_iload_n hx hb db_isSound_45 rfl (lv_at hl 1 rfl) ?_
      refine lv_iconst (v := 2) hx hb db_isSound_46 (by decide) ?_
      refine lv_iadd hx hb db_isSound_47 ?_
      refine lv_iload hx hb db_isSound_48 (lv_at hl 3 rfl) ?_
      refine lv_iadd hx hb db_isSound_50 ?_
      obtain ⟨r2, er2, ir2, hf⟩ := rdL_some hf
      refine bl_roots hx hb hK hP ir2 er2 db_isSound_51 ?_
      refine lv_lstore (lv' := [(6, .long r2), (0, .ref (gm 0)), (2, .int x2), (3, .long x3), (5, .int x5)]) hx hb db_isSound_52 hl (by decide) rfl (fun ls hl => ?_)
      refine lv_lload hx hb db_isSound_54 (lv_at hl 0 rfl) ?_
      refine lv_lconst (v := 0) hx hb db_isSound_56 (by decide) ?_
      refine W.lcmp hx hb db_isSound_57 ?_
      refine lv_if_lt (tgt := 72) hx hb db_isSound_58 (by decide) (fun c3 => ?_) (fun c3 => ?_)
      · have hf := ifp c3 hf
        refine lv_iconst (v := 0) hx hb db_isSound_72 (by decide) ?_
        cases hf
        exact er_z hx hb hr hlk rfl db_isSound_73
      · have hf := ifn c3 hf
        refine lv_lload hx hb db_isSound_61 (lv_at hl 0 rfl) ?_
        refine lv_aload_n hx hb db_isSound_63 rfl (lv_at hl 1 rfl) ?_
        refine bg_pageCount hx hb hown hts hK hP db_isSound_64 ?_
        refine lv_i2l hx hb db_isSound_67 rfl ?_
        refine W.lcmp hx hb db_isSound_68 ?_
        refine lv_if_lt (tgt := 74) hx hb db_isSound_69 (by decide) (fun c4 => ?_) (fun c4 => ?_)
        · have hf := ifp c4 hf
          refine lv_iinc (v := (x5 + 1)) (lv' := [(5, .int (x5 + 1)), (6, .long r2), (0, .ref (gm 0)), (2, .int x2), (3, .long x3)]) hx hb db_isSound_74 hl (k := 4) rfl rfl (by decide) rfl (fun ls hl => ?_)
          refine lv_goto (tgt := 33) hx hb db_isSound_77 (by decide) ?_
          exact ih _ _ _ _ (lv_sub hl [2, 3, 4, 0] rfl) hf
        · have hf := ifn c4 hf
          refine lv_iconst (v := 0) hx hb db_isSound_72 (by decide) ?_
          cases hf
          exact er_z hx hb hr hlk rfl db_isSound_73
set_option maxRecDepth 100000 in
set_option maxHeartbeats 4000000 in
theorem wb_isSound_0 {p : Program} {l : Launch} {e : Env} {s : State} {m : MethodId} {args : Array Value} {below : List Frame} {meth : Method} {c : Code} {D : va_G} {gm : Nat → Nat} {ca : Nat → ClassId} {A : Nat → Prop} {st : BSt} (hX : BX p l e rmb_isSound s m args meth c D ca A kb_isSound 8 (some .boolean)) (hP : va_P D vwCl (wB gm ca st) s.heap) (n : Nat) : ∀ (x1 : Int32) {r : Int32} (ls : Array Slot), lv_has ls 8 [(0, .ref (gm 0)), (1, .int x1)] → fb_isSound n st x1 = some r → W p l e rmb_isSound s m args below meth c s.heap [] 0 0 (MQX below (xx_Q (XI r)) args s 0 0 (fun _ => False)) (F0 m 0 ls []) := by
  obtain ⟨hx, hb, hml, hr, hlk, hown, hts, hK, htr, hZ, hnh, hA, hfl⟩ := id hX
  intro x1 r ls hl hf
  rw [fb_isSound] at hf
  refine lv_iload_n hx hb db_isSound_0 rfl (lv_at hl 1 rfl) ?_
  refine lv_bipush (v := 20) hx hb db_isSound_1 (by decide) ?_
  refine lv_imul hx hb db_isSound_3 ?_
  refine lv_istore_n (lv' := [(2, .int (x1 * 20)), (0, .ref (gm 0)), (1, .int x1)]) hx hb db_isSound_4 rfl hl (by decide) rfl (fun ls hl => ?_)
  refine lv_aload_n hx hb db_isSound_5 rfl (lv_at hl 1 rfl) ?_
  refine bg_roots hx hb hown hts hK hP db_isSound_6 ?_
  refine lv_iload_n hx hb db_isSound_9 rfl (lv_at hl 0 rfl) ?_
  refine lv_iconst (v := 1) hx hb db_isSound_10 (by decide) ?_
  refine lv_iadd hx hb db_isSound_11 ?_
  obtain ⟨r1, er1, ir1, hf⟩ := rdL_some hf
  refine bl_roots hx hb hK hP ir1 er1 db_isSound_12 ?_
  refine lv_lstore_n (lv' := [(3, .long r1), (2, .int (x1 * 20)), (0, .ref (gm 0)), (1, .int x1)]) hx hb db_isSound_13 rfl hl (by decide) rfl (fun ls hl => ?_)
  refine lv_lload_n hx hb db_isSound_14 rfl (lv_at hl 0 rfl) ?_
  refine lv_lconst (v := 0) hx hb db_isSound_15 (by decide) ?_
  refine W.lcmp hx hb db_isSound_16 ?_
  refine lv_if_lt (tgt := 28) hx hb db_isSound_17 (by decide) (fun c2 => ?_) (fun c2 => ?_)
  · have hf := ifp c2 hf
    refine lv_iconst (v := 0) hx hb db_isSound_28 (by decide) ?_
    cases hf
    exact er_z hx hb hr hlk rfl db_isSound_29
  · have hf := ifn c2 hf
    refine lv_lload_n hx hb db_isSound_20 rfl (lv_at hl 0 rfl) ?_
    refine lv_ldc2 (v := 16) hx hb hown (kcb_198 hts) db_isSound_21 ?_
    refine W.lcmp hx hb db_isSound_24 ?_
    refine lv_if_le (tgt := 30) hx hb db_isSound_25 (by decide) (fun c3 => ?_) (fun c3 => ?_)
    · have hf := ifp c3 hf
      refine lv_iconst (v := 0) hx hb db_isSound_30 (by decide) ?_
      refine lv_istore (lv' := [(5, .int 0), (3, .long r1), (2, .int (x1 * 20)), (0, .ref (gm 0)), (1, .int x1)]) hx hb db_isSound_31 hl (by decide) rfl (fun ls hl => ?_)
      exact wb_isSound_33 hX hP n n _ _ _ _ (lv_sub hl [3, 2, 1, 0] rfl) hf
    · have hf := ifn c3 hf
      refine lv_iconst (v := 0) hx hb db_isSound_28 (by decide) ?_
      cases hf
      exact er_z hx hb hr hlk rfl db_isSound_29
set_option maxRecDepth 100000 in
set_option maxHeartbeats 4000000 in
theorem cb_isSound {l : Launch} (hfl : l.flags = flags0) {D : va_G} {gm : Nat → Nat} {ca : Nat → ClassId} {st : BSt} {n : Nat} {x1 : Int32} {r : Int32} (hf : fb_isSound n st x1 = some r) : RM l yb_isSound rmb_isSound D gm ca [.int x1] st (XI r) :=
  RM.of hfl (by decide +kernel) rfl mcb_isSound (fun p e s m below meth c hX hP => wb_isSound_0 hX hP n _ _ (lv_entry _ (Nat.le_of_ble_eq_true rfl)) hf)
set_option maxRecDepth 100000 in
set_option maxHeartbeats 4000000 in
theorem wb_leavesOf_0 {p : Program} {l : Launch} {e : Env} {s : State} {m : MethodId} {args : Array Value} {below : List Frame} {meth : Method} {c : Code} {D : va_G} {gm : Nat → Nat} {ca : Nat → ClassId} {A : Nat → Prop} {st : BSt} (hX : BX p l e rmb_leavesOf s m args meth c D ca A kb_leavesOf 2 (some .int)) (hP : va_P D vwCl (wB gm ca st) s.heap) (n : Nat) : ∀ (x1 : Int32) {r : Int32} (ls : Array Slot), lv_has ls 2 [(0, .ref (gm 0)), (1, .int x1)] → fb_leavesOf n st x1 = some r → W p l e rmb_leavesOf s m args below meth c s.heap [] 0 0 (MQX below (xx_Q (XI r)) args s 0 0 (fun _ => False)) (F0 m 0 ls []) := by
  obtain ⟨hx, hb, hml, hr, hlk, hown, hts, hK, htr, hZ, hnh, hA, hfl⟩ := id hX
  intro x1 r ls hl hf
  rw [fb_leavesOf] at hf
  refine lv_aload_n hx hb db_leavesOf_0 rfl (lv_at hl 0 rfl) ?_
  refine bg_roots hx hb hown hts hK hP db_leavesOf_1 ?_
  refine lv_iload_n hx hb db_leavesOf_4 rfl (lv_at hl 1 rfl) ?_
  refine lv_bipush (v := 20) hx hb db_leavesOf_5 (by decide) ?_
  refine lv_imul hx hb db_leavesOf_7 ?_
  refine lv_iconst (v := 1) hx hb db_leavesOf_8 (by decide) ?_
  refine lv_iadd hx hb db_leavesOf_9 ?_
  obtain ⟨r1, er1, ir1, hf⟩ := rdL_some hf
  refine bl_roots hx hb hK hP ir1 er1 db_leavesOf_10 ?_
  refine lv_l2i hx hb db_leavesOf_11 rfl ?_
  cases hf
  exact er_i hx hb hr hlk db_leavesOf_12
set_option maxRecDepth 100000 in
set_option maxHeartbeats 4000000 in
theorem cb_leavesOf {l : Launch} (hfl : l.flags = flags0) {D : va_G} {gm : Nat → Nat} {ca : Nat → ClassId} {st : BSt} {n : Nat} {x1 : Int32} {r : Int32} (hf : fb_leavesOf n st x1 = some r) : RM l yb_leavesOf rmb_leavesOf D gm ca [.int x1] st (XI r) :=
  RM.of hfl (by decide +kernel) rfl mcb_leavesOf (fun p e s m below meth c hX hP => wb_leavesOf_0 hX hP n _ _ (lv_entry _ (Nat.le_of_ble_eq_true rfl)) hf)
set_option maxRecDepth 100000 in
set_option maxHeartbeats 4000000 in
theorem wb_pageOf_0 {p : Program} {l : Launch} {e : Env} {s : State} {m : MethodId} {args : Array Value} {below : List Frame} {meth : Method} {c : Code} {D : va_G} {gm : Nat → Nat} {ca : Nat → ClassId} {A : Nat → Prop} {st : BSt} (hX : BX p l e rmb_pageOf s m args meth c D ca A kb_pageOf 3 (some .int)) (hP : va_P D vwCl (wB gm ca st) s.heap) (n : Nat) : ∀ (x1 : Int32) (x2 : Int32) {r : Int32} (ls : Array Slot), lv_has ls 3 [(0, .ref (gm 0)), (1, .int x1), (2, .int x2)] → fb_pageOf n st x1 x2 = some r → W p l e rmb_pageOf s m args below meth c s.heap [] 0 0 (MQX below (xx_Q (XI r)) args s 0 0 (fun _ => False)) (F0 m 0 ls []) := by
  obtain ⟨hx, hb, hml, hr, hlk, hown, hts, hK, htr, hZ, hnh, hA, hfl⟩ := id hX
  intro x1 x2 r ls hl hf
  rw [fb_pageOf] at hf
  refine lv_aload_n hx hb db_pageOf_0 rfl (lv_at hl 0 rfl) ?_
  refine bg_roots hx hb hown hts hK hP db_pageOf_1 ?_
  refine lv_iload_n hx hb db_pageOf_4 rfl (lv_at hl 1 rfl) ?_
  refine lv_bipush (v := 20) hx hb db_pageOf_5 (by decide) ?_
  refine lv_imul hx hb db_pageOf_7 ?_
  refine lv_iconst (v := 2) hx hb db_pageOf_8 (by decide) ?_
  refine lv_iadd hx hb db_pageOf_9 ?_
  refine lv_iload_n hx hb db_pageOf_10 rfl (lv_at hl 2 rfl) ?_
  refine lv_iadd hx hb db_pageOf_11 ?_
  obtain ⟨r1, er1, ir1, hf⟩ := rdL_some hf
  refine bl_roots hx hb hK hP ir1 er1 db_pageOf_12 ?_
  refine lv_l2i hx hb db_pageOf_13 rfl ?_
  cases hf
  exact er_i hx hb hr hlk db_pageOf_14
set_option maxRecDepth 100000 in
set_option maxHeartbeats 4000000 in
theorem cb_pageOf {l : Launch} (hfl : l.flags = flags0) {D : va_G} {gm : Nat → Nat} {ca : Nat → ClassId} {st : BSt} {n : Nat} {x1 : Int32} {x2 : Int32} {r : Int32} (hf : fb_pageOf n st x1 x2 = some r) : RM l yb_pageOf rmb_pageOf D gm ca [.int x1, .int x2] st (XI r) :=
  RM.of hfl (by decide +kernel) rfl mcb_pageOf (fun p e s m below meth c hX hP => wb_pageOf_0 hX hP n _ _ _ (lv_entry _ (Nat.le_of_ble_eq_true rfl)) hf)
set_option maxRecDepth 100000 in
set_option maxHeartbeats 4000000 in
theorem wb_isRightPage_36 {p : Program} {l : Launch} {e : Env} {s : State} {m : MethodId} {args : Array Value} {below : List Frame} {meth : Method} {c : Code} {D : va_G} {gm : Nat → Nat} {ca : Nat → ClassId} {A : Nat → Prop} {st : BSt} (hX : BX p l e rmb_isRightPage s m args meth c D ca A kb_isRightPage 10 (some .boolean)) (hP : va_P D vwCl (wB gm ca st) s.heap) (n : Nat) :∀ (k : Nat), ∀ (x2 : Int32) (x3 : Int64) (x5 : Int64) (x7 : Int32) {r : Int32} (ls : Array Slot), lv_has ls 10 [(0, .ref (gm 0)), (2, .int x2), (3, .long x3), (5, .long x5), (7, .int x7)] → fb_isRightPage_36 n k st x2 x3 x5 x7 = some r → W p l e rmb_isRightPage s m args below meth c s.heap [] 0 0 (MQX below (xx_Q (XI r)) args s 0 0 (fun _ => False)) (F0 m 36 ls []) := by
  obtain ⟨hx, hb, hml, hr, hlk, hown, hts, hK, htr, hZ, hnh, hA, hfl⟩ := id hX
  intro k
  induction k with
  | zero =>
    intro x2 x3 x5 x7 r ls hl hf
    rw [fb_isRightPage_36] at hf
    cases hf
  | succ k ih =>
    intro x2 x3 x5 x7 r ls hl hf
    rw [fb_isRightPage_36] at hf
    refine lv_iload hx hb db_isRightPage_36 (lv_at hl 4 rfl) ?_
    refine lv_i2l hx hb db_isRightPage_38 rfl ?_
    refine lv_lload_n hx hb db_isRightPage_39 rfl (lv_at hl 2 rfl) ?_
    refine W.lcmp hx hb db_isRightPage_40 ?_
    refine lv_if_ge (tgt := 88) hx hb db_isRightPage_41 (by decide) (fun c1 => ?_) (fun c1 => ?_)
    · have hf := ifp c1 hf
      refine lv_aload_n hx hb db_isRightPage_88 rfl (lv_at hl 0 rfl) ?_
      refine bg_pages hx hb hown hts hK hP db_isRightPage_89 ?_
      refine lv_iload_n hx hb db_isRightPage_92 rfl (lv_at hl 1 rfl) ?_
      refine lv_bipush (v := 15) hx hb db_isRightPage_93 (by decide) ?_
      refine lv_iadd hx hb db_isRightPage_95 ?_
      obtain ⟨r2, er2, ir2, hf⟩ := rdL_some hf
      refine bl_pages hx hb hK hP ir2 er2 db_isRightPage_96 ?_
      refine lv_aload_n hx hb db_isRightPage_97 rfl (lv_at hl 0 rfl) ?_
      refine bg_pages hx hb hown hts hK hP db_isRightPage_98 ?_
      refine lv_iload_n hx hb db_isRightPage_101 rfl (lv_at hl 1 rfl) ?_
      refine lv_bipush (v := 15) hx hb db_isRightPage_102 (by decide) ?_
      obtain ⟨r3, h4, hf⟩ := obs hf
      refine saL (cb_sumOf (l := l) (hfl := hfl) h4) (cw_sumOf hts ⟨by decide, by decide⟩) hx hb hml hown hts hK hP 1 0 rfl rfl hl.1 rfl rfl (lv_room (Nat.le_of_ble_eq_true rfl)) db_isRightPage_104 ⟨by decide, by decide⟩ ?_
      refine W.lcmp hx hb db_isRightPage_107 ?_
      refine lv_if_ne (tgt := 115) hx hb db_isRightPage_108 (by decide) (fun c5 => ?_) (fun c5 => ?_)
      · have hf := ifn c5 hf
        refine lv_iconst (v := 0) hx hb db_isRightPage_115 (by decide) ?_
        cases hf
        exact er_z hx hb hr hlk rfl db_isRightPage_116
      · have hf := ifp c5 hf
        refine lv_iconst (v := 1) hx hb db_isRightPage_111 (by decide) ?_
        refine lv_goto (tgt := 116) hx hb db_isRightPage_112 (by decide) ?_
        cases hf
        exact er_z hx hb hr hlk rfl db_isRightPage_116
    · have hf := ifn c1 hf
      refine lv_aload_n hx hb db_isRightPage_44 rfl (lv_at hl 0 rfl) ?_
      refine bg_pages hx hb hown hts hK hP db_isRightPage_45 ?_
      refine lv_iload_n hx hb db_isRightPage_48 rfl (lv_at hl 1 rfl) ?_
      refine lv_iconst (v := 1) hx hb db_isRightPage_49 (by decide) ?_
      refine lv_iadd hx hb db_isRightPage_50 ?_
      refine lv_iconst (v := 2) hx hb db_isRightPage_51 (by decide) ?_
      refine lv_iload hx hb db_isRightPage_52 (lv_at hl 4 rfl) ?_
      refine lv_imul hx hb db_isRightPage_54 ?_
      refine lv_iadd hx hb db_isRightPage_55 ?_
      obtain ⟨r6, er6, ir6, hf⟩ := rdL_some hf
      refine bl_pages hx hb hK hP ir6 er6 db_isRightPage_56 ?_
      refine lv_lstore (lv' := [(8, .long r6), (0, .ref (gm 0)), (2, .int x2), (3, .long x3), (5, .long x5), (7, .int x7)]) hx hb db_isRightPage_57 hl (by decide) rfl (fun ls hl => ?_)
      refine lv_lload hx hb db_isRightPage_59 (lv_at hl 0 rfl) ?_
      refine lv_lload hx hb db_isRightPage_61 (lv_at hl 4 rfl) ?_
      refine W.lcmp hx hb db_isRightPage_63 ?_
      refine lv_if_le (tgt := 76) hx hb db_isRightPage_64 (by decide) (fun c7 => ?_) (fun c7 => ?_)
      · have hf := ifp c7 hf
        refine lv_iconst (v := 0) hx hb db_isRightPage_76 (by decide) ?_
        cases hf
        exact er_z hx hb hr hlk rfl db_isRightPage_77
      · have hf := ifn c7 hf
        refine lv_lload hx hb db_isRightPage_67 (lv_at hl 0 rfl) ?_
        refine lv_ldc2 (v := 1000000) hx hb hown (kcb_192 hts) db_isRightPage_69 ?_
        refine W.lcmp hx hb db_isRightPage_72 ?_
        refine lv_if_le (tgt := 78) hx hb db_isRightPage_73 (by decide) (fun c8 => ?_) (fun c8 => ?_)
        · have hf := ifp c8 hf
          refine lv_lload hx hb db_isRightPage_78 (lv_at hl 0 rfl) ?_
          refine lv_lstore (lv' := [(5, .long r6), (8, .long r6), (0, .ref (gm 0)), (2, .int x2), (3, .long x3), (7, .int x7)]) hx hb db_isRightPage_80 hl (by decide) rfl (fun ls hl => ?_)
          refine lv_iinc (v := (x7 + 1)) (lv' := [(7, .int (x7 + 1)), (5, .long r6), (8, .long r6), (0, .ref (gm 0)), (2, .int x2), (3, .long x3)]) hx hb db_isRightPage_82 hl (k := 5) rfl rfl (by decide) rfl (fun ls hl => ?_)
          refine lv_goto (tgt := 36) hx hb db_isRightPage_85 (by decide) ?_
          exact ih _ _ _ _ _ (lv_sub hl [3, 4, 5, 1, 0] rfl) hf
        · have hf := ifn c8 hf
          refine lv_iconst (v := 0) hx hb db_isRightPage_76 (by decide) ?_
          cases hf
          exact er_z hx hb hr hlk rfl db_isRightPage_77
set_option maxRecDepth 100000 in
set_option maxHeartbeats 4000000 in
theorem wb_isRightPage_0 {p : Program} {l : Launch} {e : Env} {s : State} {m : MethodId} {args : Array Value} {below : List Frame} {meth : Method} {c : Code} {D : va_G} {gm : Nat → Nat} {ca : Nat → ClassId} {A : Nat → Prop} {st : BSt} (hX : BX p l e rmb_isRightPage s m args meth c D ca A kb_isRightPage 10 (some .boolean)) (hP : va_P D vwCl (wB gm ca st) s.heap) (n : Nat) : ∀ (x1 : Int32) {r : Int32} (ls : Array Slot), lv_has ls 10 [(0, .ref (gm 0)), (1, .int x1)] → fb_isRightPage n st x1 = some r → W p l e rmb_isRightPage s m args below meth c s.heap [] 0 0 (MQX below (xx_Q (XI r)) args s 0 0 (fun _ => False)) (F0 m 0 ls []) := by
  obtain ⟨hx, hb, hml, hr, hlk, hown, hts, hK, htr, hZ, hnh, hA, hfl⟩ := id hX
  intro x1 r ls hl hf
  rw [fb_isRightPage] at hf
  refine lv_iload_n hx hb db_isRightPage_0 rfl (lv_at hl 1 rfl) ?_
  refine lv_bipush (v := 16) hx hb db_isRightPage_1 (by decide) ?_
  refine lv_imul hx hb db_isRightPage_3 ?_
  refine lv_istore_n (lv' := [(2, .int (x1 * 16)), (0, .ref (gm 0)), (1, .int x1)]) hx hb db_isRightPage_4 rfl hl (by decide) rfl (fun ls hl => ?_)
  refine lv_aload_n hx hb db_isRightPage_5 rfl (lv_at hl 1 rfl) ?_
  refine bg_pages hx hb hown hts hK hP db_isRightPage_6 ?_
  refine lv_iload_n hx hb db_isRightPage_9 rfl (lv_at hl 0 rfl) ?_
  obtain ⟨r1, er1, ir1, hf⟩ := rdL_some hf
  refine bl_pages hx hb hK hP ir1 er1 db_isRightPage_10 ?_
  refine lv_lstore_n (lv' := [(3, .long r1), (2, .int (x1 * 16)), (0, .ref (gm 0)), (1, .int x1)]) hx hb db_isRightPage_11 rfl hl (by decide) rfl (fun ls hl => ?_)
  refine lv_lload_n hx hb db_isRightPage_12 rfl (lv_at hl 0 rfl) ?_
  refine lv_lconst (v := 0) hx hb db_isRightPage_13 (by decide) ?_
  refine W.lcmp hx hb db_isRightPage_14 ?_
  refine lv_if_lt (tgt := 26) hx hb db_isRightPage_15 (by decide) (fun c2 => ?_) (fun c2 => ?_)
  · have hf := ifp c2 hf
    refine lv_iconst (v := 0) hx hb db_isRightPage_26 (by decide) ?_
    cases hf
    exact er_z hx hb hr hlk rfl db_isRightPage_27
  · have hf := ifn c2 hf
    refine lv_lload_n hx hb db_isRightPage_18 rfl (lv_at hl 0 rfl) ?_
    refine lv_ldc2 (v := 7) hx hb hown (kcb_188 hts) db_isRightPage_19 ?_
    refine W.lcmp hx hb db_isRightPage_22 ?_
    refine lv_if_le (tgt := 28) hx hb db_isRightPage_23 (by decide) (fun c3 => ?_) (fun c3 => ?_)
    · have hf := ifp c3 hf
      refine lv_ldc2 (v := (-1)) hx hb hown (kcb_190 hts) db_isRightPage_28 ?_
      refine lv_lstore (lv' := [(5, .long (-1)), (3, .long r1), (2, .int (x1 * 16)), (0, .ref (gm 0)), (1, .int x1)]) hx hb db_isRightPage_31 hl (by decide) rfl (fun ls hl => ?_)
      refine lv_iconst (v := 0) hx hb db_isRightPage_33 (by decide) ?_
      refine lv_istore (lv' := [(7, .int 0), (5, .long (-1)), (3, .long r1), (2, .int (x1 * 16)), (0, .ref (gm 0)), (1, .int x1)]) hx hb db_isRightPage_34 hl (by decide) rfl (fun ls hl => ?_)
      exact wb_isRightPage_36 hX hP n n _ _ _ _ _ (lv_sub hl [4, 3, 2, 1, 0] rfl) hf
    · have hf := ifn c3 hf
      refine lv_iconst (v := 0) hx hb db_isRightPage_26 (by decide) ?_
      cases hf
      exact er_z hx hb hr hlk rfl db_isRightPage_27
set_option maxRecDepth 100000 in
set_option maxHeartbeats 4000000 in
theorem cb_isRightPage {l : Launch} (hfl : l.flags = flags0) {D : va_G} {gm : Nat → Nat} {ca : Nat → ClassId} {st : BSt} {n : Nat} {x1 : Int32} {r : Int32} (hf : fb_isRightPage n st x1 = some r) : RM l yb_isRightPage rmb_isRightPage D gm ca [.int x1] st (XI r) :=
  RM.of hfl (by decide +kernel) rfl mcb_isRightPage (fun p e s m below meth c hX hP => wb_isRightPage_0 hX hP n _ _ (lv_entry _ (Nat.le_of_ble_eq_true rfl)) hf)
set_option maxRecDepth 100000 in
set_option maxHeartbeats 4000000 in
theorem wb_entriesOf_0 {p : Program} {l : Launch} {e : Env} {s : State} {m : MethodId} {args : Array Value} {below : List Frame} {meth : Method} {c : Code} {D : va_G} {gm : Nat → Nat} {ca : Nat → ClassId} {A : Nat → Prop} {st : BSt} (hX : BX p l e rmb_entriesOf s m args meth c D ca A kb_entriesOf 2 (some .int)) (hP : va_P D vwCl (wB gm ca st) s.heap) (n : Nat) : ∀ (x1 : Int32) {r : Int32} (ls : Array Slot), lv_has ls 2 [(0, .ref (gm 0)), (1, .int x1)] → fb_entriesOf n st x1 = some r → W p l e rmb_entriesOf s m args below meth c s.heap [] 0 0 (MQX below (xx_Q (XI r)) args s 0 0 (fun _ => False)) (F0 m 0 ls []) := by
  obtain ⟨hx, hb, hml, hr, hlk, hown, hts, hK, htr, hZ, hnh, hA, hfl⟩ := id hX
  intro x1 r ls hl hf
  rw [fb_entriesOf] at hf
  refine lv_aload_n hx hb db_entriesOf_0 rfl (lv_at hl 0 rfl) ?_
  refine bg_pages hx hb hown hts hK hP db_entriesOf_1 ?_
  refine lv_iload_n hx hb db_entriesOf_4 rfl (lv_at hl 1 rfl) ?_
  refine lv_bipush (v := 16) hx hb db_entriesOf_5 (by decide) ?_
  refine lv_imul hx hb db_entriesOf_7 ?_
  obtain ⟨r1, er1, ir1, hf⟩ := rdL_some hf
  refine bl_pages hx hb hK hP ir1 er1 db_entriesOf_8 ?_
  refine lv_l2i hx hb db_entriesOf_9 rfl ?_
  cases hf
  exact er_i hx hb hr hlk db_entriesOf_10
set_option maxRecDepth 100000 in
set_option maxHeartbeats 4000000 in
theorem cb_entriesOf {l : Launch} (hfl : l.flags = flags0) {D : va_G} {gm : Nat → Nat} {ca : Nat → ClassId} {st : BSt} {n : Nat} {x1 : Int32} {r : Int32} (hf : fb_entriesOf n st x1 = some r) : RM l yb_entriesOf rmb_entriesOf D gm ca [.int x1] st (XI r) :=
  RM.of hfl (by decide +kernel) rfl mcb_entriesOf (fun p e s m below meth c hX hP => wb_entriesOf_0 hX hP n _ _ (lv_entry _ (Nat.le_of_ble_eq_true rfl)) hf)
set_option maxRecDepth 100000 in
set_option maxHeartbeats 4000000 in
theorem wb_entryAt_0 {p : Program} {l : Launch} {e : Env} {s : State} {m : MethodId} {args : Array Value} {below : List Frame} {meth : Method} {c : Code} (hX : p.tables.exec = Jvm.exec ∧ c.code = kb_entryAt ∧ c.maxLocals = 2 ∧ meth.sig.returnType = some .int ∧ meth.locks = false ∧ s.vm.findClass RB = some m.cls ∧ (∀ w ∈ lw_g, w.before args s = true) ∧ l.flags = flags0) (n : Nat) : ∀ (x0 : Int32) (x1 : Int32) {r : Int32} (ls : Array Slot), lv_has ls 2 [(0, .int x0), (1, .int x1)] → fb_entryAt n x0 x1 = some r → W p l e rmb_entryAt s m args below meth c s.heap [] 0 0 (MQX below (xx_Q (XI r)) args s 0 0 (fun _ => False)) (F0 m 0 ls []) := by
  obtain ⟨hx, hb, hml, hr, hlk, hown, hts, hfl⟩ := id hX
  intro x0 x1 r ls hl hf
  rw [fb_entryAt] at hf
  refine lv_iload_n hx hb db_entryAt_0 rfl (lv_at hl 0 rfl) ?_
  refine lv_bipush (v := 16) hx hb db_entryAt_1 (by decide) ?_
  refine lv_imul hx hb db_entryAt_3 ?_
  refine lv_iconst (v := 1) hx hb db_entryAt_4 (by decide) ?_
  refine lv_iadd hx hb db_entryAt_5 ?_
  refine lv_iconst (v := 2) hx hb db_entryAt_6 (by decide) ?_
  refine lv_iload_n hx hb db_entryAt_7 rfl (lv_at hl 1 rfl) ?_
  refine lv_imul hx hb db_entryAt_8 ?_
  refine lv_iadd hx hb db_entryAt_9 ?_
  cases hf
  exact er_i hx hb hr hlk db_entryAt_10
set_option maxRecDepth 100000 in
set_option maxHeartbeats 4000000 in
theorem cb_entryAt {l : Launch} (hfl : l.flags = flags0) {n : Nat} {x0 : Int32} {x1 : Int32} {r : Int32} (hf : fb_entryAt n x0 x1 = some r) : SM l yb_entryAt rmb_entryAt [.int x0, .int x1] (XI r) :=
  SM.of hfl (by decide +kernel) rfl mcb_entryAt (fun p e s m below meth c h1 h2 h3 h4 h5 h6 h7 => wb_entryAt_0 ⟨h1, h2, h3, h4, h5, h6, h7, hfl⟩ n _ _ _ (lv_entry _ (Nat.le_of_ble_eq_true rfl)) hf)
set_option maxRecDepth 100000 in
set_option maxHeartbeats 4000000 in
theorem wb_firstKey_0 {p : Program} {l : Launch} {e : Env} {s : State} {m : MethodId} {args : Array Value} {below : List Frame} {meth : Method} {c : Code} {D : va_G} {gm : Nat → Nat} {ca : Nat → ClassId} {A : Nat → Prop} {st : BSt} (hX : BX p l e rmb_firstKey s m args meth c D ca A kb_firstKey 2 (some .long)) (hP : va_P D vwCl (wB gm ca st) s.heap) (n : Nat) : ∀ (x1 : Int32) {r : Int64} (ls : Array Slot), lv_has ls 2 [(0, .ref (gm 0)), (1, .int x1)] → fb_firstKey n st x1 = some r → W p l e rmb_firstKey s m args below meth c s.heap [] 0 0 (MQX below (xx_Q (XL r)) args s 0 0 (fun _ => False)) (F0 m 0 ls []) := by
  obtain ⟨hx, hb, hml, hr, hlk, hown, hts, hK, htr, hZ, hnh, hA, hfl⟩ := id hX
  intro x1 r ls hl hf
  rw [fb_firstKey] at hf
  refine lv_aload_n hx hb db_firstKey_0 rfl (lv_at hl 0 rfl) ?_
  refine bg_pages hx hb hown hts hK hP db_firstKey_1 ?_
  refine lv_iload_n hx hb db_firstKey_4 rfl (lv_at hl 1 rfl) ?_
  refine lv_iconst (v := 0) hx hb db_firstKey_5 (by decide) ?_
  obtain ⟨r1, h2, hf⟩ := obs hf
  refine smI (cb_entryAt (l := l) (hfl := hfl) h2) (cw_entryAt hts ⟨by decide, by decide⟩) hx hb hml hown hts hl.1 rfl rfl (lv_room (Nat.le_of_ble_eq_true rfl)) db_firstKey_6 ⟨by decide, by decide⟩ ?_
  obtain ⟨r3, er3, ir3, hf⟩ := rdL_some hf
  refine bl_pages hx hb hK hP ir3 er3 db_firstKey_9 ?_
  cases hf
  exact er_l hx hb hr hlk db_firstKey_10
set_option maxRecDepth 100000 in
set_option maxHeartbeats 4000000 in
theorem cb_firstKey {l : Launch} (hfl : l.flags = flags0) {D : va_G} {gm : Nat → Nat} {ca : Nat → ClassId} {st : BSt} {n : Nat} {x1 : Int32} {r : Int64} (hf : fb_firstKey n st x1 = some r) : RM l yb_firstKey rmb_firstKey D gm ca [.int x1] st (XL r) :=
  RM.of hfl (by decide +kernel) rfl mcb_firstKey (fun p e s m below meth c hX hP => wb_firstKey_0 hX hP n _ _ (lv_entry _ (Nat.le_of_ble_eq_true rfl)) hf)
set_option maxRecDepth 100000 in
set_option maxHeartbeats 4000000 in
theorem wb_lastKey_0 {p : Program} {l : Launch} {e : Env} {s : State} {m : MethodId} {args : Array Value} {below : List Frame} {meth : Method} {c : Code} {D : va_G} {gm : Nat → Nat} {ca : Nat → ClassId} {A : Nat → Prop} {st : BSt} (hX : BX p l e rmb_lastKey s m args meth c D ca A kb_lastKey 2 (some .long)) (hP : va_P D vwCl (wB gm ca st) s.heap) (n : Nat) : ∀ (x1 : Int32) {r : Int64} (ls : Array Slot), lv_has ls 2 [(0, .ref (gm 0)), (1, .int x1)] → fb_lastKey n st x1 = some r → W p l e rmb_lastKey s m args below meth c s.heap [] 0 0 (MQX below (xx_Q (XL r)) args s 0 0 (fun _ => False)) (F0 m 0 ls []) := by
  obtain ⟨hx, hb, hml, hr, hlk, hown, hts, hK, htr, hZ, hnh, hA, hfl⟩ := id hX
  intro x1 r ls hl hf
  rw [fb_lastKey] at hf
  refine lv_aload_n hx hb db_lastKey_0 rfl (lv_at hl 0 rfl) ?_
  refine bg_pages hx hb hown hts hK hP db_lastKey_1 ?_
  refine lv_iload_n hx hb db_lastKey_4 rfl (lv_at hl 1 rfl) ?_
  refine lv_aload_n hx hb db_lastKey_5 rfl (lv_at hl 0 rfl) ?_
  refine lv_iload_n hx hb db_lastKey_6 rfl (lv_at hl 1 rfl) ?_
  obtain ⟨r1, h2, hf⟩ := obs hf
  refine rmI (cb_entriesOf (l := l) (hfl := hfl) h2) (cw_entriesOf hts ⟨by decide, by decide⟩) hx hb hml hown hts hK hP va_S.rf hZ hl.1 rfl rfl (lv_room (Nat.le_of_ble_eq_true rfl)) db_lastKey_7 ⟨by decide, by decide⟩ ?_
  refine lv_iconst (v := 1) hx hb db_lastKey_10 (by decide) ?_
  refine lv_isub hx hb db_lastKey_11 ?_
  obtain ⟨r3, h4, hf⟩ := obs hf
  refine smI (cb_entryAt (l := l) (hfl := hfl) h4) (cw_entryAt hts ⟨by decide, by decide⟩) hx hb hml hown hts hl.1 rfl rfl (lv_room (Nat.le_of_ble_eq_true rfl)) db_lastKey_12 ⟨by decide, by decide⟩ ?_
  obtain ⟨r5, er5, ir5, hf⟩ := rdL_some hf
  refine bl_pages hx hb hK hP ir5 er5 db_lastKey_15 ?_
  cases hf
  exact er_l hx hb hr hlk db_lastKey_16
set_option maxRecDepth 100000 in
set_option maxHeartbeats 4000000 in
theorem cb_lastKey {l : Launch} (hfl : l.flags = flags0) {D : va_G} {gm : Nat → Nat} {ca : Nat → ClassId} {st : BSt} {n : Nat} {x1 : Int32} {r : Int64} (hf : fb_lastKey n st x1 = some r) : RM l yb_lastKey rmb_lastKey D gm ca [.int x1] st (XL r) :=
  RM.of hfl (by decide +kernel) rfl mcb_lastKey (fun p e s m below meth c hX hP => wb_lastKey_0 hX hP n _ _ (lv_entry _ (Nat.le_of_ble_eq_true rfl)) hf)
end
section
set_option maxRecDepth 100000 in
set_option maxHeartbeats 4000000 in
theorem wb_hasRightLeaves_17 {p : Program} {l : Launch} {e : Env} {s : State} {m : MethodId} {args : Array Value} {below : List Frame} {meth : Method} {c : Code} {D : va_G} {gm : Nat → Nat} {ca : Nat → ClassId} {A : Nat → Prop} {st : BSt} (hX : BX p l e rmb_hasRightLeaves s m args meth c D ca A kb_hasRightLeaves 9 (some .boolean)) (hP : va_P D vwCl (wB gm ca st) s.heap) (n : Nat) :∀ (k : Nat), ∀ (x1 : Int32) (x2 : Int64) (x4 : Int64) (x6 : Int32) (x7 : Int32) {r : Int32} (ls : Array Slot), lv_has ls 9 [(0, .ref (gm 0)), (1, .int x1), (2, .long x2), (4, .long x4), (6, .int x6), (7, .int x7)] → fb_hasRightLeaves_17 n k st x1 x2 x4 x6 x7 = some r → W p l e rmb_hasRightLeaves s m args below meth c s.heap [] 0 0 (MQX below (xx_Q (XI r)) args s 0 0 (fun _ => False)) (F0 m 17 ls []) := by
  obtain ⟨hx, hb, hml, hr, hlk, hown, hts, hK, htr, hZ, hnh, hA, hfl⟩ := id hX
  intro k
  induction k with
  | zero =>
    intro x1 x2 x4 x6 x7 r ls hl hf
    rw [fb_hasRightLeaves_17] at hf
    cases hf
  | succ k ih =>
    intro x1 x2 x4 x6 x7 r ls hl hf
    rw [fb_hasRightLeaves_17] at hf
    refine lv_iload hx hb db_hasRightLeaves_17 (lv_at hl 5 rfl) ?_
    refine lv_iload hx hb db_hasRightLeaves_19 (lv_at hl 4 rfl) ?_
    refine lv_icmp_ge (tgt := 91) hx hb db_hasRightLeaves_21 (by decide) (fun c1 => ?_) (fun c1 => ?_)
    · have hf := ifp c1 hf
      refine lv_aload_n hx hb db_hasRightLeaves_91 rfl (lv_at hl 0 rfl) ?_
      refine bg_roots hx hb hown hts hK hP db_hasRightLeaves_92 ?_
      refine lv_iload_n hx hb db_hasRightLeaves_95 rfl (lv_at hl 1 rfl) ?_
      refine lv_bipush (v := 20) hx hb db_hasRightLeaves_96 (by decide) ?_
      refine lv_imul hx hb db_hasRightLeaves_98 ?_
      refine lv_bipush (v := 18) hx hb db_hasRightLeaves_99 (by decide) ?_
      refine lv_iadd hx hb db_hasRightLeaves_101 ?_
      obtain ⟨r2, er2, ir2, hf⟩ := rdL_some hf
      refine bl_roots hx hb hK hP ir2 er2 db_hasRightLeaves_102 ?_
      refine lv_lload hx hb db_hasRightLeaves_103 (lv_at hl 3 rfl) ?_
      refine W.lcmp hx hb db_hasRightLeaves_105 ?_
      refine lv_if_ne (tgt := 113) hx hb db_hasRightLeaves_106 (by decide) (fun c3 => ?_) (fun c3 => ?_)
      · have hf := ifn c3 hf
        refine lv_iconst (v := 0) hx hb db_hasRightLeaves_113 (by decide) ?_
        cases hf
        exact er_z hx hb hr hlk rfl db_hasRightLeaves_114
      · have hf := ifp c3 hf
        refine lv_iconst (v := 1) hx hb db_hasRightLeaves_109 (by decide) ?_
        refine lv_goto (tgt := 114) hx hb db_hasRightLeaves_110 (by decide) ?_
        cases hf
        exact er_z hx hb hr hlk rfl db_hasRightLeaves_114
    · have hf := ifn c1 hf
      refine lv_aload_n hx hb db_hasRightLeaves_24 rfl (lv_at hl 0 rfl) ?_
      refine lv_iload_n hx hb db_hasRightLeaves_25 rfl (lv_at hl 1 rfl) ?_
      refine lv_iload hx hb db_hasRightLeaves_26 (lv_at hl 5 rfl) ?_
      obtain ⟨r4, h5, hf⟩ := obs hf
      refine rmI (cb_pageOf (l := l) (hfl := hfl) h5) (cw_pageOf hts ⟨by decide, by decide⟩) hx hb hml hown hts hK hP va_S.rf hZ hl.1 rfl rfl (lv_room (Nat.le_of_ble_eq_true rfl)) db_hasRightLeaves_28 ⟨by decide, by decide⟩ ?_
      refine lv_istore (lv' := [(8, .int r4), (0, .ref (gm 0)), (1, .int x1), (2, .long x2), (4, .long x4), (6, .int x6), (7, .int x7)]) hx hb db_hasRightLeaves_31 hl (by decide) rfl (fun ls hl => ?_)
      refine lv_aload_n hx hb db_hasRightLeaves_33 rfl (lv_at hl 1 rfl) ?_
      refine lv_iload hx hb db_hasRightLeaves_34 (lv_at hl 0 rfl) ?_
      obtain ⟨r6, h7, hf⟩ := obs hf
      refine rmI (cb_isRightPage (l := l) (hfl := hfl) h7) (cw_isRightPage hts ⟨by decide, by decide⟩) hx hb hml hown hts hK hP va_S.rf hZ hl.1 rfl rfl (lv_room (Nat.le_of_ble_eq_true rfl)) db_hasRightLeaves_36 ⟨by decide, by decide⟩ ?_
      refine lv_if_eq (tgt := 51) hx hb db_hasRightLeaves_39 (by decide) (fun c8 => ?_) (fun c8 => ?_)
      · have hf := ifp c8 hf
        refine lv_iconst (v := 0) hx hb db_hasRightLeaves_51 (by decide) ?_
        cases hf
        exact er_z hx hb hr hlk rfl db_hasRightLeaves_52
      · have hf := ifn c8 hf
        refine lv_aload_n hx hb db_hasRightLeaves_42 rfl (lv_at hl 1 rfl) ?_
        refine lv_iload hx hb db_hasRightLeaves_43 (lv_at hl 0 rfl) ?_
        obtain ⟨r9, h10, hf⟩ := obs hf
        refine rmI (cb_entriesOf (l := l) (hfl := hfl) h10) (cw_entriesOf hts ⟨by decide, by decide⟩) hx hb hml hown hts hK hP va_S.rf hZ hl.1 rfl rfl (lv_room (Nat.le_of_ble_eq_true rfl)) db_hasRightLeaves_45 ⟨by decide, by decide⟩ ?_
        refine lv_if_ne (tgt := 53) hx hb db_hasRightLeaves_48 (by decide) (fun c11 => ?_) (fun c11 => ?_)
        · have hf := ifn c11 hf
          refine lv_aload_n hx hb db_hasRightLeaves_53 rfl (lv_at hl 1 rfl) ?_
          refine lv_iload hx hb db_hasRightLeaves_54 (lv_at hl 0 rfl) ?_
          obtain ⟨r12, h13, hf⟩ := obs hf
          refine rmL (cb_firstKey (l := l) (hfl := hfl) h13) (cw_firstKey hts ⟨by decide, by decide⟩) hx hb hml hown hts hK hP va_S.rf hZ hl.1 rfl rfl (lv_room (Nat.le_of_ble_eq_true rfl)) db_hasRightLeaves_56 ⟨by decide, by decide⟩ ?_
          refine lv_lload_n hx hb db_hasRightLeaves_59 rfl (lv_at hl 3 rfl) ?_
          refine W.lcmp hx hb db_hasRightLeaves_60 ?_
          refine lv_if_gt (tgt := 66) hx hb db_hasRightLeaves_61 (by decide) (fun c14 => ?_) (fun c14 => ?_)
          · have hf := ifp c14 hf
            refine lv_aload_n hx hb db_hasRightLeaves_66 rfl (lv_at hl 1 rfl) ?_
            refine lv_iload hx hb db_hasRightLeaves_67 (lv_at hl 0 rfl) ?_
            obtain ⟨r15, h16, hf⟩ := obs hf
            refine rmL (cb_lastKey (l := l) (hfl := hfl) h16) (cw_lastKey hts ⟨by decide, by decide⟩) hx hb hml hown hts hK hP va_S.rf hZ hl.1 rfl rfl (lv_room (Nat.le_of_ble_eq_true rfl)) db_hasRightLeaves_69 ⟨by decide, by decide⟩ ?_
            refine lv_lstore_n (lv' := [(2, .long r15), (8, .int r4), (0, .ref (gm 0)), (1, .int x1), (4, .long x4), (6, .int x6), (7, .int x7)]) hx hb db_hasRightLeaves_72 rfl hl (by decide) rfl (fun ls hl => ?_)
            refine lv_lload hx hb db_hasRightLeaves_73 (lv_at hl 4 rfl) ?_
            refine lv_aload_n hx hb db_hasRightLeaves_75 rfl (lv_at hl 2 rfl) ?_
            refine lv_iload hx hb db_hasRightLeaves_76 (lv_at hl 1 rfl) ?_
            obtain ⟨r17, h18, hf⟩ := obs hf
            refine rmI (cb_entriesOf (l := l) (hfl := hfl) h18) (cw_entriesOf hts ⟨by decide, by decide⟩) hx hb hml hown hts hK hP va_S.rf hZ hl.1 rfl rfl (lv_room (Nat.le_of_ble_eq_true rfl)) db_hasRightLeaves_78 ⟨by decide, by decide⟩ ?_
            refine lv_i2l hx hb db_hasRightLeaves_81 rfl ?_
            refine lv_ladd hx hb db_hasRightLeaves_82 ?_
            refine lv_lstore (lv' := [(4, .long (x4 + r17.toInt64)), (2, .long r15), (8, .int r4), (0, .ref (gm 0)), (1, .int x1), (6, .int x6), (7, .int x7)]) hx hb db_hasRightLeaves_83 hl (by decide) rfl (fun ls hl => ?_)
            refine lv_iinc (v := (x7 + 1)) (lv' := [(7, .int (x7 + 1)), (4, .long (x4 + r17.toInt64)), (2, .long r15), (8, .int r4), (0, .ref (gm 0)), (1, .int x1), (6, .int x6)]) hx hb db_hasRightLeaves_85 hl (k := 6) rfl rfl (by decide) rfl (fun ls hl => ?_)
            refine lv_goto (tgt := 17) hx hb db_hasRightLeaves_88 (by decide) ?_
            exact ih _ _ _ _ _ _ (lv_sub hl [4, 5, 2, 1, 6, 0] rfl) hf
          · have hf := ifn c14 hf
            refine lv_iconst (v := 0) hx hb db_hasRightLeaves_64 (by decide) ?_
            cases hf
            exact er_z hx hb hr hlk rfl db_hasRightLeaves_65
        · have hf := ifp c11 hf
          refine lv_iconst (v := 0) hx hb db_hasRightLeaves_51 (by decide) ?_
          cases hf
          exact er_z hx hb hr hlk rfl db_hasRightLeaves_52
set_option maxRecDepth 100000 in
set_option maxHeartbeats 4000000 in
theorem wb_hasRightLeaves_0 {p : Program} {l : Launch} {e : Env} {s : State} {m : MethodId} {args : Array Value} {below : List Frame} {meth : Method} {c : Code} {D : va_G} {gm : Nat → Nat} {ca : Nat → ClassId} {A : Nat → Prop} {st : BSt} (hX : BX p l e rmb_hasRightLeaves s m args meth c D ca A kb_hasRightLeaves 9 (some .boolean)) (hP : va_P D vwCl (wB gm ca st) s.heap) (n : Nat) : ∀ (x1 : Int32) {r : Int32} (ls : Array Slot), lv_has ls 9 [(0, .ref (gm 0)), (1, .int x1)] → fb_hasRightLeaves n st x1 = some r → W p l e rmb_hasRightLeaves s m args below meth c s.heap [] 0 0 (MQX below (xx_Q (XI r)) args s 0 0 (fun _ => False)) (F0 m 0 ls []) := by
  obtain ⟨hx, hb, hml, hr, hlk, hown, hts, hK, htr, hZ, hnh, hA, hfl⟩ := id hX
  intro x1 r ls hl hf
  rw [fb_hasRightLeaves] at hf
  refine lv_ldc2 (v := (-1)) hx hb hown (kcb_190 hts) db_hasRightLeaves_0 ?_
  refine lv_lstore_n (lv' := [(2, .long (-1)), (0, .ref (gm 0)), (1, .int x1)]) hx hb db_hasRightLeaves_3 rfl hl (by decide) rfl (fun ls hl => ?_)
  refine lv_lconst (v := 0) hx hb db_hasRightLeaves_4 (by decide) ?_
  refine lv_lstore (lv' := [(4, .long 0), (2, .long (-1)), (0, .ref (gm 0)), (1, .int x1)]) hx hb db_hasRightLeaves_5 hl (by decide) rfl (fun ls hl => ?_)
  refine lv_aload_n hx hb db_hasRightLeaves_7 rfl (lv_at hl 2 rfl) ?_
  refine lv_iload_n hx hb db_hasRightLeaves_8 rfl (lv_at hl 3 rfl) ?_
  obtain ⟨r1, h2, hf⟩ := obs hf
  refine rmI (cb_leavesOf (l := l) (hfl := hfl) h2) (cw_leavesOf hts ⟨by decide, by decide⟩) hx hb hml hown hts hK hP va_S.rf hZ hl.1 rfl rfl (lv_room (Nat.le_of_ble_eq_true rfl)) db_hasRightLeaves_9 ⟨by decide, by decide⟩ ?_
  refine lv_istore (lv' := [(6, .int r1), (4, .long 0), (2, .long (-1)), (0, .ref (gm 0)), (1, .int x1)]) hx hb db_hasRightLeaves_12 hl (by decide) rfl (fun ls hl => ?_)
  refine lv_iconst (v := 0) hx hb db_hasRightLeaves_14 (by decide) ?_
  refine lv_istore (lv' := [(7, .int 0), (6, .int r1), (4, .long 0), (2, .long (-1)), (0, .ref (gm 0)), (1, .int x1)]) hx hb db_hasRightLeaves_15 hl (by decide) rfl (fun ls hl => ?_)
  exact wb_hasRightLeaves_17 hX hP n n _ _ _ _ _ _ (lv_sub hl [4, 5, 3, 2, 1, 0] rfl) hf
set_option maxRecDepth 100000 in
set_option maxHeartbeats 4000000 in
theorem cb_hasRightLeaves {l : Launch} (hfl : l.flags = flags0) {D : va_G} {gm : Nat → Nat} {ca : Nat → ClassId} {st : BSt} {n : Nat} {x1 : Int32} {r : Int32} (hf : fb_hasRightLeaves n st x1 = some r) : RM l yb_hasRightLeaves rmb_hasRightLeaves D gm ca [.int x1] st (XI r) :=
  RM.of hfl (by decide +kernel) rfl mcb_hasRightLeaves (fun p e s m below meth c hX hP => wb_hasRightLeaves_0 hX hP n _ _ (lv_entry _ (Nat.le_of_ble_eq_true rfl)) hf)
set_option maxRecDepth 100000 in
set_option maxHeartbeats 4000000 in
theorem wb_isRightRoot_0 {p : Program} {l : Launch} {e : Env} {s : State} {m : MethodId} {args : Array Value} {below : List Frame} {meth : Method} {c : Code} {D : va_G} {gm : Nat → Nat} {ca : Nat → ClassId} {A : Nat → Prop} {st : BSt} (hX : BX p l e rmb_isRightRoot s m args meth c D ca A kb_isRightRoot 2 (some .boolean)) (hP : va_P D vwCl (wB gm ca st) s.heap) (n : Nat) : ∀ (x1 : Int32) {r : Int32} (ls : Array Slot), lv_has ls 2 [(0, .ref (gm 0)), (1, .int x1)] → fb_isRightRoot n st x1 = some r → W p l e rmb_isRightRoot s m args below meth c s.heap [] 0 0 (MQX below (xx_Q (XI r)) args s 0 0 (fun _ => False)) (F0 m 0 ls []) := by
  obtain ⟨hx, hb, hml, hr, hlk, hown, hts, hK, htr, hZ, hnh, hA, hfl⟩ := id hX
  intro x1 r ls hl hf
  rw [fb_isRightRoot] at hf
  refine lv_aload_n hx hb db_isRightRoot_0 rfl (lv_at hl 0 rfl) ?_
  refine lv_iload_n hx hb db_isRightRoot_1 rfl (lv_at hl 1 rfl) ?_
  obtain ⟨r1, h2, hf⟩ := obs hf
  refine rmI (cb_hasRootSum (l := l) (hfl := hfl) h2) (cw_hasRootSum hts ⟨by decide, by decide⟩) hx hb hml hown hts hK hP va_S.rf hZ hl.1 rfl rfl (lv_room (Nat.le_of_ble_eq_true rfl)) db_isRightRoot_2 ⟨by decide, by decide⟩ ?_
  refine lv_if_eq (tgt := 28) hx hb db_isRightRoot_5 (by decide) (fun c3 => ?_) (fun c3 => ?_)
  · have hf := ifp c3 hf
    refine lv_iconst (v := 0) hx hb db_isRightRoot_28 (by decide) ?_
    cases hf
    exact er_z hx hb hr hlk rfl db_isRightRoot_29
  · have hf := ifn c3 hf
    refine lv_aload_n hx hb db_isRightRoot_8 rfl (lv_at hl 0 rfl) ?_
    refine lv_iload_n hx hb db_isRightRoot_9 rfl (lv_at hl 1 rfl) ?_
    obtain ⟨r4, h5, hf⟩ := obs hf
    refine rmI (cb_isSound (l := l) (hfl := hfl) h5) (cw_isSound hts ⟨by decide, by decide⟩) hx hb hml hown hts hK hP va_S.rf hZ hl.1 rfl rfl (lv_room (Nat.le_of_ble_eq_true rfl)) db_isRightRoot_10 ⟨by decide, by decide⟩ ?_
    refine lv_if_eq (tgt := 28) hx hb db_isRightRoot_13 (by decide) (fun c6 => ?_) (fun c6 => ?_)
    · have hf := ifp c6 hf
      refine lv_iconst (v := 0) hx hb db_isRightRoot_28 (by decide) ?_
      cases hf
      exact er_z hx hb hr hlk rfl db_isRightRoot_29
    · have hf := ifn c6 hf
      refine lv_aload_n hx hb db_isRightRoot_16 rfl (lv_at hl 0 rfl) ?_
      refine lv_iload_n hx hb db_isRightRoot_17 rfl (lv_at hl 1 rfl) ?_
      obtain ⟨r7, h8, hf⟩ := obs hf
      refine rmI (cb_hasRightLeaves (l := l) (hfl := hfl) h8) (cw_hasRightLeaves hts ⟨by decide, by decide⟩) hx hb hml hown hts hK hP va_S.rf hZ hl.1 rfl rfl (lv_room (Nat.le_of_ble_eq_true rfl)) db_isRightRoot_18 ⟨by decide, by decide⟩ ?_
      refine lv_if_eq (tgt := 28) hx hb db_isRightRoot_21 (by decide) (fun c9 => ?_) (fun c9 => ?_)
      · have hf := ifp c9 hf
        refine lv_iconst (v := 0) hx hb db_isRightRoot_28 (by decide) ?_
        cases hf
        exact er_z hx hb hr hlk rfl db_isRightRoot_29
      · have hf := ifn c9 hf
        refine lv_iconst (v := 1) hx hb db_isRightRoot_24 (by decide) ?_
        refine lv_goto (tgt := 29) hx hb db_isRightRoot_25 (by decide) ?_
        cases hf
        exact er_z hx hb hr hlk rfl db_isRightRoot_29
set_option maxRecDepth 100000 in
set_option maxHeartbeats 4000000 in
theorem cb_isRightRoot {l : Launch} (hfl : l.flags = flags0) {D : va_G} {gm : Nat → Nat} {ca : Nat → ClassId} {st : BSt} {n : Nat} {x1 : Int32} {r : Int32} (hf : fb_isRightRoot n st x1 = some r) : RM l yb_isRightRoot rmb_isRightRoot D gm ca [.int x1] st (XI r) :=
  RM.of hfl (by decide +kernel) rfl mcb_isRightRoot (fun p e s m below meth c hX hP => wb_isRightRoot_0 hX hP n _ _ (lv_entry _ (Nat.le_of_ble_eq_true rfl)) hf)
set_option maxRecDepth 100000 in
set_option maxHeartbeats 4000000 in
theorem wb_isKept_0 {p : Program} {l : Launch} {e : Env} {s : State} {m : MethodId} {args : Array Value} {below : List Frame} {meth : Method} {c : Code} {D : va_G} {gm : Nat → Nat} {ca : Nat → ClassId} {A : Nat → Prop} {st : BSt} (hX : BX p l e rmb_isKept s m args meth c D ca A kb_isKept 3 (some .boolean)) (hP : va_P D vwCl (wB gm ca st) s.heap) (n : Nat) : ∀ (x1 : Int32) {r : Int32} (ls : Array Slot), lv_has ls 3 [(0, .ref (gm 0)), (1, .int x1)] → fb_isKept n st x1 = some r → W p l e rmb_isKept s m args below meth c s.heap [] 0 0 (MQX below (xx_Q (XI r)) args s 0 0 (fun _ => False)) (F0 m 0 ls []) := by
  obtain ⟨hx, hb, hml, hr, hlk, hown, hts, hK, htr, hZ, hnh, hA, hfl⟩ := id hX
  intro x1 r ls hl hf
  rw [fb_isKept] at hf
  refine lv_iload_n hx hb db_isKept_0 rfl (lv_at hl 1 rfl) ?_
  obtain ⟨r1, h2, hf⟩ := obs hf
  refine smI (cb_rootOf (l := l) (hfl := hfl) h2) (cw_rootOf hts ⟨by decide, by decide⟩) hx hb hml hown hts hl.1 rfl rfl (lv_room (Nat.le_of_ble_eq_true rfl)) db_isKept_1 ⟨by decide, by decide⟩ ?_
  refine lv_istore_n (lv' := [(2, .int r1), (0, .ref (gm 0)), (1, .int x1)]) hx hb db_isKept_4 rfl hl (by decide) rfl (fun ls hl => ?_)
  refine lv_iload_n hx hb db_isKept_5 rfl (lv_at hl 2 rfl) ?_
  refine lv_aload_n hx hb db_isKept_6 rfl (lv_at hl 1 rfl) ?_
  refine bg_newest hx hb hown hts hK hP db_isKept_7 ?_
  refine lv_icmp_gt (tgt := 40) hx hb db_isKept_10 (by decide) (fun c3 => ?_) (fun c3 => ?_)
  · have hf := ifp c3 hf
    refine lv_iconst (v := 0) hx hb db_isKept_40 (by decide) ?_
    cases hf
    exact er_z hx hb hr hlk rfl db_isKept_41
  · have hf := ifn c3 hf
    refine lv_aload_n hx hb db_isKept_13 rfl (lv_at hl 1 rfl) ?_
    refine bg_roots hx hb hown hts hK hP db_isKept_14 ?_
    refine lv_iload_n hx hb db_isKept_17 rfl (lv_at hl 0 rfl) ?_
    refine lv_bipush (v := 20) hx hb db_isKept_18 (by decide) ?_
    refine lv_imul hx hb db_isKept_20 ?_
    obtain ⟨r4, er4, ir4, hf⟩ := rdL_some hf
    refine bl_roots hx hb hK hP ir4 er4 db_isKept_21 ?_
    refine lv_iload_n hx hb db_isKept_22 rfl (lv_at hl 2 rfl) ?_
    refine lv_i2l hx hb db_isKept_23 rfl ?_
    refine W.lcmp hx hb db_isKept_24 ?_
    refine lv_if_ne (tgt := 40) hx hb db_isKept_25 (by decide) (fun c5 => ?_) (fun c5 => ?_)
    · have hf := ifn c5 hf
      refine lv_iconst (v := 0) hx hb db_isKept_40 (by decide) ?_
      cases hf
      exact er_z hx hb hr hlk rfl db_isKept_41
    · have hf := ifp c5 hf
      refine lv_aload_n hx hb db_isKept_28 rfl (lv_at hl 1 rfl) ?_
      refine lv_iload_n hx hb db_isKept_29 rfl (lv_at hl 0 rfl) ?_
      obtain ⟨r6, h7, hf⟩ := obs hf
      refine rmI (cb_isRightRoot (l := l) (hfl := hfl) h7) (cw_isRightRoot hts ⟨by decide, by decide⟩) hx hb hml hown hts hK hP va_S.rf hZ hl.1 rfl rfl (lv_room (Nat.le_of_ble_eq_true rfl)) db_isKept_30 ⟨by decide, by decide⟩ ?_
      refine lv_if_eq (tgt := 40) hx hb db_isKept_33 (by decide) (fun c8 => ?_) (fun c8 => ?_)
      · have hf := ifp c8 hf
        refine lv_iconst (v := 0) hx hb db_isKept_40 (by decide) ?_
        cases hf
        exact er_z hx hb hr hlk rfl db_isKept_41
      · have hf := ifn c8 hf
        refine lv_iconst (v := 1) hx hb db_isKept_36 (by decide) ?_
        refine lv_goto (tgt := 41) hx hb db_isKept_37 (by decide) ?_
        cases hf
        exact er_z hx hb hr hlk rfl db_isKept_41
set_option maxRecDepth 100000 in
set_option maxHeartbeats 4000000 in
theorem cb_isKept {l : Launch} (hfl : l.flags = flags0) {D : va_G} {gm : Nat → Nat} {ca : Nat → ClassId} {st : BSt} {n : Nat} {x1 : Int32} {r : Int32} (hf : fb_isKept n st x1 = some r) : RM l yb_isKept rmb_isKept D gm ca [.int x1] st (XI r) :=
  RM.of hfl (by decide +kernel) rfl mcb_isKept (fun p e s m below meth c hX hP => wb_isKept_0 hX hP n _ _ (lv_entry _ (Nat.le_of_ble_eq_true rfl)) hf)
set_option maxRecDepth 100000 in
set_option maxHeartbeats 4000000 in
theorem wb_requireWritable_0 {p : Program} {l : Launch} {e : Env} {s : State} {m : MethodId} {args : Array Value} {below : List Frame} {meth : Method} {c : Code} {D : va_G} {gm : Nat → Nat} {ca : Nat → ClassId} {A : Nat → Prop} {st : BSt} (hX : BX p l e rmb_requireWritable s m args meth c D ca A kb_requireWritable 1 (none)) (hP : va_P D vwCl (wB gm ca st) s.heap) (n : Nat) : ∀ {r : Unit ⊕ Nat} (ls : Array Slot), lv_has ls 1 [(0, .ref (gm 0))] → fb_requireWritable n st = some r → W p l e rmb_requireWritable s m args below meth c s.heap [] 0 0 (MQX below (xx_Q (xu r)) args s 2 12 (fun _ => False)) (F0 m 0 ls []) := by
  obtain ⟨hx, hb, hml, hr, hlk, hown, hts, hK, htr, hZ, hnh, hA, hfl⟩ := id hX
  intro r ls hl hf
  rw [fb_requireWritable] at hf
  refine lv_aload_n hx hb db_requireWritable_0 rfl (lv_at hl 0 rfl) ?_
  rcases thn_some hf with ⟨r1, h2, hf⟩ | ⟨k3, h2, hf⟩
  rotate_left 1
  · cases hf
    refine rmT (cb_requireOpen (l := l) (hfl := hfl) h2) (cw_requireOpen hts ⟨by decide, by decide⟩) hx hb hml hown hts hK hP va_S.rf hZ hl.1 rfl rfl (lv_room (Nat.le_of_ble_eq_true rfl)) db_requireWritable_1 ⟨by decide, by decide⟩ (fun x t h1 h2 h3 h4 h5 => ?_)
    refine WT.widen (k := 2) (n := 12) (by decide) (by decide) ?_
    exact rt_out hX h1 h2 h3 h4 h5
  refine rmV (cb_requireOpen (l := l) (hfl := hfl) h2) (cw_requireOpen hts ⟨by decide, by decide⟩) hx hb hml hown hts hK hP va_S.rf hZ hl.1 rfl rfl (lv_room (Nat.le_of_ble_eq_true rfl)) db_requireWritable_1 ⟨by decide, by decide⟩ ?_
  refine lv_aload_n hx hb db_requireWritable_4 rfl (lv_at hl 0 rfl) ?_
  refine lv_aload_n hx hb db_requireWritable_5 rfl (lv_at hl 0 rfl) ?_
  refine bg_newest hx hb hown hts hK hP db_requireWritable_6 ?_
  obtain ⟨r4, h5, hf⟩ := obs hf
  refine rmI (cb_isKept (l := l) (hfl := hfl) h5) (cw_isKept hts ⟨by decide, by decide⟩) hx hb hml hown hts hK hP va_S.rf hZ hl.1 rfl rfl (lv_room (Nat.le_of_ble_eq_true rfl)) db_requireWritable_9 ⟨by decide, by decide⟩ ?_
  refine lv_if_ne (tgt := 25) hx hb db_requireWritable_12 (by decide) (fun c6 => ?_) (fun c6 => ?_)
  · have hf := ifn c6 hf
    cases hf
    refine W.widen (k := 2) (n := 12) (by decide) (by decide) ?_
    exact er_v hx hb hr hlk db_requireWritable_25
  · have hf := ifp c6 hf
    cases hf
    exact rt_throw th_0_173 hX hl.1 db_requireWritable_15 db_requireWritable_18 db_requireWritable_19 db_requireWritable_21 db_requireWritable_24 ⟨by decide, by decide⟩ ⟨by decide, by decide⟩
set_option maxRecDepth 100000 in
set_option maxHeartbeats 4000000 in
theorem cb_requireWritable {l : Launch} (hfl : l.flags = flags0) {D : va_G} {gm : Nat → Nat} {ca : Nat → ClassId} {st : BSt} {n : Nat} {r : Unit ⊕ Nat} (hf : fb_requireWritable n st = some r) : RM l yb_requireWritable rmb_requireWritable D gm ca [] st (xu r) :=
  RM.of hfl (by decide +kernel) rfl mcb_requireWritable (fun p e s m below meth c hX hP => wb_requireWritable_0 hX hP n _ (lv_entry _ (Nat.le_of_ble_eq_true rfl)) hf)
set_option maxRecDepth 100000 in
set_option maxHeartbeats 4000000 in
theorem wb_requireKey_0 {p : Program} {l : Launch} {e : Env} {s : State} {m : MethodId} {args : Array Value} {below : List Frame} {meth : Method} {c : Code} {D : va_G} {gm : Nat → Nat} {ca : Nat → ClassId} {A : Nat → Prop} {st : BSt} (hX : BX p l e rmb_requireKey s m args meth c D ca A kb_requireKey 2 (none)) (hP : va_P D vwCl (wB gm ca st) s.heap) (n : Nat) : ∀ (x1 : Int32) {r : Unit ⊕ Nat} (ls : Array Slot), lv_has ls 2 [(0, .ref (gm 0)), (1, .int x1)] → fb_requireKey n st x1 = some r → W p l e rmb_requireKey s m args below meth c s.heap [] 0 0 (MQX below (xx_Q (xu r)) args s 1 6 (fun _ => False)) (F0 m 0 ls []) := by
  obtain ⟨hx, hb, hml, hr, hlk, hown, hts, hK, htr, hZ, hnh, hA, hfl⟩ := id hX
  intro x1 r ls hl hf
  rw [fb_requireKey] at hf
  refine lv_iload_n hx hb db_requireKey_0 rfl (lv_at hl 1 rfl) ?_
  refine lv_if_lt (tgt := 10) hx hb db_requireKey_1 (by decide) (fun c1 => ?_) (fun c1 => ?_)
  · have hf := ifp c1 hf
    cases hf
    exact rt_throw th_1_176 hX hl.1 db_requireKey_10 db_requireKey_13 db_requireKey_14 db_requireKey_16 db_requireKey_19 ⟨by decide, by decide⟩ ⟨by decide, by decide⟩
  · have hf := ifn c1 hf
    refine lv_iload_n hx hb db_requireKey_4 rfl (lv_at hl 1 rfl) ?_
    refine lv_ldc (v := 1000000) hx hb hown (kcb_175 hts) db_requireKey_5 ?_
    refine lv_icmp_le (tgt := 20) hx hb db_requireKey_7 (by decide) (fun c2 => ?_) (fun c2 => ?_)
    · have hf := ifp c2 hf
      cases hf
      refine W.widen (k := 1) (n := 6) (by decide) (by decide) ?_
      exact er_v hx hb hr hlk db_requireKey_20
    · have hf := ifn c2 hf
      cases hf
      exact rt_throw th_1_176 hX hl.1 db_requireKey_10 db_requireKey_13 db_requireKey_14 db_requireKey_16 db_requireKey_19 ⟨by decide, by decide⟩ ⟨by decide, by decide⟩
set_option maxRecDepth 100000 in
set_option maxHeartbeats 4000000 in
theorem cb_requireKey {l : Launch} (hfl : l.flags = flags0) {D : va_G} {gm : Nat → Nat} {ca : Nat → ClassId} {st : BSt} {n : Nat} {x1 : Int32} {r : Unit ⊕ Nat} (hf : fb_requireKey n st x1 = some r) : RM l yb_requireKey rmb_requireKey D gm ca [.int x1] st (xu r) :=
  RM.of hfl (by decide +kernel) rfl mcb_requireKey (fun p e s m below meth c hX hP => wb_requireKey_0 hX hP n _ _ (lv_entry _ (Nat.le_of_ble_eq_true rfl)) hf)
set_option maxRecDepth 100000 in
set_option maxHeartbeats 4000000 in
theorem wb_leafFor_18 {p : Program} {l : Launch} {e : Env} {s : State} {m : MethodId} {args : Array Value} {below : List Frame} {meth : Method} {c : Code} {D : va_G} {gm : Nat → Nat} {ca : Nat → ClassId} {A : Nat → Prop} {st : BSt} (hX : BX p l e rmb_leafFor s m args meth c D ca A kb_leafFor 6 (some .int)) (hP : va_P D vwCl (wB gm ca st) s.heap) (n : Nat) :∀ (k : Nat), ∀ (x1 : Int32) (x2 : Int32) (x3 : Int32) (x4 : Int32) (x5 : Int32) {r : Int32} (ls : Array Slot), lv_has ls 6 [(0, .ref (gm 0)), (1, .int x1), (2, .int x2), (3, .int x3), (4, .int x4), (5, .int x5)] → fb_leafFor_18 n k st x1 x2 x3 x4 x5 = some r → W p l e rmb_leafFor s m args below meth c s.heap [] 0 0 (MQX below (xx_Q (XI r)) args s 0 0 (fun _ => False)) (F0 m 18 ls []) := by
  obtain ⟨hx, hb, hml, hr, hlk, hown, hts, hK, htr, hZ, hnh, hA, hfl⟩ := id hX
  intro k
  induction k with
  | zero =>
    intro x1 x2 x3 x4 x5 r ls hl hf
    rw [fb_leafFor_18] at hf
    cases hf
  | succ k ih =>
    intro x1 x2 x3 x4 x5 r ls hl hf
    rw [fb_leafFor_18] at hf
    refine lv_iload hx hb db_leafFor_18 (lv_at hl 5 rfl) ?_
    refine lv_iload_n hx hb db_leafFor_20 rfl (lv_at hl 3 rfl) ?_
    refine lv_icmp_ge (tgt := 51) hx hb db_leafFor_21 (by decide) (fun c1 => ?_) (fun c1 => ?_)
    · have hf := ifp c1 hf
      refine lv_iload hx hb db_leafFor_51 (lv_at hl 4 rfl) ?_
      cases hf
      exact er_i hx hb hr hlk db_leafFor_53
    · have hf := ifn c1 hf
      refine lv_aload_n hx hb db_leafFor_24 rfl (lv_at hl 0 rfl) ?_
      refine lv_aload_n hx hb db_leafFor_25 rfl (lv_at hl 0 rfl) ?_
      refine lv_iload_n hx hb db_leafFor_26 rfl (lv_at hl 1 rfl) ?_
      refine lv_iload hx hb db_leafFor_27 (lv_at hl 5 rfl) ?_
      obtain ⟨r2, h3, hf⟩ := obs hf
      refine rmI (cb_pageOf (l := l) (hfl := hfl) h3) (cw_pageOf hts ⟨by decide, by decide⟩) hx hb hml hown hts hK hP va_S.rf hZ hl.1 rfl rfl (lv_room (Nat.le_of_ble_eq_true rfl)) db_leafFor_29 ⟨by decide, by decide⟩ ?_
      obtain ⟨r4, h5, hf⟩ := obs hf
      refine rmL (cb_firstKey (l := l) (hfl := hfl) h5) (cw_firstKey hts ⟨by decide, by decide⟩) hx hb hml hown hts hK hP va_S.rf hZ hl.1 rfl rfl (lv_room (Nat.le_of_ble_eq_true rfl)) db_leafFor_32 ⟨by decide, by decide⟩ ?_
      refine lv_iload_n hx hb db_leafFor_35 rfl (lv_at hl 2 rfl) ?_
      refine lv_i2l hx hb db_leafFor_36 rfl ?_
      refine W.lcmp hx hb db_leafFor_37 ?_
      refine lv_if_gt (tgt := 45) hx hb db_leafFor_38 (by decide) (fun c6 => ?_) (fun c6 => ?_)
      · have hf := ifp c6 hf
        refine lv_iinc (v := (x5 + 1)) (lv' := [(5, .int (x5 + 1)), (0, .ref (gm 0)), (1, .int x1), (2, .int x2), (3, .int x3), (4, .int x4)]) hx hb db_leafFor_45 hl (k := 5) rfl rfl (by decide) rfl (fun ls hl => ?_)
        refine lv_goto (tgt := 18) hx hb db_leafFor_48 (by decide) ?_
        exact ih _ _ _ _ _ _ (lv_sub hl [1, 2, 3, 4, 5, 0] rfl) hf
      · have hf := ifn c6 hf
        refine lv_iload hx hb db_leafFor_41 (lv_at hl 5 rfl) ?_
        refine lv_istore (lv' := [(4, .int x5), (0, .ref (gm 0)), (1, .int x1), (2, .int x2), (3, .int x3), (5, .int x5)]) hx hb db_leafFor_43 hl (by decide) rfl (fun ls hl => ?_)
        refine lv_iinc (v := (x5 + 1)) (lv' := [(5, .int (x5 + 1)), (4, .int x5), (0, .ref (gm 0)), (1, .int x1), (2, .int x2), (3, .int x3)]) hx hb db_leafFor_45 hl (k := 5) rfl rfl (by decide) rfl (fun ls hl => ?_)
        refine lv_goto (tgt := 18) hx hb db_leafFor_48 (by decide) ?_
        exact ih _ _ _ _ _ _ (lv_sub hl [2, 3, 4, 5, 1, 0] rfl) hf
set_option maxRecDepth 100000 in
set_option maxHeartbeats 4000000 in
theorem wb_leafFor_0 {p : Program} {l : Launch} {e : Env} {s : State} {m : MethodId} {args : Array Value} {below : List Frame} {meth : Method} {c : Code} {D : va_G} {gm : Nat → Nat} {ca : Nat → ClassId} {A : Nat → Prop} {st : BSt} (hX : BX p l e rmb_leafFor s m args meth c D ca A kb_leafFor 6 (some .int)) (hP : va_P D vwCl (wB gm ca st) s.heap) (n : Nat) : ∀ (x1 : Int32) (x2 : Int32) {r : Int32} (ls : Array Slot), lv_has ls 6 [(0, .ref (gm 0)), (1, .int x1), (2, .int x2)] → fb_leafFor n st x1 x2 = some r → W p l e rmb_leafFor s m args below meth c s.heap [] 0 0 (MQX below (xx_Q (XI r)) args s 0 0 (fun _ => False)) (F0 m 0 ls []) := by
  obtain ⟨hx, hb, hml, hr, hlk, hown, hts, hK, htr, hZ, hnh, hA, hfl⟩ := id hX
  intro x1 x2 r ls hl hf
  rw [fb_leafFor] at hf
  refine lv_aload_n hx hb db_leafFor_0 rfl (lv_at hl 0 rfl) ?_
  refine lv_iload_n hx hb db_leafFor_1 rfl (lv_at hl 1 rfl) ?_
  obtain ⟨r1, h2, hf⟩ := obs hf
  refine rmI (cb_leavesOf (l := l) (hfl := hfl) h2) (cw_leavesOf hts ⟨by decide, by decide⟩) hx hb hml hown hts hK hP va_S.rf hZ hl.1 rfl rfl (lv_room (Nat.le_of_ble_eq_true rfl)) db_leafFor_2 ⟨by decide, by decide⟩ ?_
  refine lv_istore_n (lv' := [(3, .int r1), (0, .ref (gm 0)), (1, .int x1), (2, .int x2)]) hx hb db_leafFor_5 rfl hl (by decide) rfl (fun ls hl => ?_)
  refine lv_iload_n hx hb db_leafFor_6 rfl (lv_at hl 0 rfl) ?_
  refine lv_if_ne (tgt := 12) hx hb db_leafFor_7 (by decide) (fun c3 => ?_) (fun c3 => ?_)
  · have hf := ifn c3 hf
    refine lv_iconst (v := 0) hx hb db_leafFor_12 (by decide) ?_
    refine lv_istore (lv' := [(4, .int 0), (3, .int r1), (0, .ref (gm 0)), (1, .int x1), (2, .int x2)]) hx hb db_leafFor_13 hl (by decide) rfl (fun ls hl => ?_)
    refine lv_iconst (v := 1) hx hb db_leafFor_15 (by decide) ?_
    refine lv_istore (lv' := [(5, .int 1), (4, .int 0), (3, .int r1), (0, .ref (gm 0)), (1, .int x1), (2, .int x2)]) hx hb db_leafFor_16 hl (by decide) rfl (fun ls hl => ?_)
    exact wb_leafFor_18 hX hP n n _ _ _ _ _ _ (lv_sub hl [3, 4, 5, 2, 1, 0] rfl) hf
  · have hf := ifp c3 hf
    refine lv_iconst (v := (-1)) hx hb db_leafFor_10 (by decide) ?_
    cases hf
    exact er_i hx hb hr hlk db_leafFor_11
set_option maxRecDepth 100000 in
set_option maxHeartbeats 4000000 in
theorem cb_leafFor {l : Launch} (hfl : l.flags = flags0) {D : va_G} {gm : Nat → Nat} {ca : Nat → ClassId} {st : BSt} {n : Nat} {x1 : Int32} {x2 : Int32} {r : Int32} (hf : fb_leafFor n st x1 x2 = some r) : RM l yb_leafFor rmb_leafFor D gm ca [.int x1, .int x2] st (XI r) :=
  RM.of hfl (by decide +kernel) rfl mcb_leafFor (fun p e s m below meth c hX hP => wb_leafFor_0 hX hP n _ _ _ (lv_entry _ (Nat.le_of_ble_eq_true rfl)) hf)
set_option maxRecDepth 100000 in
set_option maxHeartbeats 4000000 in
theorem wb_loadDraft_28 {p : Program} {l : Launch} {e : Env} {s : State} {m : MethodId} {args : Array Value} {below : List Frame} {meth : Method} {c : Code} {D : va_G} {gm : Nat → Nat} {ca : Nat → ClassId} {A : Nat → Prop} (hX : BX p l e rmb_loadDraft s m args meth c D ca A kb_loadDraft 6 (none)) (n : Nat) :∀ (k : Nat), ∀ (st : BSt) (x3 : Int32) (x4 : Int32) (x5 : Int32) {st' : BSt} (ls : Array Slot) (H : Heap) (locs : List Loc), BWd D gm ca A s.heap st H locs → lv_has ls 6 [(0, .ref (gm 0)), (3, .int x3), (4, .int x4), (5, .int x5)] → fb_loadDraft_28 n k st x3 x4 x5 = some st' → W p l e rmb_loadDraft s m args below meth c H locs 0 0 (MQX below (mm_Q D gm ca A (XV) st') args s 0 0 A) (F0 m 28 ls []) := by
  obtain ⟨hx, hb, hml, hr, hlk, hown, hts, hK, htr, hZ, hnh, hA, hfl⟩ := id hX
  intro k
  induction k with
  | zero =>
    intro st x3 x4 x5 st' ls H locs hB hl hf
    rw [fb_loadDraft_28] at hf
    cases hf
  | succ k ih =>
    intro st x3 x4 x5 st' ls H locs hB hl hf
    rw [fb_loadDraft_28] at hf
    refine lv_iload hx hb db_loadDraft_28 (lv_at hl 3 rfl) ?_
    refine lv_iload hx hb db_loadDraft_30 (lv_at hl 2 rfl) ?_
    refine lv_icmp_ge (tgt := 79) hx hb db_loadDraft_32 (by decide) (fun c1 => ?_) (fun c1 => ?_)
    · have hf := ifp c1 hf
      refine lv_aload_n hx hb db_loadDraft_79 rfl (lv_at hl 0 rfl) ?_
      refine lv_iload hx hb db_loadDraft_80 (lv_at hl 2 rfl) ?_
      refine bp_draftCount hx hb hown hts hK hB db_loadDraft_82 (fun H locs hB => ?_)
      cases hf
      exact em_v hx hb hr hlk hB db_loadDraft_85
    · have hf := ifn c1 hf
      refine lv_aload_n hx hb db_loadDraft_35 rfl (lv_at hl 0 rfl) ?_
      refine bg_draftKeys hx hb hown hts hK hB.1 db_loadDraft_36 ?_
      refine lv_iload hx hb db_loadDraft_39 (lv_at hl 3 rfl) ?_
      refine lv_aload_n hx hb db_loadDraft_41 rfl (lv_at hl 0 rfl) ?_
      refine bg_pages hx hb hown hts hK hB.1 db_loadDraft_42 ?_
      refine lv_iload_n hx hb db_loadDraft_45 rfl (lv_at hl 1 rfl) ?_
      refine lv_iload hx hb db_loadDraft_46 (lv_at hl 3 rfl) ?_
      obtain ⟨r2, h3, hf⟩ := obs hf
      refine smI (cb_entryAt (l := l) (hfl := hfl) h3) (cw_entryAt hts ⟨by decide, by decide⟩) hx hb hml hown hts hl.1 rfl rfl (lv_room (Nat.le_of_ble_eq_true rfl)) db_loadDraft_48 ⟨by decide, by decide⟩ ?_
      obtain ⟨r4, er4, ir4, hf⟩ := rdL_some hf
      refine bl_pages hx hb hK hB.1 ir4 er4 db_loadDraft_51 ?_
      obtain ⟨a5, ea5, ia5, hf⟩ := wrL_some hf
      refine bt_draftKeys hx hb hK hB ia5 ea5 db_loadDraft_52 (fun H locs hB => ?_)
      refine lv_aload_n hx hb db_loadDraft_53 rfl (lv_at hl 0 rfl) ?_
      refine bg_draftValues hx hb hown hts hK hB.1 db_loadDraft_54 ?_
      refine lv_iload hx hb db_loadDraft_57 (lv_at hl 3 rfl) ?_
      refine lv_aload_n hx hb db_loadDraft_59 rfl (lv_at hl 0 rfl) ?_
      refine bg_pages hx hb hown hts hK hB.1 db_loadDraft_60 ?_
      refine lv_iload_n hx hb db_loadDraft_63 rfl (lv_at hl 1 rfl) ?_
      refine lv_iload hx hb db_loadDraft_64 (lv_at hl 3 rfl) ?_
      obtain ⟨r6, h7, hf⟩ := obs hf
      refine smI (cb_entryAt (l := l) (hfl := hfl) h7) (cw_entryAt hts ⟨by decide, by decide⟩) hx hb hml hown hts hl.1 rfl rfl (lv_room (Nat.le_of_ble_eq_true rfl)) db_loadDraft_66 ⟨by decide, by decide⟩ ?_
      refine lv_iconst (v := 1) hx hb db_loadDraft_69 (by decide) ?_
      refine lv_iadd hx hb db_loadDraft_70 ?_
      obtain ⟨r8, er8, ir8, hf⟩ := rdL_some hf
      refine bl_pages hx hb hK hB.1 ir8 er8 db_loadDraft_71 ?_
      obtain ⟨a9, ea9, ia9, hf⟩ := wrL_some hf
      refine bt_draftValues hx hb hK hB ia9 ea9 db_loadDraft_72 (fun H locs hB => ?_)
      refine lv_iinc (v := (x5 + 1)) (lv' := [(5, .int (x5 + 1)), (0, .ref (gm 0)), (3, .int x3), (4, .int x4)]) hx hb db_loadDraft_73 hl (k := 3) rfl rfl (by decide) rfl (fun ls hl => ?_)
      refine lv_goto (tgt := 28) hx hb db_loadDraft_76 (by decide) ?_
      exact ih _ _ _ _ _ _ _ hB (lv_sub hl [1, 2, 3, 0] rfl) hf
set_option maxRecDepth 100000 in
set_option maxHeartbeats 4000000 in
theorem wb_loadDraft_0 {p : Program} {l : Launch} {e : Env} {s : State} {m : MethodId} {args : Array Value} {below : List Frame} {meth : Method} {c : Code} {D : va_G} {gm : Nat → Nat} {ca : Nat → ClassId} {A : Nat → Prop} {st : BSt} (hX : BX p l e rmb_loadDraft s m args meth c D ca A kb_loadDraft 6 (none)) (hB : BWd D gm ca A s.heap st s.heap []) (n : Nat) : ∀ (x1 : Int32) (x2 : Int32) {st' : BSt} (ls : Array Slot), lv_has ls 6 [(0, .ref (gm 0)), (1, .int x1), (2, .int x2)] → fb_loadDraft n st x1 x2 = some st' → W p l e rmb_loadDraft s m args below meth c s.heap [] 0 0 (MQX below (mm_Q D gm ca A (XV) st') args s 0 0 A) (F0 m 0 ls []) := by
  obtain ⟨hx, hb, hml, hr, hlk, hown, hts, hK, htr, hZ, hnh, hA, hfl⟩ := id hX
  intro x1 x2 st' ls hl hf
  rw [fb_loadDraft] at hf
  refine lv_aload_n hx hb db_loadDraft_0 rfl (lv_at hl 0 rfl) ?_
  refine lv_iconst (v := 0) hx hb db_loadDraft_1 (by decide) ?_
  refine bp_draftCount hx hb hown hts hK hB db_loadDraft_2 (fun H locs hB => ?_)
  refine lv_iload_n hx hb db_loadDraft_5 rfl (lv_at hl 2 rfl) ?_
  refine lv_iconst (v := (-1)) hx hb db_loadDraft_6 (by decide) ?_
  refine lv_icmp_ne (tgt := 11) hx hb db_loadDraft_7 (by decide) (fun c1 => ?_) (fun c1 => ?_)
  · have hf := ifn c1 hf
    refine lv_aload_n hx hb db_loadDraft_11 rfl (lv_at hl 0 rfl) ?_
    refine lv_iload_n hx hb db_loadDraft_12 rfl (lv_at hl 1 rfl) ?_
    refine lv_iload_n hx hb db_loadDraft_13 rfl (lv_at hl 2 rfl) ?_
    obtain ⟨r2, h3, hf⟩ := obs hf
    refine rmI (cb_pageOf (l := l) (hfl := hfl) h3) (cw_pageOf hts ⟨by decide, by decide⟩) hx hb hml hown hts hK hB.1 hB.2.2 hZ hl.1 rfl rfl (lv_room (Nat.le_of_ble_eq_true rfl)) db_loadDraft_14 ⟨by decide, by decide⟩ ?_
    refine lv_istore_n (lv' := [(3, .int r2), (0, .ref (gm 0)), (1, .int x1), (2, .int x2)]) hx hb db_loadDraft_17 rfl hl (by decide) rfl (fun ls hl => ?_)
    refine lv_aload_n hx hb db_loadDraft_18 rfl (lv_at hl 1 rfl) ?_
    refine lv_iload_n hx hb db_loadDraft_19 rfl (lv_at hl 0 rfl) ?_
    obtain ⟨r4, h5, hf⟩ := obs hf
    refine rmI (cb_entriesOf (l := l) (hfl := hfl) h5) (cw_entriesOf hts ⟨by decide, by decide⟩) hx hb hml hown hts hK hB.1 hB.2.2 hZ hl.1 rfl rfl (lv_room (Nat.le_of_ble_eq_true rfl)) db_loadDraft_20 ⟨by decide, by decide⟩ ?_
    refine lv_istore (lv' := [(4, .int r4), (3, .int r2), (0, .ref (gm 0)), (1, .int x1), (2, .int x2)]) hx hb db_loadDraft_23 hl (by decide) rfl (fun ls hl => ?_)
    refine lv_iconst (v := 0) hx hb db_loadDraft_25 (by decide) ?_
    refine lv_istore (lv' := [(5, .int 0), (4, .int r4), (3, .int r2), (0, .ref (gm 0)), (1, .int x1), (2, .int x2)]) hx hb db_loadDraft_26 hl (by decide) rfl (fun ls hl => ?_)
    exact wb_loadDraft_28 hX n n _ _ _ _ _ _ _ hB (lv_sub hl [3, 2, 1, 0] rfl) hf
  · have hf := ifp c1 hf
    cases hf
    exact em_v hx hb hr hlk hB db_loadDraft_10
set_option maxRecDepth 100000 in
set_option maxHeartbeats 4000000 in
theorem cb_loadDraft {l : Launch} (hfl : l.flags = flags0) {D : va_G} {gm : Nat → Nat} {ca : Nat → ClassId} {st : BSt} {n : Nat} {x1 : Int32} {x2 : Int32} {st' : BSt} (hf : fb_loadDraft n st x1 x2 = some st') : MM l yb_loadDraft rmb_loadDraft D gm ca [.int x1, .int x2] st (XV) st' :=
  MM.of hfl (by decide +kernel) rfl mcb_loadDraft (fun p e s m below meth c A _ hX hB => wb_loadDraft_0 hX hB n _ _ _ (lv_entry _ (Nat.le_of_ble_eq_true rfl)) hf)
set_option maxRecDepth 100000 in
set_option maxHeartbeats 4000000 in
theorem wb_placeInDraft_2 {p : Program} {l : Launch} {e : Env} {s : State} {m : MethodId} {args : Array Value} {below : List Frame} {meth : Method} {c : Code} {D : va_G} {gm : Nat → Nat} {ca : Nat → ClassId} {A : Nat → Prop} {st : BSt} (hX : BX p l e rmb_placeInDraft s m args meth c D ca A kb_placeInDraft 3 (some .int)) (hP : va_P D vwCl (wB gm ca st) s.heap) (n : Nat) :∀ (k : Nat), ∀ (x1 : Int32) (x2 : Int32) {r : Int32} (ls : Array Slot), lv_has ls 3 [(0, .ref (gm 0)), (1, .int x1), (2, .int x2)] → fb_placeInDraft_2 n k st x1 x2 = some r → W p l e rmb_placeInDraft s m args below meth c s.heap [] 0 0 (MQX below (xx_Q (XI r)) args s 0 0 (fun _ => False)) (F0 m 2 ls []) := by
  obtain ⟨hx, hb, hml, hr, hlk, hown, hts, hK, htr, hZ, hnh, hA, hfl⟩ := id hX
  intro k
  induction k with
  | zero =>
    intro x1 x2 r ls hl hf
    rw [fb_placeInDraft_2] at hf
    cases hf
  | succ k ih =>
    intro x1 x2 r ls hl hf
    rw [fb_placeInDraft_2] at hf
    refine lv_iload_n hx hb db_placeInDraft_2 rfl (lv_at hl 2 rfl) ?_
    refine lv_aload_n hx hb db_placeInDraft_3 rfl (lv_at hl 0 rfl) ?_
    refine bg_draftCount hx hb hown hts hK hP db_placeInDraft_4 ?_
    refine lv_icmp_ge (tgt := 28) hx hb db_placeInDraft_7 (by decide) (fun c1 => ?_) (fun c1 => ?_)
    · have hf := ifp c1 hf
      refine lv_iload_n hx hb db_placeInDraft_28 rfl (lv_at hl 2 rfl) ?_
      cases hf
      exact er_i hx hb hr hlk db_placeInDraft_29
    · have hf := ifn c1 hf
      refine lv_aload_n hx hb db_placeInDraft_10 rfl (lv_at hl 0 rfl) ?_
      refine bg_draftKeys hx hb hown hts hK hP db_placeInDraft_11 ?_
      refine lv_iload_n hx hb db_placeInDraft_14 rfl (lv_at hl 2 rfl) ?_
      obtain ⟨r2, er2, ir2, hf⟩ := rdL_some hf
      refine bl_draftKeys hx hb hK hP ir2 er2 db_placeInDraft_15 ?_
      refine lv_iload_n hx hb db_placeInDraft_16 rfl (lv_at hl 1 rfl) ?_
      refine lv_i2l hx hb db_placeInDraft_17 rfl ?_
      refine W.lcmp hx hb db_placeInDraft_18 ?_
      refine lv_if_ge (tgt := 28) hx hb db_placeInDraft_19 (by decide) (fun c3 => ?_) (fun c3 => ?_)
      · have hf := ifp c3 hf
        refine lv_iload_n hx hb db_placeInDraft_28 rfl (lv_at hl 2 rfl) ?_
        cases hf
        exact er_i hx hb hr hlk db_placeInDraft_29
      · have hf := ifn c3 hf
        refine lv_iinc (v := (x2 + 1)) (lv' := [(2, .int (x2 + 1)), (0, .ref (gm 0)), (1, .int x1)]) hx hb db_placeInDraft_22 hl (k := 2) rfl rfl (by decide) rfl (fun ls hl => ?_)
        refine lv_goto (tgt := 2) hx hb db_placeInDraft_25 (by decide) ?_
        exact ih _ _ _ (lv_sub hl [1, 2, 0] rfl) hf
set_option maxRecDepth 100000 in
set_option maxHeartbeats 4000000 in
theorem wb_placeInDraft_0 {p : Program} {l : Launch} {e : Env} {s : State} {m : MethodId} {args : Array Value} {below : List Frame} {meth : Method} {c : Code} {D : va_G} {gm : Nat → Nat} {ca : Nat → ClassId} {A : Nat → Prop} {st : BSt} (hX : BX p l e rmb_placeInDraft s m args meth c D ca A kb_placeInDraft 3 (some .int)) (hP : va_P D vwCl (wB gm ca st) s.heap) (n : Nat) : ∀ (x1 : Int32) {r : Int32} (ls : Array Slot), lv_has ls 3 [(0, .ref (gm 0)), (1, .int x1)] → fb_placeInDraft n st x1 = some r → W p l e rmb_placeInDraft s m args below meth c s.heap [] 0 0 (MQX below (xx_Q (XI r)) args s 0 0 (fun _ => False)) (F0 m 0 ls []) := by
  obtain ⟨hx, hb, hml, hr, hlk, hown, hts, hK, htr, hZ, hnh, hA, hfl⟩ := id hX
  intro x1 r ls hl hf
  rw [fb_placeInDraft] at hf
  refine lv_iconst (v := 0) hx hb db_placeInDraft_0 (by decide) ?_
  refine lv_istore_n (lv' := [(2, .int 0), (0, .ref (gm 0)), (1, .int x1)]) hx hb db_placeInDraft_1 rfl hl (by decide) rfl (fun ls hl => ?_)
  exact wb_placeInDraft_2 hX hP n n _ _ _ (lv_sub hl [1, 2, 0] rfl) hf
set_option maxRecDepth 100000 in
set_option maxHeartbeats 4000000 in
theorem cb_placeInDraft {l : Launch} (hfl : l.flags = flags0) {D : va_G} {gm : Nat → Nat} {ca : Nat → ClassId} {st : BSt} {n : Nat} {x1 : Int32} {r : Int32} (hf : fb_placeInDraft n st x1 = some r) : RM l yb_placeInDraft rmb_placeInDraft D gm ca [.int x1] st (XI r) :=
  RM.of hfl (by decide +kernel) rfl mcb_placeInDraft (fun p e s m below meth c hX hP => wb_placeInDraft_0 hX hP n _ _ (lv_entry _ (Nat.le_of_ble_eq_true rfl)) hf)
set_option maxRecDepth 100000 in
set_option maxHeartbeats 4000000 in
theorem wb_draftHasAt_0 {p : Program} {l : Launch} {e : Env} {s : State} {m : MethodId} {args : Array Value} {below : List Frame} {meth : Method} {c : Code} {D : va_G} {gm : Nat → Nat} {ca : Nat → ClassId} {A : Nat → Prop} {st : BSt} (hX : BX p l e rmb_draftHasAt s m args meth c D ca A kb_draftHasAt 3 (some .boolean)) (hP : va_P D vwCl (wB gm ca st) s.heap) (n : Nat) : ∀ (x1 : Int32) (x2 : Int32) {r : Int32} (ls : Array Slot), lv_has ls 3 [(0, .ref (gm 0)), (1, .int x1), (2, .int x2)] → fb_draftHasAt n st x1 x2 = some r → W p l e rmb_draftHasAt s m args below meth c s.heap [] 0 0 (MQX below (xx_Q (XI r)) args s 0 0 (fun _ => False)) (F0 m 0 ls []) := by
  obtain ⟨hx, hb, hml, hr, hlk, hown, hts, hK, htr, hZ, hnh, hA, hfl⟩ := id hX
  intro x1 x2 r ls hl hf
  rw [fb_draftHasAt] at hf
  refine lv_iload_n hx hb db_draftHasAt_0 rfl (lv_at hl 1 rfl) ?_
  refine lv_aload_n hx hb db_draftHasAt_1 rfl (lv_at hl 0 rfl) ?_
  refine bg_draftCount hx hb hown hts hK hP db_draftHasAt_2 ?_
  refine lv_icmp_ge (tgt := 24) hx hb db_draftHasAt_5 (by decide) (fun c1 => ?_) (fun c1 => ?_)
  · have hf := ifp c1 hf
    refine lv_iconst (v := 0) hx hb db_draftHasAt_24 (by decide) ?_
    cases hf
    exact er_z hx hb hr hlk rfl db_draftHasAt_25
  · have hf := ifn c1 hf
    refine lv_aload_n hx hb db_draftHasAt_8 rfl (lv_at hl 0 rfl) ?_
    refine bg_draftKeys hx hb hown hts hK hP db_draftHasAt_9 ?_
    refine lv_iload_n hx hb db_draftHasAt_12 rfl (lv_at hl 1 rfl) ?_
    obtain ⟨r2, er2, ir2, hf⟩ := rdL_some hf
    refine bl_draftKeys hx hb hK hP ir2 er2 db_draftHasAt_13 ?_
    refine lv_iload_n hx hb db_draftHasAt_14 rfl (lv_at hl 2 rfl) ?_
    refine lv_i2l hx hb db_draftHasAt_15 rfl ?_
    refine W.lcmp hx hb db_draftHasAt_16 ?_
    refine lv_if_ne (tgt := 24) hx hb db_draftHasAt_17 (by decide) (fun c3 => ?_) (fun c3 => ?_)
    · have hf := ifn c3 hf
      refine lv_iconst (v := 0) hx hb db_draftHasAt_24 (by decide) ?_
      cases hf
      exact er_z hx hb hr hlk rfl db_draftHasAt_25
    · have hf := ifp c3 hf
      refine lv_iconst (v := 1) hx hb db_draftHasAt_20 (by decide) ?_
      refine lv_goto (tgt := 25) hx hb db_draftHasAt_21 (by decide) ?_
      cases hf
      exact er_z hx hb hr hlk rfl db_draftHasAt_25
set_option maxRecDepth 100000 in
set_option maxHeartbeats 4000000 in
theorem cb_draftHasAt {l : Launch} (hfl : l.flags = flags0) {D : va_G} {gm : Nat → Nat} {ca : Nat → ClassId} {st : BSt} {n : Nat} {x1 : Int32} {x2 : Int32} {r : Int32} (hf : fb_draftHasAt n st x1 x2 = some r) : RM l yb_draftHasAt rmb_draftHasAt D gm ca [.int x1, .int x2] st (XI r) :=
  RM.of hfl (by decide +kernel) rfl mcb_draftHasAt (fun p e s m below meth c hX hP => wb_draftHasAt_0 hX hP n _ _ _ (lv_entry _ (Nat.le_of_ble_eq_true rfl)) hf)
set_option maxRecDepth 100000 in
set_option maxHeartbeats 4000000 in
theorem wb_putInDraft_23 {p : Program} {l : Launch} {e : Env} {s : State} {m : MethodId} {args : Array Value} {below : List Frame} {meth : Method} {c : Code} {D : va_G} {gm : Nat → Nat} {ca : Nat → ClassId} {A : Nat → Prop} (hX : BX p l e rmb_putInDraft s m args meth c D ca A kb_putInDraft 6 (none)) (n : Nat) :∀ (k : Nat), ∀ (st : BSt) (x1 : Int32) (x2 : Int64) (x4 : Int32) (x5 : Int32) {st' : BSt} (ls : Array Slot) (H : Heap) (locs : List Loc), BWd D gm ca A s.heap st H locs → lv_has ls 6 [(0, .ref (gm 0)), (1, .int x1), (2, .long x2), (4, .int x4), (5, .int x5)] → fb_putInDraft_23 n k st x1 x2 x4 x5 = some st' → W p l e rmb_putInDraft s m args below meth c H locs 0 0 (MQX below (mm_Q D gm ca A (XV) st') args s 0 0 A) (F0 m 23 ls []) := by
  obtain ⟨hx, hb, hml, hr, hlk, hown, hts, hK, htr, hZ, hnh, hA, hfl⟩ := id hX
  intro k
  induction k with
  | zero =>
    intro st x1 x2 x4 x5 st' ls H locs hB hl hf
    rw [fb_putInDraft_23] at hf
    cases hf
  | succ k ih =>
    intro st x1 x2 x4 x5 st' ls H locs hB hl hf
    rw [fb_putInDraft_23] at hf
    refine lv_iload hx hb db_putInDraft_23 (lv_at hl 4 rfl) ?_
    refine lv_iload hx hb db_putInDraft_25 (lv_at hl 3 rfl) ?_
    refine lv_icmp_le (tgt := 68) hx hb db_putInDraft_27 (by decide) (fun c1 => ?_) (fun c1 => ?_)
    · have hf := ifp c1 hf
      refine lv_aload_n hx hb db_putInDraft_68 rfl (lv_at hl 0 rfl) ?_
      refine lv_dup hx hb db_putInDraft_69 rfl ?_
      refine bg_draftCount hx hb hown hts hK hB.1 db_putInDraft_70 ?_
      refine lv_iconst (v := 1) hx hb db_putInDraft_73 (by decide) ?_
      refine lv_iadd hx hb db_putInDraft_74 ?_
      refine bp_draftCount hx hb hown hts hK hB db_putInDraft_75 (fun H locs hB => ?_)
      refine lv_aload_n hx hb db_putInDraft_78 rfl (lv_at hl 0 rfl) ?_
      refine bg_draftKeys hx hb hown hts hK hB.1 db_putInDraft_79 ?_
      refine lv_iload hx hb db_putInDraft_82 (lv_at hl 3 rfl) ?_
      refine lv_iload_n hx hb db_putInDraft_84 rfl (lv_at hl 1 rfl) ?_
      refine lv_i2l hx hb db_putInDraft_85 rfl ?_
      obtain ⟨a2, ea2, ia2, hf⟩ := wrL_some hf
      refine bt_draftKeys hx hb hK hB ia2 ea2 db_putInDraft_86 (fun H locs hB => ?_)
      refine lv_aload_n hx hb db_putInDraft_87 rfl (lv_at hl 0 rfl) ?_
      refine bg_draftValues hx hb hown hts hK hB.1 db_putInDraft_88 ?_
      refine lv_iload hx hb db_putInDraft_91 (lv_at hl 3 rfl) ?_
      refine lv_lload_n hx hb db_putInDraft_93 rfl (lv_at hl 2 rfl) ?_
      obtain ⟨a3, ea3, ia3, hf⟩ := wrL_some hf
      refine bt_draftValues hx hb hK hB ia3 ea3 db_putInDraft_94 (fun H locs hB => ?_)
      cases hf
      exact em_v hx hb hr hlk hB db_putInDraft_95
    · have hf := ifn c1 hf
      refine lv_aload_n hx hb db_putInDraft_30 rfl (lv_at hl 0 rfl) ?_
      refine bg_draftKeys hx hb hown hts hK hB.1 db_putInDraft_31 ?_
      refine lv_iload hx hb db_putInDraft_34 (lv_at hl 4 rfl) ?_
      refine lv_aload_n hx hb db_putInDraft_36 rfl (lv_at hl 0 rfl) ?_
      refine bg_draftKeys hx hb hown hts hK hB.1 db_putInDraft_37 ?_
      refine lv_iload hx hb db_putInDraft_40 (lv_at hl 4 rfl) ?_
      refine lv_iconst (v := 1) hx hb db_putInDraft_42 (by decide) ?_
      refine lv_isub hx hb db_putInDraft_43 ?_
      obtain ⟨r4, er4, ir4, hf⟩ := rdL_some hf
      refine bl_draftKeys hx hb hK hB.1 ir4 er4 db_putInDraft_44 ?_
      obtain ⟨a5, ea5, ia5, hf⟩ := wrL_some hf
      refine bt_draftKeys hx hb hK hB ia5 ea5 db_putInDraft_45 (fun H locs hB => ?_)
      refine lv_aload_n hx hb db_putInDraft_46 rfl (lv_at hl 0 rfl) ?_
      refine bg_draftValues hx hb hown hts hK hB.1 db_putInDraft_47 ?_
      refine lv_iload hx hb db_putInDraft_50 (lv_at hl 4 rfl) ?_
      refine lv_aload_n hx hb db_putInDraft_52 rfl (lv_at hl 0 rfl) ?_
      refine bg_draftValues hx hb hown hts hK hB.1 db_putInDraft_53 ?_
      refine lv_iload hx hb db_putInDraft_56 (lv_at hl 4 rfl) ?_
      refine lv_iconst (v := 1) hx hb db_putInDraft_58 (by decide) ?_
      refine lv_isub hx hb db_putInDraft_59 ?_
      obtain ⟨r6, er6, ir6, hf⟩ := rdL_some hf
      refine bl_draftValues hx hb hK hB.1 ir6 er6 db_putInDraft_60 ?_
      obtain ⟨a7, ea7, ia7, hf⟩ := wrL_some hf
      refine bt_draftValues hx hb hK hB ia7 ea7 db_putInDraft_61 (fun H locs hB => ?_)
      refine lv_iinc (v := (x5 + (-1))) (lv' := [(5, .int (x5 + (-1))), (0, .ref (gm 0)), (1, .int x1), (2, .long x2), (4, .int x4)]) hx hb db_putInDraft_62 hl (k := 4) rfl rfl (by decide) rfl (fun ls hl => ?_)
      refine lv_goto (tgt := 23) hx hb db_putInDraft_65 (by decide) ?_
      exact ih _ _ _ _ _ _ _ _ hB (lv_sub hl [1, 2, 3, 4, 0] rfl) hf
set_option maxRecDepth 100000 in
set_option maxHeartbeats 4000000 in
theorem wb_putInDraft_0 {p : Program} {l : Launch} {e : Env} {s : State} {m : MethodId} {args : Array Value} {below : List Frame} {meth : Method} {c : Code} {D : va_G} {gm : Nat → Nat} {ca : Nat → ClassId} {A : Nat → Prop} {st : BSt} (hX : BX p l e rmb_putInDraft s m args meth c D ca A kb_putInDraft 6 (none)) (hB : BWd D gm ca A s.heap st s.heap []) (n : Nat) : ∀ (x1 : Int32) (x2 : Int64) {st' : BSt} (ls : Array Slot), lv_has ls 6 [(0, .ref (gm 0)), (1, .int x1), (2, .long x2)] → fb_putInDraft n st x1 x2 = some st' → W p l e rmb_putInDraft s m args below meth c s.heap [] 0 0 (MQX below (mm_Q D gm ca A (XV) st') args s 0 0 A) (F0 m 0 ls []) := by
  obtain ⟨hx, hb, hml, hr, hlk, hown, hts, hK, htr, hZ, hnh, hA, hfl⟩ := id hX
  intro x1 x2 st' ls hl hf
  rw [fb_putInDraft] at hf
  refine lv_aload_n hx hb db_putInDraft_0 rfl (lv_at hl 0 rfl) ?_
  refine lv_iload_n hx hb db_putInDraft_1 rfl (lv_at hl 1 rfl) ?_
  obtain ⟨r1, h2, hf⟩ := obs hf
  refine rmI (cb_placeInDraft (l := l) (hfl := hfl) h2) (cw_placeInDraft hts ⟨by decide, by decide⟩) hx hb hml hown hts hK hB.1 hB.2.2 hZ hl.1 rfl rfl (lv_room (Nat.le_of_ble_eq_true rfl)) db_putInDraft_2 ⟨by decide, by decide⟩ ?_
  refine lv_istore (lv' := [(4, .int r1), (0, .ref (gm 0)), (1, .int x1), (2, .long x2)]) hx hb db_putInDraft_5 hl (by decide) rfl (fun ls hl => ?_)
  refine lv_aload_n hx hb db_putInDraft_7 rfl (lv_at hl 1 rfl) ?_
  refine lv_iload hx hb db_putInDraft_8 (lv_at hl 0 rfl) ?_
  refine lv_iload_n hx hb db_putInDraft_10 rfl (lv_at hl 2 rfl) ?_
  obtain ⟨r3, h4, hf⟩ := obs hf
  refine rmI (cb_draftHasAt (l := l) (hfl := hfl) h4) (cw_draftHasAt hts ⟨by decide, by decide⟩) hx hb hml hown hts hK hB.1 hB.2.2 hZ hl.1 rfl rfl (lv_room (Nat.le_of_ble_eq_true rfl)) db_putInDraft_11 ⟨by decide, by decide⟩ ?_
  refine lv_if_ne (tgt := 78) hx hb db_putInDraft_14 (by decide) (fun c5 => ?_) (fun c5 => ?_)
  · have hf := ifn c5 hf
    refine lv_aload_n hx hb db_putInDraft_78 rfl (lv_at hl 1 rfl) ?_
    refine bg_draftKeys hx hb hown hts hK hB.1 db_putInDraft_79 ?_
    refine lv_iload hx hb db_putInDraft_82 (lv_at hl 0 rfl) ?_
    refine lv_iload_n hx hb db_putInDraft_84 rfl (lv_at hl 2 rfl) ?_
    refine lv_i2l hx hb db_putInDraft_85 rfl ?_
    obtain ⟨a6, ea6, ia6, hf⟩ := wrL_some hf
    refine bt_draftKeys hx hb hK hB ia6 ea6 db_putInDraft_86 (fun H locs hB => ?_)
    refine lv_aload_n hx hb db_putInDraft_87 rfl (lv_at hl 1 rfl) ?_
    refine bg_draftValues hx hb hown hts hK hB.1 db_putInDraft_88 ?_
    refine lv_iload hx hb db_putInDraft_91 (lv_at hl 0 rfl) ?_
    refine lv_lload_n hx hb db_putInDraft_93 rfl (lv_at hl 3 rfl) ?_
    obtain ⟨a7, ea7, ia7, hf⟩ := wrL_some hf
    refine bt_draftValues hx hb hK hB ia7 ea7 db_putInDraft_94 (fun H locs hB => ?_)
    cases hf
    exact em_v hx hb hr hlk hB db_putInDraft_95
  · have hf := ifp c5 hf
    refine lv_aload_n hx hb db_putInDraft_17 rfl (lv_at hl 1 rfl) ?_
    refine bg_draftCount hx hb hown hts hK hB.1 db_putInDraft_18 ?_
    refine lv_istore (lv' := [(5, .int (bs_draftCount st)), (4, .int r1), (0, .ref (gm 0)), (1, .int x1), (2, .long x2)]) hx hb db_putInDraft_21 hl (by decide) rfl (fun ls hl => ?_)
    exact wb_putInDraft_23 hX n n _ _ _ _ _ _ _ _ hB (lv_sub hl [2, 3, 4, 1, 0] rfl) hf
set_option maxRecDepth 100000 in
set_option maxHeartbeats 4000000 in
theorem cb_putInDraft {l : Launch} (hfl : l.flags = flags0) {D : va_G} {gm : Nat → Nat} {ca : Nat → ClassId} {st : BSt} {n : Nat} {x1 : Int32} {x2 : Int64} {st' : BSt} (hf : fb_putInDraft n st x1 x2 = some st') : MM l yb_putInDraft rmb_putInDraft D gm ca [.int x1, .long x2] st (XV) st' :=
  MM.of hfl (by decide +kernel) rfl mcb_putInDraft (fun p e s m below meth c A _ hX hB => wb_putInDraft_0 hX hB n _ _ _ (lv_entry _ (Nat.le_of_ble_eq_true rfl)) hf)
set_option maxRecDepth 100000 in
set_option maxHeartbeats 4000000 in
theorem wb_pagesOf_12 {p : Program} {l : Launch} {e : Env} {s : State} {m : MethodId} {args : Array Value} {below : List Frame} {meth : Method} {c : Code} {D : va_G} {gm : Nat → Nat} {ca : Nat → ClassId} {A : Nat → Prop} {st : BSt} (hX : BX p l e rmb_pagesOf s m args meth c D ca A kb_pagesOf 6 (some .long)) (hP : va_P D vwCl (wB gm ca st) s.heap) (n : Nat) :∀ (k : Nat), ∀ (x1 : Int32) (x2 : Int64) (x4 : Int32) (x5 : Int32) {r : Int64} (ls : Array Slot), lv_has ls 6 [(0, .ref (gm 0)), (1, .int x1), (2, .long x2), (4, .int x4), (5, .int x5)] → fb_pagesOf_12 n k st x1 x2 x4 x5 = some r → W p l e rmb_pagesOf s m args below meth c s.heap [] 0 0 (MQX below (xx_Q (XL r)) args s 0 0 (fun _ => False)) (F0 m 12 ls []) := by
  obtain ⟨hx, hb, hml, hr, hlk, hown, hts, hK, htr, hZ, hnh, hA, hfl⟩ := id hX
  intro k
  induction k with
  | zero =>
    intro x1 x2 x4 x5 r ls hl hf
    rw [fb_pagesOf_12] at hf
    cases hf
  | succ k ih =>
    intro x1 x2 x4 x5 r ls hl hf
    rw [fb_pagesOf_12] at hf
    refine lv_iload hx hb db_pagesOf_12 (lv_at hl 4 rfl) ?_
    refine lv_iload hx hb db_pagesOf_14 (lv_at hl 3 rfl) ?_
    refine lv_icmp_ge (tgt := 37) hx hb db_pagesOf_16 (by decide) (fun c1 => ?_) (fun c1 => ?_)
    · have hf := ifp c1 hf
      refine lv_lload_n hx hb db_pagesOf_37 rfl (lv_at hl 2 rfl) ?_
      cases hf
      exact er_l hx hb hr hlk db_pagesOf_38
    · have hf := ifn c1 hf
      refine lv_lload_n hx hb db_pagesOf_19 rfl (lv_at hl 2 rfl) ?_
      refine lv_lconst (v := 1) hx hb db_pagesOf_20 (by decide) ?_
      refine lv_aload_n hx hb db_pagesOf_21 rfl (lv_at hl 0 rfl) ?_
      refine lv_iload_n hx hb db_pagesOf_22 rfl (lv_at hl 1 rfl) ?_
      refine lv_iload hx hb db_pagesOf_23 (lv_at hl 4 rfl) ?_
      obtain ⟨r2, h3, hf⟩ := obs hf
      refine rmI (cb_pageOf (l := l) (hfl := hfl) h3) (cw_pageOf hts ⟨by decide, by decide⟩) hx hb hml hown hts hK hP va_S.rf hZ hl.1 rfl rfl (lv_room (Nat.le_of_ble_eq_true rfl)) db_pagesOf_25 ⟨by decide, by decide⟩ ?_
      refine lv_lshl hx hb db_pagesOf_28 rfl ?_
      refine lv_lor hx hb db_pagesOf_29 ?_
      refine lv_lstore_n (lv' := [(2, .long (x2 ||| ((1 : Int64) <<< (r2.toInt64 &&& 63)))), (0, .ref (gm 0)), (1, .int x1), (4, .int x4), (5, .int x5)]) hx hb db_pagesOf_30 rfl hl (by decide) rfl (fun ls hl => ?_)
      refine lv_iinc (v := (x5 + 1)) (lv' := [(5, .int (x5 + 1)), (2, .long (x2 ||| ((1 : Int64) <<< (r2.toInt64 &&& 63)))), (0, .ref (gm 0)), (1, .int x1), (4, .int x4)]) hx hb db_pagesOf_31 hl (k := 4) rfl rfl (by decide) rfl (fun ls hl => ?_)
      refine lv_goto (tgt := 12) hx hb db_pagesOf_34 (by decide) ?_
      exact ih _ _ _ _ _ (lv_sub hl [2, 3, 1, 4, 0] rfl) hf
set_option maxRecDepth 100000 in
set_option maxHeartbeats 4000000 in
theorem wb_pagesOf_0 {p : Program} {l : Launch} {e : Env} {s : State} {m : MethodId} {args : Array Value} {below : List Frame} {meth : Method} {c : Code} {D : va_G} {gm : Nat → Nat} {ca : Nat → ClassId} {A : Nat → Prop} {st : BSt} (hX : BX p l e rmb_pagesOf s m args meth c D ca A kb_pagesOf 6 (some .long)) (hP : va_P D vwCl (wB gm ca st) s.heap) (n : Nat) : ∀ (x1 : Int32) {r : Int64} (ls : Array Slot), lv_has ls 6 [(0, .ref (gm 0)), (1, .int x1)] → fb_pagesOf n st x1 = some r → W p l e rmb_pagesOf s m args below meth c s.heap [] 0 0 (MQX below (xx_Q (XL r)) args s 0 0 (fun _ => False)) (F0 m 0 ls []) := by
  obtain ⟨hx, hb, hml, hr, hlk, hown, hts, hK, htr, hZ, hnh, hA, hfl⟩ := id hX
  intro x1 r ls hl hf
  rw [fb_pagesOf] at hf
  refine lv_lconst (v := 0) hx hb db_pagesOf_0 (by decide) ?_
  refine lv_lstore_n (lv' := [(2, .long 0), (0, .ref (gm 0)), (1, .int x1)]) hx hb db_pagesOf_1 rfl hl (by decide) rfl (fun ls hl => ?_)
  refine lv_aload_n hx hb db_pagesOf_2 rfl (lv_at hl 1 rfl) ?_
  refine lv_iload_n hx hb db_pagesOf_3 rfl (lv_at hl 2 rfl) ?_
  obtain ⟨r1, h2, hf⟩ := obs hf
  refine rmI (cb_leavesOf (l := l) (hfl := hfl) h2) (cw_leavesOf hts ⟨by decide, by decide⟩) hx hb hml hown hts hK hP va_S.rf hZ hl.1 rfl rfl (lv_room (Nat.le_of_ble_eq_true rfl)) db_pagesOf_4 ⟨by decide, by decide⟩ ?_
  refine lv_istore (lv' := [(4, .int r1), (2, .long 0), (0, .ref (gm 0)), (1, .int x1)]) hx hb db_pagesOf_7 hl (by decide) rfl (fun ls hl => ?_)
  refine lv_iconst (v := 0) hx hb db_pagesOf_9 (by decide) ?_
  refine lv_istore (lv' := [(5, .int 0), (4, .int r1), (2, .long 0), (0, .ref (gm 0)), (1, .int x1)]) hx hb db_pagesOf_10 hl (by decide) rfl (fun ls hl => ?_)
  exact wb_pagesOf_12 hX hP n n _ _ _ _ _ (lv_sub hl [3, 4, 2, 1, 0] rfl) hf
set_option maxRecDepth 100000 in
set_option maxHeartbeats 4000000 in
theorem cb_pagesOf {l : Launch} (hfl : l.flags = flags0) {D : va_G} {gm : Nat → Nat} {ca : Nat → ClassId} {st : BSt} {n : Nat} {x1 : Int32} {r : Int64} (hf : fb_pagesOf n st x1 = some r) : RM l yb_pagesOf rmb_pagesOf D gm ca [.int x1] st (XL r) :=
  RM.of hfl (by decide +kernel) rfl mcb_pagesOf (fun p e s m below meth c hX hP => wb_pagesOf_0 hX hP n _ _ (lv_entry _ (Nat.le_of_ble_eq_true rfl)) hf)
end
section
set_option maxRecDepth 100000 in
set_option maxHeartbeats 4000000 in
theorem wb_heldPages_4 {p : Program} {l : Launch} {e : Env} {s : State} {m : MethodId} {args : Array Value} {below : List Frame} {meth : Method} {c : Code} {D : va_G} {gm : Nat → Nat} {ca : Nat → ClassId} {A : Nat → Prop} {st : BSt} (hX : BX p l e rmb_heldPages s m args meth c D ca A kb_heldPages 4 (some .long)) (hP : va_P D vwCl (wB gm ca st) s.heap) (n : Nat) :∀ (k : Nat), ∀ (x1 : Int64) (x3 : Int32) {r : Int64} (ls : Array Slot), lv_has ls 4 [(0, .ref (gm 0)), (1, .long x1), (3, .int x3)] → fb_heldPages_4 n k st x1 x3 = some r → W p l e rmb_heldPages s m args below meth c s.heap [] 0 0 (MQX below (xx_Q (XL r)) args s 0 0 (fun _ => False)) (F0 m 4 ls []) := by
  obtain ⟨hx, hb, hml, hr, hlk, hown, hts, hK, htr, hZ, hnh, hA, hfl⟩ := id hX
  intro k
  induction k with
  | zero =>
    intro x1 x3 r ls hl hf
    rw [fb_heldPages_4] at hf
    cases hf
  | succ k ih =>
    intro x1 x3 r ls hl hf
    rw [fb_heldPages_4] at hf
    refine lv_iload_n hx hb db_heldPages_4 rfl (lv_at hl 2 rfl) ?_
    refine lv_bipush (v := 8) hx hb db_heldPages_5 (by decide) ?_
    refine lv_icmp_ge (tgt := 50) hx hb db_heldPages_7 (by decide) (fun c1 => ?_) (fun c1 => ?_)
    · have hf := ifp c1 hf
      refine lv_lload_n hx hb db_heldPages_50 rfl (lv_at hl 1 rfl) ?_
      cases hf
      exact er_l hx hb hr hlk db_heldPages_51
    · have hf := ifn c1 hf
      refine lv_aload_n hx hb db_heldPages_10 rfl (lv_at hl 0 rfl) ?_
      refine bg_roots hx hb hown hts hK hP db_heldPages_11 ?_
      refine lv_iload_n hx hb db_heldPages_14 rfl (lv_at hl 2 rfl) ?_
      refine lv_bipush (v := 20) hx hb db_heldPages_15 (by decide) ?_
      refine lv_imul hx hb db_heldPages_17 ?_
      obtain ⟨r2, er2, ir2, hf⟩ := rdL_some hf
      refine bl_roots hx hb hK hP ir2 er2 db_heldPages_18 ?_
      refine lv_aload_n hx hb db_heldPages_19 rfl (lv_at hl 0 rfl) ?_
      refine bg_newest hx hb hown hts hK hP db_heldPages_20 ?_
      refine lv_i2l hx hb db_heldPages_23 rfl ?_
      refine W.lcmp hx hb db_heldPages_24 ?_
      refine lv_if_gt (tgt := 44) hx hb db_heldPages_25 (by decide) (fun c3 => ?_) (fun c3 => ?_)
      · have hf := ifp c3 hf
        refine lv_iinc (v := (x3 + 1)) (lv' := [(3, .int (x3 + 1)), (0, .ref (gm 0)), (1, .long x1)]) hx hb db_heldPages_44 hl (k := 2) rfl rfl (by decide) rfl (fun ls hl => ?_)
        refine lv_goto (tgt := 4) hx hb db_heldPages_47 (by decide) ?_
        exact ih _ _ _ (lv_sub hl [1, 2, 0] rfl) hf
      · have hf := ifn c3 hf
        refine lv_aload_n hx hb db_heldPages_28 rfl (lv_at hl 0 rfl) ?_
        refine lv_iload_n hx hb db_heldPages_29 rfl (lv_at hl 2 rfl) ?_
        obtain ⟨r4, h5, hf⟩ := obs hf
        refine rmI (cb_isSound (l := l) (hfl := hfl) h5) (cw_isSound hts ⟨by decide, by decide⟩) hx hb hml hown hts hK hP va_S.rf hZ hl.1 rfl rfl (lv_room (Nat.le_of_ble_eq_true rfl)) db_heldPages_30 ⟨by decide, by decide⟩ ?_
        refine lv_if_eq (tgt := 44) hx hb db_heldPages_33 (by decide) (fun c6 => ?_) (fun c6 => ?_)
        · have hf := ifp c6 hf
          refine lv_iinc (v := (x3 + 1)) (lv' := [(3, .int (x3 + 1)), (0, .ref (gm 0)), (1, .long x1)]) hx hb db_heldPages_44 hl (k := 2) rfl rfl (by decide) rfl (fun ls hl => ?_)
          refine lv_goto (tgt := 4) hx hb db_heldPages_47 (by decide) ?_
          exact ih _ _ _ (lv_sub hl [1, 2, 0] rfl) hf
        · have hf := ifn c6 hf
          refine lv_lload_n hx hb db_heldPages_36 rfl (lv_at hl 1 rfl) ?_
          refine lv_aload_n hx hb db_heldPages_37 rfl (lv_at hl 0 rfl) ?_
          refine lv_iload_n hx hb db_heldPages_38 rfl (lv_at hl 2 rfl) ?_
          obtain ⟨r7, h8, hf⟩ := obs hf
          refine rmL (cb_pagesOf (l := l) (hfl := hfl) h8) (cw_pagesOf hts ⟨by decide, by decide⟩) hx hb hml hown hts hK hP va_S.rf hZ hl.1 rfl rfl (lv_room (Nat.le_of_ble_eq_true rfl)) db_heldPages_39 ⟨by decide, by decide⟩ ?_
          refine lv_lor hx hb db_heldPages_42 ?_
          refine lv_lstore_n (lv' := [(1, .long (x1 ||| r7)), (0, .ref (gm 0)), (3, .int x3)]) hx hb db_heldPages_43 rfl hl (by decide) rfl (fun ls hl => ?_)
          refine lv_iinc (v := (x3 + 1)) (lv' := [(3, .int (x3 + 1)), (1, .long (x1 ||| r7)), (0, .ref (gm 0))]) hx hb db_heldPages_44 hl (k := 2) rfl rfl (by decide) rfl (fun ls hl => ?_)
          refine lv_goto (tgt := 4) hx hb db_heldPages_47 (by decide) ?_
          exact ih _ _ _ (lv_sub hl [2, 1, 0] rfl) hf
set_option maxRecDepth 100000 in
set_option maxHeartbeats 4000000 in
theorem wb_heldPages_0 {p : Program} {l : Launch} {e : Env} {s : State} {m : MethodId} {args : Array Value} {below : List Frame} {meth : Method} {c : Code} {D : va_G} {gm : Nat → Nat} {ca : Nat → ClassId} {A : Nat → Prop} {st : BSt} (hX : BX p l e rmb_heldPages s m args meth c D ca A kb_heldPages 4 (some .long)) (hP : va_P D vwCl (wB gm ca st) s.heap) (n : Nat) : ∀ {r : Int64} (ls : Array Slot), lv_has ls 4 [(0, .ref (gm 0))] → fb_heldPages n st = some r → W p l e rmb_heldPages s m args below meth c s.heap [] 0 0 (MQX below (xx_Q (XL r)) args s 0 0 (fun _ => False)) (F0 m 0 ls []) := by
  obtain ⟨hx, hb, hml, hr, hlk, hown, hts, hK, htr, hZ, hnh, hA, hfl⟩ := id hX
  intro r ls hl hf
  rw [fb_heldPages] at hf
  refine lv_lconst (v := 0) hx hb db_heldPages_0 (by decide) ?_
  refine lv_lstore_n (lv' := [(1, .long 0), (0, .ref (gm 0))]) hx hb db_heldPages_1 rfl hl (by decide) rfl (fun ls hl => ?_)
  refine lv_iconst (v := 0) hx hb db_heldPages_2 (by decide) ?_
  refine lv_istore_n (lv' := [(3, .int 0), (1, .long 0), (0, .ref (gm 0))]) hx hb db_heldPages_3 rfl hl (by decide) rfl (fun ls hl => ?_)
  exact wb_heldPages_4 hX hP n n _ _ _ (lv_sub hl [2, 1, 0] rfl) hf
set_option maxRecDepth 100000 in
set_option maxHeartbeats 4000000 in
theorem cb_heldPages {l : Launch} (hfl : l.flags = flags0) {D : va_G} {gm : Nat → Nat} {ca : Nat → ClassId} {st : BSt} {n : Nat} {r : Int64} (hf : fb_heldPages n st = some r) : RM l yb_heldPages rmb_heldPages D gm ca [] st (XL r) :=
  RM.of hfl (by decide +kernel) rfl mcb_heldPages (fun p e s m below meth c hX hP => wb_heldPages_0 hX hP n _ (lv_entry _ (Nat.le_of_ble_eq_true rfl)) hf)
set_option maxRecDepth 100000 in
set_option maxHeartbeats 4000000 in
theorem wb_isIn_0 {p : Program} {l : Launch} {e : Env} {s : State} {m : MethodId} {args : Array Value} {below : List Frame} {meth : Method} {c : Code} (hX : p.tables.exec = Jvm.exec ∧ c.code = kb_isIn ∧ c.maxLocals = 3 ∧ meth.sig.returnType = some .boolean ∧ meth.locks = false ∧ s.vm.findClass RB = some m.cls ∧ (∀ w ∈ lw_g, w.before args s = true) ∧ l.flags = flags0) (n : Nat) : ∀ (x0 : Int64) (x2 : Int32) {r : Int32} (ls : Array Slot), lv_has ls 3 [(0, .long x0), (2, .int x2)] → fb_isIn n x0 x2 = some r → W p l e rmb_isIn s m args below meth c s.heap [] 0 0 (MQX below (xx_Q (XI r)) args s 0 0 (fun _ => False)) (F0 m 0 ls []) := by
  obtain ⟨hx, hb, hml, hr, hlk, hown, hts, hfl⟩ := id hX
  intro x0 x2 r ls hl hf
  rw [fb_isIn] at hf
  refine lv_lload_n hx hb db_isIn_0 rfl (lv_at hl 0 rfl) ?_
  refine lv_iload_n hx hb db_isIn_1 rfl (lv_at hl 1 rfl) ?_
  refine lv_lushr hx hb db_isIn_2 rfl ?_
  refine lv_lconst (v := 1) hx hb db_isIn_3 (by decide) ?_
  refine lv_land hx hb db_isIn_4 ?_
  refine lv_lconst (v := 0) hx hb db_isIn_5 (by decide) ?_
  refine W.lcmp hx hb db_isIn_6 ?_
  refine lv_if_eq (tgt := 14) hx hb db_isIn_7 (by decide) (fun c1 => ?_) (fun c1 => ?_)
  · have hf := ifp c1 hf
    refine lv_iconst (v := 0) hx hb db_isIn_14 (by decide) ?_
    cases hf
    exact er_z hx hb hr hlk rfl db_isIn_15
  · have hf := ifn c1 hf
    refine lv_iconst (v := 1) hx hb db_isIn_10 (by decide) ?_
    refine lv_goto (tgt := 15) hx hb db_isIn_11 (by decide) ?_
    cases hf
    exact er_z hx hb hr hlk rfl db_isIn_15
set_option maxRecDepth 100000 in
set_option maxHeartbeats 4000000 in
theorem cb_isIn {l : Launch} (hfl : l.flags = flags0) {n : Nat} {x0 : Int64} {x2 : Int32} {r : Int32} (hf : fb_isIn n x0 x2 = some r) : SM l yb_isIn rmb_isIn [.long x0, .int x2] (XI r) :=
  SM.of hfl (by decide +kernel) rfl mcb_isIn (fun p e s m below meth c h1 h2 h3 h4 h5 h6 h7 => wb_isIn_0 ⟨h1, h2, h3, h4, h5, h6, h7, hfl⟩ n _ _ _ (lv_entry _ (Nat.le_of_ble_eq_true rfl)) hf)
set_option maxRecDepth 100000 in
set_option maxHeartbeats 4000000 in
theorem wb_pageNotIn_3 {p : Program} {l : Launch} {e : Env} {s : State} {m : MethodId} {args : Array Value} {below : List Frame} {meth : Method} {c : Code} {D : va_G} {gm : Nat → Nat} {ca : Nat → ClassId} {A : Nat → Prop} {st : BSt} (hX : BX p l e rmb_pageNotIn s m args meth c D ca A kb_pageNotIn 5 (some .int)) (hP : va_P D vwCl (wB gm ca st) s.heap) (n : Nat) :∀ (k : Nat), ∀ (x1 : Int64) (x4 : Int32) {r : Int32} (ls : Array Slot), lv_has ls 5 [(0, .ref (gm 0)), (1, .long x1), (4, .int x4)] → fb_pageNotIn_3 n k st x1 x4 = some r → W p l e rmb_pageNotIn s m args below meth c s.heap [] 0 0 (MQX below (xx_Q (XI r)) args s 0 0 (fun _ => False)) (F0 m 3 ls []) := by
  obtain ⟨hx, hb, hml, hr, hlk, hown, hts, hK, htr, hZ, hnh, hA, hfl⟩ := id hX
  intro k
  induction k with
  | zero =>
    intro x1 x4 r ls hl hf
    rw [fb_pageNotIn_3] at hf
    cases hf
  | succ k ih =>
    intro x1 x4 r ls hl hf
    rw [fb_pageNotIn_3] at hf
    refine lv_iload hx hb db_pageNotIn_3 (lv_at hl 2 rfl) ?_
    refine lv_aload_n hx hb db_pageNotIn_5 rfl (lv_at hl 0 rfl) ?_
    refine bg_pageCount hx hb hown hts hK hP db_pageNotIn_6 ?_
    refine lv_icmp_ge (tgt := 30) hx hb db_pageNotIn_9 (by decide) (fun c1 => ?_) (fun c1 => ?_)
    · have hf := ifp c1 hf
      refine lv_iconst (v := (-1)) hx hb db_pageNotIn_30 (by decide) ?_
      cases hf
      exact er_i hx hb hr hlk db_pageNotIn_31
    · have hf := ifn c1 hf
      refine lv_lload_n hx hb db_pageNotIn_12 rfl (lv_at hl 1 rfl) ?_
      refine lv_iload hx hb db_pageNotIn_13 (lv_at hl 2 rfl) ?_
      obtain ⟨r2, h3, hf⟩ := obs hf
      refine smI (cb_isIn (l := l) (hfl := hfl) h3) (cw_isIn hts ⟨by decide, by decide⟩) hx hb hml hown hts hl.1 rfl rfl (lv_room (Nat.le_of_ble_eq_true rfl)) db_pageNotIn_15 ⟨by decide, by decide⟩ ?_
      refine lv_if_ne (tgt := 24) hx hb db_pageNotIn_18 (by decide) (fun c4 => ?_) (fun c4 => ?_)
      · have hf := ifn c4 hf
        refine lv_iinc (v := (x4 + 1)) (lv' := [(4, .int (x4 + 1)), (0, .ref (gm 0)), (1, .long x1)]) hx hb db_pageNotIn_24 hl (k := 2) rfl rfl (by decide) rfl (fun ls hl => ?_)
        refine lv_goto (tgt := 3) hx hb db_pageNotIn_27 (by decide) ?_
        exact ih _ _ _ (lv_sub hl [1, 2, 0] rfl) hf
      · have hf := ifp c4 hf
        refine lv_iload hx hb db_pageNotIn_21 (lv_at hl 2 rfl) ?_
        cases hf
        exact er_i hx hb hr hlk db_pageNotIn_23
set_option maxRecDepth 100000 in
set_option maxHeartbeats 4000000 in
theorem wb_pageNotIn_0 {p : Program} {l : Launch} {e : Env} {s : State} {m : MethodId} {args : Array Value} {below : List Frame} {meth : Method} {c : Code} {D : va_G} {gm : Nat → Nat} {ca : Nat → ClassId} {A : Nat → Prop} {st : BSt} (hX : BX p l e rmb_pageNotIn s m args meth c D ca A kb_pageNotIn 5 (some .int)) (hP : va_P D vwCl (wB gm ca st) s.heap) (n : Nat) : ∀ (x1 : Int64) (x3 : Int32) {r : Int32} (ls : Array Slot), lv_has ls 5 [(0, .ref (gm 0)), (1, .long x1), (3, .int x3)] → fb_pageNotIn n st x1 x3 = some r → W p l e rmb_pageNotIn s m args below meth c s.heap [] 0 0 (MQX below (xx_Q (XI r)) args s 0 0 (fun _ => False)) (F0 m 0 ls []) := by
  obtain ⟨hx, hb, hml, hr, hlk, hown, hts, hK, htr, hZ, hnh, hA, hfl⟩ := id hX
  intro x1 x3 r ls hl hf
  rw [fb_pageNotIn] at hf
  refine lv_iload_n hx hb db_pageNotIn_0 rfl (lv_at hl 2 rfl) ?_
  refine lv_istore (lv' := [(4, .int x3), (0, .ref (gm 0)), (1, .long x1), (3, .int x3)]) hx hb db_pageNotIn_1 hl (by decide) rfl (fun ls hl => ?_)
  exact wb_pageNotIn_3 hX hP n n _ _ _ (lv_sub hl [1, 2, 0] rfl) hf
set_option maxRecDepth 100000 in
set_option maxHeartbeats 4000000 in
theorem cb_pageNotIn {l : Launch} (hfl : l.flags = flags0) {D : va_G} {gm : Nat → Nat} {ca : Nat → ClassId} {st : BSt} {n : Nat} {x1 : Int64} {x3 : Int32} {r : Int32} (hf : fb_pageNotIn n st x1 x3 = some r) : RM l yb_pageNotIn rmb_pageNotIn D gm ca [.long x1, .int x3] st (XI r) :=
  RM.of hfl (by decide +kernel) rfl mcb_pageNotIn (fun p e s m below meth c hX hP => wb_pageNotIn_0 hX hP n _ _ _ (lv_entry _ (Nat.le_of_ble_eq_true rfl)) hf)
set_option maxRecDepth 100000 in
set_option maxHeartbeats 4000000 in
theorem wb_saveWordsBefore_2 {p : Program} {l : Launch} {e : Env} {s : State} {m : MethodId} {args : Array Value} {below : List Frame} {meth : Method} {c : Code} {D : va_G} {gm : Nat → Nat} {ca : Nat → ClassId} {A : Nat → Prop} (hX : BX p l e rmb_saveWordsBefore s m args meth c D ca A kb_saveWordsBefore 2 (none)) (n : Nat) :∀ (k : Nat), ∀ (st : BSt) (x1 : Int32) {st' : BSt} (ls : Array Slot) (H : Heap) (locs : List Loc), BWd D gm ca A s.heap st H locs → lv_has ls 2 [(0, .ref (gm 0)), (1, .int x1)] → fb_saveWordsBefore_2 n k st x1 = some st' → W p l e rmb_saveWordsBefore s m args below meth c H locs 0 0 (MQX below (mm_Q D gm ca A (XV) st') args s 0 0 A) (F0 m 2 ls []) := by
  obtain ⟨hx, hb, hml, hr, hlk, hown, hts, hK, htr, hZ, hnh, hA, hfl⟩ := id hX
  intro k
  induction k with
  | zero =>
    intro st x1 st' ls H locs hB hl hf
    rw [fb_saveWordsBefore_2] at hf
    cases hf
  | succ k ih =>
    intro st x1 st' ls H locs hB hl hf
    rw [fb_saveWordsBefore_2] at hf
    refine lv_iload_n hx hb db_saveWordsBefore_2 rfl (lv_at hl 1 rfl) ?_
    refine lv_aload_n hx hb db_saveWordsBefore_3 rfl (lv_at hl 0 rfl) ?_
    refine bg_takenCount hx hb hown hts hK hB.1 db_saveWordsBefore_4 ?_
    refine lv_icmp_ge (tgt := 42) hx hb db_saveWordsBefore_7 (by decide) (fun c1 => ?_) (fun c1 => ?_)
    · have hf := ifp c1 hf
      refine lv_aload_n hx hb db_saveWordsBefore_42 rfl (lv_at hl 0 rfl) ?_
      refine bg_roots hx hb hown hts hK hB.1 db_saveWordsBefore_43 ?_
      refine lv_aload_n hx hb db_saveWordsBefore_46 rfl (lv_at hl 0 rfl) ?_
      refine bg_writtenRoot hx hb hown hts hK hB.1 db_saveWordsBefore_47 ?_
      refine lv_bipush (v := 20) hx hb db_saveWordsBefore_50 (by decide) ?_
      refine lv_imul hx hb db_saveWordsBefore_52 ?_
      refine lv_aload_n hx hb db_saveWordsBefore_53 rfl (lv_at hl 0 rfl) ?_
      refine bg_wordsBefore hx hb hown hts hK hB.1 db_saveWordsBefore_54 ?_
      refine lv_aload_n hx hb db_saveWordsBefore_57 rfl (lv_at hl 0 rfl) ?_
      refine bg_takenCount hx hb hown hts hK hB.1 db_saveWordsBefore_58 ?_
      refine lv_bipush (v := 16) hx hb db_saveWordsBefore_61 (by decide) ?_
      refine lv_imul hx hb db_saveWordsBefore_63 ?_
      refine lv_bipush (v := 20) hx hb db_saveWordsBefore_64 (by decide) ?_
      obtain ⟨a2, ea2, ia2, hf⟩ := cpL_some hf
      refine bc_roots_wordsBefore hx hb (hml.trans hl.1.symm) hown hts hK hB ia2 ea2 ⟨by decide, by decide +kernel⟩ db_saveWordsBefore_66 (fun H locs hB => ?_)
      cases hf
      exact em_v hx hb hr hlk hB db_saveWordsBefore_69
    · have hf := ifn c1 hf
      refine lv_aload_n hx hb db_saveWordsBefore_10 rfl (lv_at hl 0 rfl) ?_
      refine bg_pages hx hb hown hts hK hB.1 db_saveWordsBefore_11 ?_
      refine lv_aload_n hx hb db_saveWordsBefore_14 rfl (lv_at hl 0 rfl) ?_
      refine bg_takenPages hx hb hown hts hK hB.1 db_saveWordsBefore_15 ?_
      refine lv_iload_n hx hb db_saveWordsBefore_18 rfl (lv_at hl 1 rfl) ?_
      obtain ⟨r3, er3, ir3, hf⟩ := rdI_some hf
      refine bl_takenPages hx hb hK hB.1 ir3 er3 db_saveWordsBefore_19 ?_
      refine lv_bipush (v := 16) hx hb db_saveWordsBefore_20 (by decide) ?_
      refine lv_imul hx hb db_saveWordsBefore_22 ?_
      refine lv_aload_n hx hb db_saveWordsBefore_23 rfl (lv_at hl 0 rfl) ?_
      refine bg_wordsBefore hx hb hown hts hK hB.1 db_saveWordsBefore_24 ?_
      refine lv_iload_n hx hb db_saveWordsBefore_27 rfl (lv_at hl 1 rfl) ?_
      refine lv_bipush (v := 16) hx hb db_saveWordsBefore_28 (by decide) ?_
      refine lv_imul hx hb db_saveWordsBefore_30 ?_
      refine lv_bipush (v := 16) hx hb db_saveWordsBefore_31 (by decide) ?_
      obtain ⟨a4, ea4, ia4, hf⟩ := cpL_some hf
      refine bc_pages_wordsBefore hx hb (hml.trans hl.1.symm) hown hts hK hB ia4 ea4 ⟨by decide, by decide +kernel⟩ db_saveWordsBefore_33 (fun H locs hB => ?_)
      refine lv_iinc (v := (x1 + 1)) (lv' := [(1, .int (x1 + 1)), (0, .ref (gm 0))]) hx hb db_saveWordsBefore_36 hl (k := 1) rfl rfl (by decide) rfl (fun ls hl => ?_)
      refine lv_goto (tgt := 2) hx hb db_saveWordsBefore_39 (by decide) ?_
      exact ih _ _ _ _ _ hB (lv_sub hl [1, 0] rfl) hf
set_option maxRecDepth 100000 in
set_option maxHeartbeats 4000000 in
theorem wb_saveWordsBefore_0 {p : Program} {l : Launch} {e : Env} {s : State} {m : MethodId} {args : Array Value} {below : List Frame} {meth : Method} {c : Code} {D : va_G} {gm : Nat → Nat} {ca : Nat → ClassId} {A : Nat → Prop} {st : BSt} (hX : BX p l e rmb_saveWordsBefore s m args meth c D ca A kb_saveWordsBefore 2 (none)) (hB : BWd D gm ca A s.heap st s.heap []) (n : Nat) : ∀ {st' : BSt} (ls : Array Slot), lv_has ls 2 [(0, .ref (gm 0))] → fb_saveWordsBefore n st = some st' → W p l e rmb_saveWordsBefore s m args below meth c s.heap [] 0 0 (MQX below (mm_Q D gm ca A (XV) st') args s 0 0 A) (F0 m 0 ls []) := by
  obtain ⟨hx, hb, hml, hr, hlk, hown, hts, hK, htr, hZ, hnh, hA, hfl⟩ := id hX
  intro st' ls hl hf
  rw [fb_saveWordsBefore] at hf
  refine lv_iconst (v := 0) hx hb db_saveWordsBefore_0 (by decide) ?_
  refine lv_istore_n (lv' := [(1, .int 0), (0, .ref (gm 0))]) hx hb db_saveWordsBefore_1 rfl hl (by decide) rfl (fun ls hl => ?_)
  exact wb_saveWordsBefore_2 hX n n _ _ _ _ _ hB (lv_sub hl [1, 0] rfl) hf
set_option maxRecDepth 100000 in
set_option maxHeartbeats 4000000 in
theorem cb_saveWordsBefore {l : Launch} (hfl : l.flags = flags0) {D : va_G} {gm : Nat → Nat} {ca : Nat → ClassId} {st : BSt} {n : Nat} {st' : BSt} (hf : fb_saveWordsBefore n st = some st') : MM l yb_saveWordsBefore rmb_saveWordsBefore D gm ca [] st (XV) st' :=
  MM.of hfl (by decide +kernel) rfl mcb_saveWordsBefore (fun p e s m below meth c A _ hX hB => wb_saveWordsBefore_0 hX hB n _ (lv_entry _ (Nat.le_of_ble_eq_true rfl)) hf)
set_option maxRecDepth 100000 in
set_option maxHeartbeats 4000000 in
theorem wb_writeLeaf_47 {p : Program} {l : Launch} {e : Env} {s : State} {m : MethodId} {args : Array Value} {below : List Frame} {meth : Method} {c : Code} {D : va_G} {gm : Nat → Nat} {ca : Nat → ClassId} {A : Nat → Prop} (hX : BX p l e rmb_writeLeaf s m args meth c D ca A kb_writeLeaf 6 (none)) (n : Nat) :∀ (k : Nat), ∀ (st : BSt) (x1 : Int32) (x2 : Int32) (x3 : Int32) (x4 : Int32) (x5 : Int32) {st' : BSt} (ls : Array Slot) (H : Heap) (locs : List Loc), BWd D gm ca A s.heap st H locs → lv_has ls 6 [(0, .ref (gm 0)), (1, .int x1), (2, .int x2), (3, .int x3), (4, .int x4), (5, .int x5)] → fb_writeLeaf_47 n k st x1 x2 x3 x4 x5 = some st' → W p l e rmb_writeLeaf s m args below meth c H locs 0 0 (MQX below (mm_Q D gm ca A (XV) st') args s 0 0 A) (F0 m 47 ls []) := by
  obtain ⟨hx, hb, hml, hr, hlk, hown, hts, hK, htr, hZ, hnh, hA, hfl⟩ := id hX
  intro k
  induction k with
  | zero =>
    intro st x1 x2 x3 x4 x5 st' ls H locs hB hl hf
    rw [fb_writeLeaf_47] at hf
    cases hf
  | succ k ih =>
    intro st x1 x2 x3 x4 x5 st' ls H locs hB hl hf
    rw [fb_writeLeaf_47] at hf
    refine lv_iload hx hb db_writeLeaf_47 (lv_at hl 5 rfl) ?_
    refine lv_iload_n hx hb db_writeLeaf_49 rfl (lv_at hl 3 rfl) ?_
    refine lv_icmp_ge (tgt := 101) hx hb db_writeLeaf_50 (by decide) (fun c1 => ?_) (fun c1 => ?_)
    · have hf := ifp c1 hf
      refine lv_aload_n hx hb db_writeLeaf_101 rfl (lv_at hl 0 rfl) ?_
      refine bg_pages hx hb hown hts hK hB.1 db_writeLeaf_102 ?_
      refine lv_iload hx hb db_writeLeaf_105 (lv_at hl 4 rfl) ?_
      refine lv_bipush (v := 15) hx hb db_writeLeaf_107 (by decide) ?_
      refine lv_iadd hx hb db_writeLeaf_109 ?_
      refine lv_aload_n hx hb db_writeLeaf_110 rfl (lv_at hl 0 rfl) ?_
      refine bg_pages hx hb hown hts hK hB.1 db_writeLeaf_111 ?_
      refine lv_iload hx hb db_writeLeaf_114 (lv_at hl 4 rfl) ?_
      refine lv_bipush (v := 15) hx hb db_writeLeaf_116 (by decide) ?_
      obtain ⟨r2, h3, hf⟩ := obs hf
      refine saL (cb_sumOf (l := l) (hfl := hfl) h3) (cw_sumOf hts ⟨by decide, by decide⟩) hx hb hml hown hts hK hB.1 1 0 rfl rfl hl.1 rfl rfl (lv_room (Nat.le_of_ble_eq_true rfl)) db_writeLeaf_118 ⟨by decide, by decide⟩ ?_
      obtain ⟨a4, ea4, ia4, hf⟩ := wrL_some hf
      refine bt_pages hx hb hK hB ia4 ea4 db_writeLeaf_121 (fun H locs hB => ?_)
      cases hf
      exact em_v hx hb hr hlk hB db_writeLeaf_122
    · have hf := ifn c1 hf
      refine lv_aload_n hx hb db_writeLeaf_53 rfl (lv_at hl 0 rfl) ?_
      refine bg_pages hx hb hown hts hK hB.1 db_writeLeaf_54 ?_
      refine lv_iload_n hx hb db_writeLeaf_57 rfl (lv_at hl 1 rfl) ?_
      refine lv_iload hx hb db_writeLeaf_58 (lv_at hl 5 rfl) ?_
      refine lv_iload_n hx hb db_writeLeaf_60 rfl (lv_at hl 2 rfl) ?_
      refine lv_isub hx hb db_writeLeaf_61 ?_
      obtain ⟨r5, h6, hf⟩ := obs hf
      refine smI (cb_entryAt (l := l) (hfl := hfl) h6) (cw_entryAt hts ⟨by decide, by decide⟩) hx hb hml hown hts hl.1 rfl rfl (lv_room (Nat.le_of_ble_eq_true rfl)) db_writeLeaf_62 ⟨by decide, by decide⟩ ?_
      refine lv_aload_n hx hb db_writeLeaf_65 rfl (lv_at hl 0 rfl) ?_
      refine bg_draftKeys hx hb hown hts hK hB.1 db_writeLeaf_66 ?_
      refine lv_iload hx hb db_writeLeaf_69 (lv_at hl 5 rfl) ?_
      obtain ⟨r7, er7, ir7, hf⟩ := rdL_some hf
      refine bl_draftKeys hx hb hK hB.1 ir7 er7 db_writeLeaf_71 ?_
      obtain ⟨a8, ea8, ia8, hf⟩ := wrL_some hf
      refine bt_pages hx hb hK hB ia8 ea8 db_writeLeaf_72 (fun H locs hB => ?_)
      refine lv_aload_n hx hb db_writeLeaf_73 rfl (lv_at hl 0 rfl) ?_
      refine bg_pages hx hb hown hts hK hB.1 db_writeLeaf_74 ?_
      refine lv_iload_n hx hb db_writeLeaf_77 rfl (lv_at hl 1 rfl) ?_
      refine lv_iload hx hb db_writeLeaf_78 (lv_at hl 5 rfl) ?_
      refine lv_iload_n hx hb db_writeLeaf_80 rfl (lv_at hl 2 rfl) ?_
      refine lv_isub hx hb db_writeLeaf_81 ?_
      obtain ⟨r9, h10, hf⟩ := obs hf
      refine smI (cb_entryAt (l := l) (hfl := hfl) h10) (cw_entryAt hts ⟨by decide, by decide⟩) hx hb hml hown hts hl.1 rfl rfl (lv_room (Nat.le_of_ble_eq_true rfl)) db_writeLeaf_82 ⟨by decide, by decide⟩ ?_
      refine lv_iconst (v := 1) hx hb db_writeLeaf_85 (by decide) ?_
      refine lv_iadd hx hb db_writeLeaf_86 ?_
      refine lv_aload_n hx hb db_writeLeaf_87 rfl (lv_at hl 0 rfl) ?_
      refine bg_draftValues hx hb hown hts hK hB.1 db_writeLeaf_88 ?_
      refine lv_iload hx hb db_writeLeaf_91 (lv_at hl 5 rfl) ?_
      obtain ⟨r11, er11, ir11, hf⟩ := rdL_some hf
      refine bl_draftValues hx hb hK hB.1 ir11 er11 db_writeLeaf_93 ?_
      obtain ⟨a12, ea12, ia12, hf⟩ := wrL_some hf
      refine bt_pages hx hb hK hB ia12 ea12 db_writeLeaf_94 (fun H locs hB => ?_)
      refine lv_iinc (v := (x5 + 1)) (lv' := [(5, .int (x5 + 1)), (0, .ref (gm 0)), (1, .int x1), (2, .int x2), (3, .int x3), (4, .int x4)]) hx hb db_writeLeaf_95 hl (k := 5) rfl rfl (by decide) rfl (fun ls hl => ?_)
      refine lv_goto (tgt := 47) hx hb db_writeLeaf_98 (by decide) ?_
      exact ih _ _ _ _ _ _ _ _ _ hB (lv_sub hl [1, 2, 3, 4, 5, 0] rfl) hf
set_option maxRecDepth 100000 in
set_option maxHeartbeats 4000000 in
theorem wb_writeLeaf_9 {p : Program} {l : Launch} {e : Env} {s : State} {m : MethodId} {args : Array Value} {below : List Frame} {meth : Method} {c : Code} {D : va_G} {gm : Nat → Nat} {ca : Nat → ClassId} {A : Nat → Prop} (hX : BX p l e rmb_writeLeaf s m args meth c D ca A kb_writeLeaf 6 (none)) (n : Nat) :∀ (k : Nat), ∀ (st : BSt) (x1 : Int32) (x2 : Int32) (x3 : Int32) (x4 : Int32) (x5 : Int32) {st' : BSt} (ls : Array Slot) (H : Heap) (locs : List Loc), BWd D gm ca A s.heap st H locs → lv_has ls 6 [(0, .ref (gm 0)), (1, .int x1), (2, .int x2), (3, .int x3), (4, .int x4), (5, .int x5)] → fb_writeLeaf_9 n k st x1 x2 x3 x4 x5 = some st' → W p l e rmb_writeLeaf s m args below meth c H locs 0 0 (MQX below (mm_Q D gm ca A (XV) st') args s 0 0 A) (F0 m 9 ls []) := by
  obtain ⟨hx, hb, hml, hr, hlk, hown, hts, hK, htr, hZ, hnh, hA, hfl⟩ := id hX
  intro k
  induction k with
  | zero =>
    intro st x1 x2 x3 x4 x5 st' ls H locs hB hl hf
    rw [fb_writeLeaf_9] at hf
    cases hf
  | succ k ih =>
    intro st x1 x2 x3 x4 x5 st' ls H locs hB hl hf
    rw [fb_writeLeaf_9] at hf
    refine lv_iload hx hb db_writeLeaf_9 (lv_at hl 5 rfl) ?_
    refine lv_bipush (v := 16) hx hb db_writeLeaf_11 (by decide) ?_
    refine lv_icmp_ge (tgt := 33) hx hb db_writeLeaf_13 (by decide) (fun c1 => ?_) (fun c1 => ?_)
    · have hf := ifp c1 hf
      refine lv_aload_n hx hb db_writeLeaf_33 rfl (lv_at hl 0 rfl) ?_
      refine bg_pages hx hb hown hts hK hB.1 db_writeLeaf_34 ?_
      refine lv_iload hx hb db_writeLeaf_37 (lv_at hl 4 rfl) ?_
      refine lv_iload_n hx hb db_writeLeaf_39 rfl (lv_at hl 3 rfl) ?_
      refine lv_iload_n hx hb db_writeLeaf_40 rfl (lv_at hl 2 rfl) ?_
      refine lv_isub hx hb db_writeLeaf_41 ?_
      refine lv_i2l hx hb db_writeLeaf_42 rfl ?_
      obtain ⟨a2, ea2, ia2, hf⟩ := wrL_some hf
      refine bt_pages hx hb hK hB ia2 ea2 db_writeLeaf_43 (fun H locs hB => ?_)
      refine lv_iload_n hx hb db_writeLeaf_44 rfl (lv_at hl 2 rfl) ?_
      refine lv_istore (lv' := [(5, .int x2), (0, .ref (gm 0)), (1, .int x1), (2, .int x2), (3, .int x3), (4, .int x4)]) hx hb db_writeLeaf_45 hl (by decide) rfl (fun ls hl => ?_)
      exact wb_writeLeaf_47 hX n n _ _ _ _ _ _ _ _ _ hB (lv_sub hl [1, 2, 3, 4, 5, 0] rfl) hf
    · have hf := ifn c1 hf
      refine lv_aload_n hx hb db_writeLeaf_16 rfl (lv_at hl 0 rfl) ?_
      refine bg_pages hx hb hown hts hK hB.1 db_writeLeaf_17 ?_
      refine lv_iload hx hb db_writeLeaf_20 (lv_at hl 4 rfl) ?_
      refine lv_iload hx hb db_writeLeaf_22 (lv_at hl 5 rfl) ?_
      refine lv_iadd hx hb db_writeLeaf_24 ?_
      refine lv_lconst (v := 0) hx hb db_writeLeaf_25 (by decide) ?_
      obtain ⟨a3, ea3, ia3, hf⟩ := wrL_some hf
      refine bt_pages hx hb hK hB ia3 ea3 db_writeLeaf_26 (fun H locs hB => ?_)
      refine lv_iinc (v := (x5 + 1)) (lv' := [(5, .int (x5 + 1)), (0, .ref (gm 0)), (1, .int x1), (2, .int x2), (3, .int x3), (4, .int x4)]) hx hb db_writeLeaf_27 hl (k := 5) rfl rfl (by decide) rfl (fun ls hl => ?_)
      refine lv_goto (tgt := 9) hx hb db_writeLeaf_30 (by decide) ?_
      exact ih _ _ _ _ _ _ _ _ _ hB (lv_sub hl [1, 2, 3, 4, 5, 0] rfl) hf
set_option maxRecDepth 100000 in
set_option maxHeartbeats 4000000 in
theorem wb_writeLeaf_0 {p : Program} {l : Launch} {e : Env} {s : State} {m : MethodId} {args : Array Value} {below : List Frame} {meth : Method} {c : Code} {D : va_G} {gm : Nat → Nat} {ca : Nat → ClassId} {A : Nat → Prop} {st : BSt} (hX : BX p l e rmb_writeLeaf s m args meth c D ca A kb_writeLeaf 6 (none)) (hB : BWd D gm ca A s.heap st s.heap []) (n : Nat) : ∀ (x1 : Int32) (x2 : Int32) (x3 : Int32) {st' : BSt} (ls : Array Slot), lv_has ls 6 [(0, .ref (gm 0)), (1, .int x1), (2, .int x2), (3, .int x3)] → fb_writeLeaf n st x1 x2 x3 = some st' → W p l e rmb_writeLeaf s m args below meth c s.heap [] 0 0 (MQX below (mm_Q D gm ca A (XV) st') args s 0 0 A) (F0 m 0 ls []) := by
  obtain ⟨hx, hb, hml, hr, hlk, hown, hts, hK, htr, hZ, hnh, hA, hfl⟩ := id hX
  intro x1 x2 x3 st' ls hl hf
  rw [fb_writeLeaf] at hf
  refine lv_iload_n hx hb db_writeLeaf_0 rfl (lv_at hl 1 rfl) ?_
  refine lv_bipush (v := 16) hx hb db_writeLeaf_1 (by decide) ?_
  refine lv_imul hx hb db_writeLeaf_3 ?_
  refine lv_istore (lv' := [(4, .int (x1 * 16)), (0, .ref (gm 0)), (1, .int x1), (2, .int x2), (3, .int x3)]) hx hb db_writeLeaf_4 hl (by decide) rfl (fun ls hl => ?_)
  refine lv_iconst (v := 0) hx hb db_writeLeaf_6 (by decide) ?_
  refine lv_istore (lv' := [(5, .int 0), (4, .int (x1 * 16)), (0, .ref (gm 0)), (1, .int x1), (2, .int x2), (3, .int x3)]) hx hb db_writeLeaf_7 hl (by decide) rfl (fun ls hl => ?_)
  exact wb_writeLeaf_9 hX n n _ _ _ _ _ _ _ _ _ hB (lv_sub hl [2, 3, 4, 5, 1, 0] rfl) hf
set_option maxRecDepth 100000 in
set_option maxHeartbeats 4000000 in
theorem cb_writeLeaf {l : Launch} (hfl : l.flags = flags0) {D : va_G} {gm : Nat → Nat} {ca : Nat → ClassId} {st : BSt} {n : Nat} {x1 : Int32} {x2 : Int32} {x3 : Int32} {st' : BSt} (hf : fb_writeLeaf n st x1 x2 x3 = some st') : MM l yb_writeLeaf rmb_writeLeaf D gm ca [.int x1, .int x2, .int x3] st (XV) st' :=
  MM.of hfl (by decide +kernel) rfl mcb_writeLeaf (fun p e s m below meth c A _ hX hB => wb_writeLeaf_0 hX hB n _ _ _ _ (lv_entry _ (Nat.le_of_ble_eq_true rfl)) hf)
set_option maxRecDepth 100000 in
set_option maxHeartbeats 4000000 in
theorem wb_writeLeaves_23 {p : Program} {l : Launch} {e : Env} {s : State} {m : MethodId} {args : Array Value} {below : List Frame} {meth : Method} {c : Code} {D : va_G} {gm : Nat → Nat} {ca : Nat → ClassId} {A : Nat → Prop} (hX : BX p l e rmb_writeLeaves s m args meth c D ca A kb_writeLeaves 1 (none)) (n : Nat) : ∀ (st : BSt) {st' : BSt} (ls : Array Slot) (H : Heap) (locs : List Loc), BWd D gm ca A s.heap st H locs → lv_has ls 1 [(0, .ref (gm 0))] → fb_writeLeaves_23 n st = some st' → W p l e rmb_writeLeaves s m args below meth c H locs 0 0 (MQX below (mm_Q D gm ca A (XV) st') args s 0 0 A) (F0 m 23 ls []) := by
  obtain ⟨hx, hb, hml, hr, hlk, hown, hts, hK, htr, hZ, hnh, hA, hfl⟩ := id hX
  intro st st' ls H locs hB hl hf
  rw [fb_writeLeaves_23] at hf
  refine lv_aload_n hx hb db_writeLeaves_23 rfl (lv_at hl 0 rfl) ?_
  refine bg_takenCount hx hb hown hts hK hB.1 db_writeLeaves_24 ?_
  refine lv_iconst (v := 2) hx hb db_writeLeaves_27 (by decide) ?_
  refine lv_icmp_ne (tgt := 58) hx hb db_writeLeaves_28 (by decide) (fun c1 => ?_) (fun c1 => ?_)
  · have hf := ifn c1 hf
    cases hf
    exact em_v hx hb hr hlk hB db_writeLeaves_58
  · have hf := ifp c1 hf
    refine lv_aload_n hx hb db_writeLeaves_31 rfl (lv_at hl 0 rfl) ?_
    refine lv_aload_n hx hb db_writeLeaves_32 rfl (lv_at hl 0 rfl) ?_
    refine bg_takenPages hx hb hown hts hK hB.1 db_writeLeaves_33 ?_
    refine lv_iconst (v := 0) hx hb db_writeLeaves_36 (by decide) ?_
    obtain ⟨r2, er2, ir2, hf⟩ := rdI_some hf
    refine bl_takenPages hx hb hK hB.1 ir2 er2 db_writeLeaves_37 ?_
    refine lv_iconst (v := 0) hx hb db_writeLeaves_38 (by decide) ?_
    refine lv_iconst (v := 4) hx hb db_writeLeaves_39 (by decide) ?_
    obtain ⟨st3, h4, hf⟩ := obs hf
    refine mmV (cb_writeLeaf (l := l) (hfl := hfl) h4) (cw_writeLeaf hts ⟨by decide, by decide⟩) hx hb hml hown hts hK hB hZ hA hl.1 rfl rfl (lv_room (Nat.le_of_ble_eq_true rfl)) db_writeLeaves_40 ⟨by decide, by decide⟩ (fun H locs hB => ?_)
    refine lv_aload_n hx hb db_writeLeaves_43 rfl (lv_at hl 0 rfl) ?_
    refine lv_aload_n hx hb db_writeLeaves_44 rfl (lv_at hl 0 rfl) ?_
    refine bg_takenPages hx hb hown hts hK hB.1 db_writeLeaves_45 ?_
    refine lv_iconst (v := 1) hx hb db_writeLeaves_48 (by decide) ?_
    obtain ⟨r5, er5, ir5, hf⟩ := rdI_some hf
    refine bl_takenPages hx hb hK hB.1 ir5 er5 db_writeLeaves_49 ?_
    refine lv_iconst (v := 4) hx hb db_writeLeaves_50 (by decide) ?_
    refine lv_aload_n hx hb db_writeLeaves_51 rfl (lv_at hl 0 rfl) ?_
    refine bg_draftCount hx hb hown hts hK hB.1 db_writeLeaves_52 ?_
    obtain ⟨st6, h7, hf⟩ := obs hf
    refine mmV (cb_writeLeaf (l := l) (hfl := hfl) h7) (cw_writeLeaf hts ⟨by decide, by decide⟩) hx hb hml hown hts hK hB hZ hA hl.1 rfl rfl (lv_room (Nat.le_of_ble_eq_true rfl)) db_writeLeaves_55 ⟨by decide, by decide⟩ (fun H locs hB => ?_)
    cases hf
    exact em_v hx hb hr hlk hB db_writeLeaves_58
set_option maxRecDepth 100000 in
set_option maxHeartbeats 4000000 in
theorem wb_writeLeaves_0 {p : Program} {l : Launch} {e : Env} {s : State} {m : MethodId} {args : Array Value} {below : List Frame} {meth : Method} {c : Code} {D : va_G} {gm : Nat → Nat} {ca : Nat → ClassId} {A : Nat → Prop} {st : BSt} (hX : BX p l e rmb_writeLeaves s m args meth c D ca A kb_writeLeaves 1 (none)) (hB : BWd D gm ca A s.heap st s.heap []) (n : Nat) : ∀ {st' : BSt} (ls : Array Slot), lv_has ls 1 [(0, .ref (gm 0))] → fb_writeLeaves n st = some st' → W p l e rmb_writeLeaves s m args below meth c s.heap [] 0 0 (MQX below (mm_Q D gm ca A (XV) st') args s 0 0 A) (F0 m 0 ls []) := by
  obtain ⟨hx, hb, hml, hr, hlk, hown, hts, hK, htr, hZ, hnh, hA, hfl⟩ := id hX
  intro st' ls hl hf
  rw [fb_writeLeaves] at hf
  refine lv_aload_n hx hb db_writeLeaves_0 rfl (lv_at hl 0 rfl) ?_
  refine bg_takenCount hx hb hown hts hK hB.1 db_writeLeaves_1 ?_
  refine lv_iconst (v := 1) hx hb db_writeLeaves_4 (by decide) ?_
  refine lv_icmp_ne (tgt := 23) hx hb db_writeLeaves_5 (by decide) (fun c1 => ?_) (fun c1 => ?_)
  · have hf := ifn c1 hf
    exact wb_writeLeaves_23 hX n _ _ _ _ hB (lv_sub hl [0] rfl) hf
  · have hf := ifp c1 hf
    refine lv_aload_n hx hb db_writeLeaves_8 rfl (lv_at hl 0 rfl) ?_
    refine lv_aload_n hx hb db_writeLeaves_9 rfl (lv_at hl 0 rfl) ?_
    refine bg_takenPages hx hb hown hts hK hB.1 db_writeLeaves_10 ?_
    refine lv_iconst (v := 0) hx hb db_writeLeaves_13 (by decide) ?_
    obtain ⟨r2, er2, ir2, hf⟩ := rdI_some hf
    refine bl_takenPages hx hb hK hB.1 ir2 er2 db_writeLeaves_14 ?_
    refine lv_iconst (v := 0) hx hb db_writeLeaves_15 (by decide) ?_
    refine lv_aload_n hx hb db_writeLeaves_16 rfl (lv_at hl 0 rfl) ?_
    refine bg_draftCount hx hb hown hts hK hB.1 db_writeLeaves_17 ?_
    obtain ⟨st3, h4, hf⟩ := obs hf
    refine mmV (cb_writeLeaf (l := l) (hfl := hfl) h4) (cw_writeLeaf hts ⟨by decide, by decide⟩) hx hb hml hown hts hK hB hZ hA hl.1 rfl rfl (lv_room (Nat.le_of_ble_eq_true rfl)) db_writeLeaves_20 ⟨by decide, by decide⟩ (fun H locs hB => ?_)
    exact wb_writeLeaves_23 hX n _ _ _ _ hB (lv_sub hl [0] rfl) hf
set_option maxRecDepth 100000 in
set_option maxHeartbeats 4000000 in
theorem cb_writeLeaves {l : Launch} (hfl : l.flags = flags0) {D : va_G} {gm : Nat → Nat} {ca : Nat → ClassId} {st : BSt} {n : Nat} {st' : BSt} (hf : fb_writeLeaves n st = some st') : MM l yb_writeLeaves rmb_writeLeaves D gm ca [] st (XV) st' :=
  MM.of hfl (by decide +kernel) rfl mcb_writeLeaves (fun p e s m below meth c A _ hX hB => wb_writeLeaves_0 hX hB n _ (lv_entry _ (Nat.le_of_ble_eq_true rfl)) hf)
set_option maxRecDepth 100000 in
set_option maxHeartbeats 4000000 in
theorem wb_entriesOfRoot_0 {p : Program} {l : Launch} {e : Env} {s : State} {m : MethodId} {args : Array Value} {below : List Frame} {meth : Method} {c : Code} {D : va_G} {gm : Nat → Nat} {ca : Nat → ClassId} {A : Nat → Prop} {st : BSt} (hX : BX p l e rmb_entriesOfRoot s m args meth c D ca A kb_entriesOfRoot 2 (some .int)) (hP : va_P D vwCl (wB gm ca st) s.heap) (n : Nat) : ∀ (x1 : Int32) {r : Int32} (ls : Array Slot), lv_has ls 2 [(0, .ref (gm 0)), (1, .int x1)] → fb_entriesOfRoot n st x1 = some r → W p l e rmb_entriesOfRoot s m args below meth c s.heap [] 0 0 (MQX below (xx_Q (XI r)) args s 0 0 (fun _ => False)) (F0 m 0 ls []) := by
  obtain ⟨hx, hb, hml, hr, hlk, hown, hts, hK, htr, hZ, hnh, hA, hfl⟩ := id hX
  intro x1 r ls hl hf
  rw [fb_entriesOfRoot] at hf
  refine lv_aload_n hx hb db_entriesOfRoot_0 rfl (lv_at hl 0 rfl) ?_
  refine bg_roots hx hb hown hts hK hP db_entriesOfRoot_1 ?_
  refine lv_iload_n hx hb db_entriesOfRoot_4 rfl (lv_at hl 1 rfl) ?_
  refine lv_bipush (v := 20) hx hb db_entriesOfRoot_5 (by decide) ?_
  refine lv_imul hx hb db_entriesOfRoot_7 ?_
  refine lv_bipush (v := 18) hx hb db_entriesOfRoot_8 (by decide) ?_
  refine lv_iadd hx hb db_entriesOfRoot_10 ?_
  obtain ⟨r1, er1, ir1, hf⟩ := rdL_some hf
  refine bl_roots hx hb hK hP ir1 er1 db_entriesOfRoot_11 ?_
  refine lv_l2i hx hb db_entriesOfRoot_12 rfl ?_
  cases hf
  exact er_i hx hb hr hlk db_entriesOfRoot_13
set_option maxRecDepth 100000 in
set_option maxHeartbeats 4000000 in
theorem cb_entriesOfRoot {l : Launch} (hfl : l.flags = flags0) {D : va_G} {gm : Nat → Nat} {ca : Nat → ClassId} {st : BSt} {n : Nat} {x1 : Int32} {r : Int32} (hf : fb_entriesOfRoot n st x1 = some r) : RM l yb_entriesOfRoot rmb_entriesOfRoot D gm ca [.int x1] st (XI r) :=
  RM.of hfl (by decide +kernel) rfl mcb_entriesOfRoot (fun p e s m below meth c hX hP => wb_entriesOfRoot_0 hX hP n _ _ (lv_entry _ (Nat.le_of_ble_eq_true rfl)) hf)
end
section
set_option maxRecDepth 100000 in
set_option maxHeartbeats 4000000 in
theorem wb_writeRoot_143 {p : Program} {l : Launch} {e : Env} {s : State} {m : MethodId} {args : Array Value} {below : List Frame} {meth : Method} {c : Code} {D : va_G} {gm : Nat → Nat} {ca : Nat → ClassId} {A : Nat → Prop} (hX : BX p l e rmb_writeRoot s m args meth c D ca A kb_writeRoot 9 (none)) (n : Nat) :∀ (k : Nat), ∀ (st : BSt) (x1 : Int32) (x3 : Int32) (x4 : Int32) (x6 : Int32) (x7 : Int32) (x8 : Int32) {st' : BSt} (ls : Array Slot) (H : Heap) (locs : List Loc), BWd D gm ca A s.heap st H locs → lv_has ls 9 [(0, .ref (gm 0)), (1, .int x1), (3, .int x3), (4, .int x4), (6, .int x6), (7, .int x7), (8, .int x8)] → fb_writeRoot_143 n k st x1 x3 x4 x6 x7 x8 = some st' → W p l e rmb_writeRoot s m args below meth c H locs 0 0 (MQX below (mm_Q D gm ca A (XV) st') args s 0 0 A) (F0 m 143 ls []) := by
  obtain ⟨hx, hb, hml, hr, hlk, hown, hts, hK, htr, hZ, hnh, hA, hfl⟩ := id hX
  intro k
  induction k with
  | zero =>
    intro st x1 x3 x4 x6 x7 x8 st' ls H locs hB hl hf
    rw [fb_writeRoot_143] at hf
    cases hf
  | succ k ih =>
    intro st x1 x3 x4 x6 x7 x8 st' ls H locs hB hl hf
    rw [fb_writeRoot_143] at hf
    refine lv_iload hx hb db_writeRoot_143 (lv_at hl 6 rfl) ?_
    refine lv_iload hx hb db_writeRoot_145 (lv_at hl 4 rfl) ?_
    refine lv_icmp_ge (tgt := 178) hx hb db_writeRoot_147 (by decide) (fun c1 => ?_) (fun c1 => ?_)
    · have hf := ifp c1 hf
      refine lv_aload_n hx hb db_writeRoot_178 rfl (lv_at hl 0 rfl) ?_
      refine bg_roots hx hb hown hts hK hB.1 db_writeRoot_179 ?_
      refine lv_iload_n hx hb db_writeRoot_182 rfl (lv_at hl 2 rfl) ?_
      refine lv_aload_n hx hb db_writeRoot_183 rfl (lv_at hl 0 rfl) ?_
      refine bg_newest hx hb hown hts hK hB.1 db_writeRoot_184 ?_
      refine lv_iconst (v := 1) hx hb db_writeRoot_187 (by decide) ?_
      refine lv_iadd hx hb db_writeRoot_188 ?_
      refine lv_i2l hx hb db_writeRoot_189 rfl ?_
      obtain ⟨a2, ea2, ia2, hf⟩ := wrL_some hf
      refine bt_roots hx hb hK hB ia2 ea2 db_writeRoot_190 (fun H locs hB => ?_)
      refine lv_aload_n hx hb db_writeRoot_191 rfl (lv_at hl 0 rfl) ?_
      refine bg_roots hx hb hown hts hK hB.1 db_writeRoot_192 ?_
      refine lv_iload_n hx hb db_writeRoot_195 rfl (lv_at hl 2 rfl) ?_
      refine lv_iconst (v := 1) hx hb db_writeRoot_196 (by decide) ?_
      refine lv_iadd hx hb db_writeRoot_197 ?_
      refine lv_iload hx hb db_writeRoot_198 (lv_at hl 5 rfl) ?_
      refine lv_i2l hx hb db_writeRoot_200 rfl ?_
      obtain ⟨a3, ea3, ia3, hf⟩ := wrL_some hf
      refine bt_roots hx hb hK hB ia3 ea3 db_writeRoot_201 (fun H locs hB => ?_)
      refine lv_aload_n hx hb db_writeRoot_202 rfl (lv_at hl 0 rfl) ?_
      refine bg_roots hx hb hown hts hK hB.1 db_writeRoot_203 ?_
      refine lv_iload_n hx hb db_writeRoot_206 rfl (lv_at hl 2 rfl) ?_
      refine lv_bipush (v := 18) hx hb db_writeRoot_207 (by decide) ?_
      refine lv_iadd hx hb db_writeRoot_209 ?_
      refine lv_aload_n hx hb db_writeRoot_210 rfl (lv_at hl 0 rfl) ?_
      refine lv_iload_n hx hb db_writeRoot_211 rfl (lv_at hl 1 rfl) ?_
      obtain ⟨r4, h5, hf⟩ := obs hf
      refine rmI (cb_entriesOfRoot (l := l) (hfl := hfl) h5) (cw_entriesOfRoot hts ⟨by decide, by decide⟩) hx hb hml hown hts hK hB.1 hB.2.2 hZ hl.1 rfl rfl (lv_room (Nat.le_of_ble_eq_true rfl)) db_writeRoot_212 ⟨by decide, by decide⟩ ?_
      refine lv_iload hx hb db_writeRoot_215 (lv_at hl 3 rfl) ?_
      refine lv_isub hx hb db_writeRoot_217 ?_
      refine lv_aload_n hx hb db_writeRoot_218 rfl (lv_at hl 0 rfl) ?_
      refine bg_draftCount hx hb hown hts hK hB.1 db_writeRoot_219 ?_
      refine lv_iadd hx hb db_writeRoot_222 ?_
      refine lv_i2l hx hb db_writeRoot_223 rfl ?_
      obtain ⟨a6, ea6, ia6, hf⟩ := wrL_some hf
      refine bt_roots hx hb hK hB ia6 ea6 db_writeRoot_224 (fun H locs hB => ?_)
      refine lv_aload_n hx hb db_writeRoot_225 rfl (lv_at hl 0 rfl) ?_
      refine bg_roots hx hb hown hts hK hB.1 db_writeRoot_226 ?_
      refine lv_iload_n hx hb db_writeRoot_229 rfl (lv_at hl 2 rfl) ?_
      refine lv_bipush (v := 19) hx hb db_writeRoot_230 (by decide) ?_
      refine lv_iadd hx hb db_writeRoot_232 ?_
      refine lv_aload_n hx hb db_writeRoot_233 rfl (lv_at hl 0 rfl) ?_
      refine bg_roots hx hb hown hts hK hB.1 db_writeRoot_234 ?_
      refine lv_iload_n hx hb db_writeRoot_237 rfl (lv_at hl 2 rfl) ?_
      refine lv_bipush (v := 19) hx hb db_writeRoot_238 (by decide) ?_
      obtain ⟨r7, h8, hf⟩ := obs hf
      refine saL (cb_sumOf (l := l) (hfl := hfl) h8) (cw_sumOf hts ⟨by decide, by decide⟩) hx hb hml hown hts hK hB.1 2 1 rfl rfl hl.1 rfl rfl (lv_room (Nat.le_of_ble_eq_true rfl)) db_writeRoot_240 ⟨by decide, by decide⟩ ?_
      obtain ⟨a9, ea9, ia9, hf⟩ := wrL_some hf
      refine bt_roots hx hb hK hB ia9 ea9 db_writeRoot_243 (fun H locs hB => ?_)
      cases hf
      exact em_v hx hb hr hlk hB db_writeRoot_244
    · have hf := ifn c1 hf
      refine lv_aload_n hx hb db_writeRoot_150 rfl (lv_at hl 0 rfl) ?_
      refine bg_roots hx hb hown hts hK hB.1 db_writeRoot_151 ?_
      refine lv_iload_n hx hb db_writeRoot_154 rfl (lv_at hl 2 rfl) ?_
      refine lv_iconst (v := 2) hx hb db_writeRoot_155 (by decide) ?_
      refine lv_iadd hx hb db_writeRoot_156 ?_
      refine lv_iload hx hb db_writeRoot_157 (lv_at hl 5 rfl) ?_
      refine lv_iadd hx hb db_writeRoot_159 ?_
      refine lv_aload_n hx hb db_writeRoot_160 rfl (lv_at hl 0 rfl) ?_
      refine lv_iload_n hx hb db_writeRoot_161 rfl (lv_at hl 1 rfl) ?_
      refine lv_iload hx hb db_writeRoot_162 (lv_at hl 6 rfl) ?_
      obtain ⟨r10, h11, hf⟩ := obs hf
      refine rmI (cb_pageOf (l := l) (hfl := hfl) h11) (cw_pageOf hts ⟨by decide, by decide⟩) hx hb hml hown hts hK hB.1 hB.2.2 hZ hl.1 rfl rfl (lv_room (Nat.le_of_ble_eq_true rfl)) db_writeRoot_164 ⟨by decide, by decide⟩ ?_
      refine lv_i2l hx hb db_writeRoot_167 rfl ?_
      obtain ⟨a12, ea12, ia12, hf⟩ := wrL_some hf
      refine bt_roots hx hb hK hB ia12 ea12 db_writeRoot_168 (fun H locs hB => ?_)
      refine lv_iinc (v := (x7 + 1)) (lv' := [(7, .int (x7 + 1)), (0, .ref (gm 0)), (1, .int x1), (3, .int x3), (4, .int x4), (6, .int x6), (8, .int x8)]) hx hb db_writeRoot_169 hl (k := 5) rfl rfl (by decide) rfl (fun ls hl => ?_)
      refine lv_iinc (v := (x8 + 1)) (lv' := [(8, .int (x8 + 1)), (7, .int (x7 + 1)), (0, .ref (gm 0)), (1, .int x1), (3, .int x3), (4, .int x4), (6, .int x6)]) hx hb db_writeRoot_172 hl (k := 6) rfl rfl (by decide) rfl (fun ls hl => ?_)
      refine lv_goto (tgt := 143) hx hb db_writeRoot_175 (by decide) ?_
      exact ih _ _ _ _ _ _ _ _ _ _ hB (lv_sub hl [2, 3, 4, 5, 6, 1, 0] rfl) hf
set_option maxRecDepth 100000 in
set_option maxHeartbeats 4000000 in
theorem wb_writeRoot_100 {p : Program} {l : Launch} {e : Env} {s : State} {m : MethodId} {args : Array Value} {below : List Frame} {meth : Method} {c : Code} {D : va_G} {gm : Nat → Nat} {ca : Nat → ClassId} {A : Nat → Prop} (hX : BX p l e rmb_writeRoot s m args meth c D ca A kb_writeRoot 9 (none)) (n : Nat) :∀ (k : Nat), ∀ (st : BSt) (x1 : Int32) (x3 : Int32) (x4 : Int32) (x5 : Int32) (x6 : Int32) (x7 : Int32) (x8 : Int32) {st' : BSt} (ls : Array Slot) (H : Heap) (locs : List Loc), BWd D gm ca A s.heap st H locs → lv_has ls 9 [(0, .ref (gm 0)), (1, .int x1), (3, .int x3), (4, .int x4), (5, .int x5), (6, .int x6), (7, .int x7), (8, .int x8)] → fb_writeRoot_100 n k st x1 x3 x4 x5 x6 x7 x8 = some st' → W p l e rmb_writeRoot s m args below meth c H locs 0 0 (MQX below (mm_Q D gm ca A (XV) st') args s 0 0 A) (F0 m 100 ls []) := by
  obtain ⟨hx, hb, hml, hr, hlk, hown, hts, hK, htr, hZ, hnh, hA, hfl⟩ := id hX
  intro k
  induction k with
  | zero =>
    intro st x1 x3 x4 x5 x6 x7 x8 st' ls H locs hB hl hf
    rw [fb_writeRoot_100] at hf
    cases hf
  | succ k ih =>
    intro st x1 x3 x4 x5 x6 x7 x8 st' ls H locs hB hl hf
    rw [fb_writeRoot_100] at hf
    refine lv_iload hx hb db_writeRoot_100 (lv_at hl 7 rfl) ?_
    refine lv_aload_n hx hb db_writeRoot_102 rfl (lv_at hl 0 rfl) ?_
    refine bg_takenCount hx hb hown hts hK hB.1 db_writeRoot_103 ?_
    refine lv_icmp_ge (tgt := 137) hx hb db_writeRoot_106 (by decide) (fun c1 => ?_) (fun c1 => ?_)
    · have hf := ifp c1 hf
      refine lv_iload hx hb db_writeRoot_137 (lv_at hl 4 rfl) ?_
      refine lv_iconst (v := 1) hx hb db_writeRoot_139 (by decide) ?_
      refine lv_iadd hx hb db_writeRoot_140 ?_
      refine lv_istore (lv' := [(8, .int (x5 + 1)), (0, .ref (gm 0)), (1, .int x1), (3, .int x3), (4, .int x4), (5, .int x5), (6, .int x6), (7, .int x7)]) hx hb db_writeRoot_141 hl (by decide) rfl (fun ls hl => ?_)
      exact wb_writeRoot_143 hX n n _ _ _ _ _ _ _ _ _ _ hB (lv_sub hl [1, 2, 3, 4, 6, 7, 0] rfl) hf
    · have hf := ifn c1 hf
      refine lv_aload_n hx hb db_writeRoot_109 rfl (lv_at hl 0 rfl) ?_
      refine bg_roots hx hb hown hts hK hB.1 db_writeRoot_110 ?_
      refine lv_iload_n hx hb db_writeRoot_113 rfl (lv_at hl 2 rfl) ?_
      refine lv_iconst (v := 2) hx hb db_writeRoot_114 (by decide) ?_
      refine lv_iadd hx hb db_writeRoot_115 ?_
      refine lv_iload hx hb db_writeRoot_116 (lv_at hl 6 rfl) ?_
      refine lv_iadd hx hb db_writeRoot_118 ?_
      refine lv_aload_n hx hb db_writeRoot_119 rfl (lv_at hl 0 rfl) ?_
      refine bg_takenPages hx hb hown hts hK hB.1 db_writeRoot_120 ?_
      refine lv_iload hx hb db_writeRoot_123 (lv_at hl 7 rfl) ?_
      obtain ⟨r2, er2, ir2, hf⟩ := rdI_some hf
      refine bl_takenPages hx hb hK hB.1 ir2 er2 db_writeRoot_125 ?_
      refine lv_i2l hx hb db_writeRoot_126 rfl ?_
      obtain ⟨a3, ea3, ia3, hf⟩ := wrL_some hf
      refine bt_roots hx hb hK hB ia3 ea3 db_writeRoot_127 (fun H locs hB => ?_)
      refine lv_iinc (v := (x7 + 1)) (lv' := [(7, .int (x7 + 1)), (0, .ref (gm 0)), (1, .int x1), (3, .int x3), (4, .int x4), (5, .int x5), (6, .int x6), (8, .int x8)]) hx hb db_writeRoot_128 hl (k := 6) rfl rfl (by decide) rfl (fun ls hl => ?_)
      refine lv_iinc (v := (x8 + 1)) (lv' := [(8, .int (x8 + 1)), (7, .int (x7 + 1)), (0, .ref (gm 0)), (1, .int x1), (3, .int x3), (4, .int x4), (5, .int x5), (6, .int x6)]) hx hb db_writeRoot_131 hl (k := 7) rfl rfl (by decide) rfl (fun ls hl => ?_)
      refine lv_goto (tgt := 100) hx hb db_writeRoot_134 (by decide) ?_
      exact ih _ _ _ _ _ _ _ _ _ _ _ hB (lv_sub hl [2, 3, 4, 5, 6, 7, 1, 0] rfl) hf
set_option maxRecDepth 100000 in
set_option maxHeartbeats 4000000 in
theorem wb_writeRoot_62 {p : Program} {l : Launch} {e : Env} {s : State} {m : MethodId} {args : Array Value} {below : List Frame} {meth : Method} {c : Code} {D : va_G} {gm : Nat → Nat} {ca : Nat → ClassId} {A : Nat → Prop} (hX : BX p l e rmb_writeRoot s m args meth c D ca A kb_writeRoot 9 (none)) (n : Nat) :∀ (k : Nat), ∀ (st : BSt) (x1 : Int32) (x3 : Int32) (x4 : Int32) (x5 : Int32) (x6 : Int32) (x7 : Int32) (x8 : Int32) {st' : BSt} (ls : Array Slot) (H : Heap) (locs : List Loc), BWd D gm ca A s.heap st H locs → lv_has ls 9 [(0, .ref (gm 0)), (1, .int x1), (3, .int x3), (4, .int x4), (5, .int x5), (6, .int x6), (7, .int x7), (8, .int x8)] → fb_writeRoot_62 n k st x1 x3 x4 x5 x6 x7 x8 = some st' → W p l e rmb_writeRoot s m args below meth c H locs 0 0 (MQX below (mm_Q D gm ca A (XV) st') args s 0 0 A) (F0 m 62 ls []) := by
  obtain ⟨hx, hb, hml, hr, hlk, hown, hts, hK, htr, hZ, hnh, hA, hfl⟩ := id hX
  intro k
  induction k with
  | zero =>
    intro st x1 x3 x4 x5 x6 x7 x8 st' ls H locs hB hl hf
    rw [fb_writeRoot_62] at hf
    cases hf
  | succ k ih =>
    intro st x1 x3 x4 x5 x6 x7 x8 st' ls H locs hB hl hf
    rw [fb_writeRoot_62] at hf
    refine lv_iload hx hb db_writeRoot_62 (lv_at hl 7 rfl) ?_
    refine lv_iload hx hb db_writeRoot_64 (lv_at hl 4 rfl) ?_
    refine lv_icmp_ge (tgt := 97) hx hb db_writeRoot_66 (by decide) (fun c1 => ?_) (fun c1 => ?_)
    · have hf := ifp c1 hf
      refine lv_iconst (v := 0) hx hb db_writeRoot_97 (by decide) ?_
      refine lv_istore (lv' := [(8, .int 0), (0, .ref (gm 0)), (1, .int x1), (3, .int x3), (4, .int x4), (5, .int x5), (6, .int x6), (7, .int x7)]) hx hb db_writeRoot_98 hl (by decide) rfl (fun ls hl => ?_)
      exact wb_writeRoot_100 hX n n _ _ _ _ _ _ _ _ _ _ _ hB (lv_sub hl [1, 2, 3, 4, 5, 6, 7, 0] rfl) hf
    · have hf := ifn c1 hf
      refine lv_aload_n hx hb db_writeRoot_69 rfl (lv_at hl 0 rfl) ?_
      refine bg_roots hx hb hown hts hK hB.1 db_writeRoot_70 ?_
      refine lv_iload_n hx hb db_writeRoot_73 rfl (lv_at hl 2 rfl) ?_
      refine lv_iconst (v := 2) hx hb db_writeRoot_74 (by decide) ?_
      refine lv_iadd hx hb db_writeRoot_75 ?_
      refine lv_iload hx hb db_writeRoot_76 (lv_at hl 6 rfl) ?_
      refine lv_iadd hx hb db_writeRoot_78 ?_
      refine lv_aload_n hx hb db_writeRoot_79 rfl (lv_at hl 0 rfl) ?_
      refine lv_iload_n hx hb db_writeRoot_80 rfl (lv_at hl 1 rfl) ?_
      refine lv_iload hx hb db_writeRoot_81 (lv_at hl 7 rfl) ?_
      obtain ⟨r2, h3, hf⟩ := obs hf
      refine rmI (cb_pageOf (l := l) (hfl := hfl) h3) (cw_pageOf hts ⟨by decide, by decide⟩) hx hb hml hown hts hK hB.1 hB.2.2 hZ hl.1 rfl rfl (lv_room (Nat.le_of_ble_eq_true rfl)) db_writeRoot_83 ⟨by decide, by decide⟩ ?_
      refine lv_i2l hx hb db_writeRoot_86 rfl ?_
      obtain ⟨a4, ea4, ia4, hf⟩ := wrL_some hf
      refine bt_roots hx hb hK hB ia4 ea4 db_writeRoot_87 (fun H locs hB => ?_)
      refine lv_iinc (v := (x7 + 1)) (lv' := [(7, .int (x7 + 1)), (0, .ref (gm 0)), (1, .int x1), (3, .int x3), (4, .int x4), (5, .int x5), (6, .int x6), (8, .int x8)]) hx hb db_writeRoot_88 hl (k := 6) rfl rfl (by decide) rfl (fun ls hl => ?_)
      refine lv_iinc (v := (x8 + 1)) (lv' := [(8, .int (x8 + 1)), (7, .int (x7 + 1)), (0, .ref (gm 0)), (1, .int x1), (3, .int x3), (4, .int x4), (5, .int x5), (6, .int x6)]) hx hb db_writeRoot_91 hl (k := 7) rfl rfl (by decide) rfl (fun ls hl => ?_)
      refine lv_goto (tgt := 62) hx hb db_writeRoot_94 (by decide) ?_
      exact ih _ _ _ _ _ _ _ _ _ _ _ hB (lv_sub hl [2, 3, 4, 5, 6, 7, 1, 0] rfl) hf
set_option maxRecDepth 100000 in
set_option maxHeartbeats 4000000 in
theorem wb_writeRoot_27 {p : Program} {l : Launch} {e : Env} {s : State} {m : MethodId} {args : Array Value} {below : List Frame} {meth : Method} {c : Code} {D : va_G} {gm : Nat → Nat} {ca : Nat → ClassId} {A : Nat → Prop} {st : BSt} (hX : BX p l e rmb_writeRoot s m args meth c D ca A kb_writeRoot 9 (none)) (hB : BWd D gm ca A s.heap st s.heap []) (n : Nat) : ∀ (x1 : Int32) (x2 : Int32) (x3 : Int32) (y0 : Int32) {st' : BSt} (ls : Array Slot), lv_has ls 9 [(0, .ref (gm 0)), (1, .int x1), (2, .int x2), (3, .int x3)] → fb_writeRoot_27 n st x1 x2 x3 y0 = some st' → W p l e rmb_writeRoot s m args below meth c s.heap [] 0 0 (MQX below (mm_Q D gm ca A (XV) st') args s 0 0 A) (F0 m 27 ls [.int y0]) := by
  obtain ⟨hx, hb, hml, hr, hlk, hown, hts, hK, htr, hZ, hnh, hA, hfl⟩ := id hX
  intro x1 x2 x3 y0 st' ls hl hf
  rw [fb_writeRoot_27] at hf
  refine lv_istore (lv' := [(4, .int y0), (0, .ref (gm 0)), (1, .int x1), (2, .int x2), (3, .int x3)]) hx hb db_writeRoot_27 hl (by decide) rfl (fun ls hl => ?_)
  refine lv_iload_n hx hb db_writeRoot_29 rfl (lv_at hl 3 rfl) ?_
  refine lv_iconst (v := (-1)) hx hb db_writeRoot_30 (by decide) ?_
  refine lv_icmp_ne (tgt := 38) hx hb db_writeRoot_31 (by decide) (fun c1 => ?_) (fun c1 => ?_)
  · have hf := ifn c1 hf
    refine lv_iload_n hx hb db_writeRoot_38 rfl (lv_at hl 3 rfl) ?_
    refine lv_istore (lv' := [(5, .int x2), (4, .int y0), (0, .ref (gm 0)), (1, .int x1), (2, .int x2), (3, .int x3)]) hx hb db_writeRoot_39 hl (by decide) rfl (fun ls hl => ?_)
    refine lv_aload_n hx hb db_writeRoot_41 rfl (lv_at hl 2 rfl) ?_
    refine lv_iload_n hx hb db_writeRoot_42 rfl (lv_at hl 3 rfl) ?_
    obtain ⟨r2, h3, hf⟩ := obs hf
    refine rmI (cb_leavesOf (l := l) (hfl := hfl) h3) (cw_leavesOf hts ⟨by decide, by decide⟩) hx hb hml hown hts hK hB.1 hB.2.2 hZ hl.1 rfl rfl (lv_room (Nat.le_of_ble_eq_true rfl)) db_writeRoot_43 ⟨by decide, by decide⟩ ?_
    refine lv_istore (lv' := [(6, .int r2), (5, .int x2), (4, .int y0), (0, .ref (gm 0)), (1, .int x1), (2, .int x2), (3, .int x3)]) hx hb db_writeRoot_46 hl (by decide) rfl (fun ls hl => ?_)
    refine lv_aload_n hx hb db_writeRoot_48 rfl (lv_at hl 3 rfl) ?_
    refine lv_aload_n hx hb db_writeRoot_49 rfl (lv_at hl 3 rfl) ?_
    refine bg_writtenRoot hx hb hown hts hK hB.1 db_writeRoot_50 ?_
    obtain ⟨st4, h5, hf⟩ := obs hf
    refine mmV (cb_clearRoot (l := l) (hfl := hfl) h5) (cw_clearRoot hts ⟨by decide, by decide⟩) hx hb hml hown hts hK hB hZ hA hl.1 rfl rfl (lv_room (Nat.le_of_ble_eq_true rfl)) db_writeRoot_53 ⟨by decide, by decide⟩ (fun H locs hB => ?_)
    refine lv_iconst (v := 0) hx hb db_writeRoot_56 (by decide) ?_
    refine lv_istore (lv' := [(7, .int 0), (6, .int r2), (5, .int x2), (4, .int y0), (0, .ref (gm 0)), (1, .int x1), (2, .int x2), (3, .int x3)]) hx hb db_writeRoot_57 hl (by decide) rfl (fun ls hl => ?_)
    refine lv_iconst (v := 0) hx hb db_writeRoot_59 (by decide) ?_
    refine lv_istore (lv' := [(8, .int 0), (7, .int 0), (6, .int r2), (5, .int x2), (4, .int y0), (0, .ref (gm 0)), (1, .int x1), (2, .int x2), (3, .int x3)]) hx hb db_writeRoot_60 hl (by decide) rfl (fun ls hl => ?_)
    exact wb_writeRoot_62 hX n n _ _ _ _ _ _ _ _ _ _ _ hB (lv_sub hl [5, 6, 8, 4, 3, 2, 1, 0] rfl) hf
  · have hf := ifp c1 hf
    refine lv_iconst (v := 0) hx hb db_writeRoot_34 (by decide) ?_
    refine lv_goto (tgt := 39) hx hb db_writeRoot_35 (by decide) ?_
    refine lv_istore (lv' := [(5, .int 0), (4, .int y0), (0, .ref (gm 0)), (1, .int x1), (2, .int x2), (3, .int x3)]) hx hb db_writeRoot_39 hl (by decide) rfl (fun ls hl => ?_)
    refine lv_aload_n hx hb db_writeRoot_41 rfl (lv_at hl 2 rfl) ?_
    refine lv_iload_n hx hb db_writeRoot_42 rfl (lv_at hl 3 rfl) ?_
    obtain ⟨r6, h7, hf⟩ := obs hf
    refine rmI (cb_leavesOf (l := l) (hfl := hfl) h7) (cw_leavesOf hts ⟨by decide, by decide⟩) hx hb hml hown hts hK hB.1 hB.2.2 hZ hl.1 rfl rfl (lv_room (Nat.le_of_ble_eq_true rfl)) db_writeRoot_43 ⟨by decide, by decide⟩ ?_
    refine lv_istore (lv' := [(6, .int r6), (5, .int 0), (4, .int y0), (0, .ref (gm 0)), (1, .int x1), (2, .int x2), (3, .int x3)]) hx hb db_writeRoot_46 hl (by decide) rfl (fun ls hl => ?_)
    refine lv_aload_n hx hb db_writeRoot_48 rfl (lv_at hl 3 rfl) ?_
    refine lv_aload_n hx hb db_writeRoot_49 rfl (lv_at hl 3 rfl) ?_
    refine bg_writtenRoot hx hb hown hts hK hB.1 db_writeRoot_50 ?_
    obtain ⟨st8, h9, hf⟩ := obs hf
    refine mmV (cb_clearRoot (l := l) (hfl := hfl) h9) (cw_clearRoot hts ⟨by decide, by decide⟩) hx hb hml hown hts hK hB hZ hA hl.1 rfl rfl (lv_room (Nat.le_of_ble_eq_true rfl)) db_writeRoot_53 ⟨by decide, by decide⟩ (fun H locs hB => ?_)
    refine lv_iconst (v := 0) hx hb db_writeRoot_56 (by decide) ?_
    refine lv_istore (lv' := [(7, .int 0), (6, .int r6), (5, .int 0), (4, .int y0), (0, .ref (gm 0)), (1, .int x1), (2, .int x2), (3, .int x3)]) hx hb db_writeRoot_57 hl (by decide) rfl (fun ls hl => ?_)
    refine lv_iconst (v := 0) hx hb db_writeRoot_59 (by decide) ?_
    refine lv_istore (lv' := [(8, .int 0), (7, .int 0), (6, .int r6), (5, .int 0), (4, .int y0), (0, .ref (gm 0)), (1, .int x1), (2, .int x2), (3, .int x3)]) hx hb db_writeRoot_60 hl (by decide) rfl (fun ls hl => ?_)
    exact wb_writeRoot_62 hX n n _ _ _ _ _ _ _ _ _ _ _ hB (lv_sub hl [5, 6, 8, 4, 3, 2, 1, 0] rfl) hf
set_option maxRecDepth 100000 in
set_option maxHeartbeats 4000000 in
theorem wb_writeRoot_0 {p : Program} {l : Launch} {e : Env} {s : State} {m : MethodId} {args : Array Value} {below : List Frame} {meth : Method} {c : Code} {D : va_G} {gm : Nat → Nat} {ca : Nat → ClassId} {A : Nat → Prop} {st : BSt} (hX : BX p l e rmb_writeRoot s m args meth c D ca A kb_writeRoot 9 (none)) (hB : BWd D gm ca A s.heap st s.heap []) (n : Nat) : ∀ (x1 : Int32) (x2 : Int32) {st' : BSt} (ls : Array Slot), lv_has ls 9 [(0, .ref (gm 0)), (1, .int x1), (2, .int x2)] → fb_writeRoot n st x1 x2 = some st' → W p l e rmb_writeRoot s m args below meth c s.heap [] 0 0 (MQX below (mm_Q D gm ca A (XV) st') args s 0 0 A) (F0 m 0 ls []) := by
  obtain ⟨hx, hb, hml, hr, hlk, hown, hts, hK, htr, hZ, hnh, hA, hfl⟩ := id hX
  intro x1 x2 st' ls hl hf
  rw [fb_writeRoot] at hf
  refine lv_aload_n hx hb db_writeRoot_0 rfl (lv_at hl 0 rfl) ?_
  refine bg_writtenRoot hx hb hown hts hK hB.1 db_writeRoot_1 ?_
  refine lv_bipush (v := 20) hx hb db_writeRoot_4 (by decide) ?_
  refine lv_imul hx hb db_writeRoot_6 ?_
  refine lv_istore_n (lv' := [(3, .int ((bs_writtenRoot st) * 20)), (0, .ref (gm 0)), (1, .int x1), (2, .int x2)]) hx hb db_writeRoot_7 rfl hl (by decide) rfl (fun ls hl => ?_)
  refine lv_iload_n hx hb db_writeRoot_8 rfl (lv_at hl 3 rfl) ?_
  refine lv_iconst (v := (-1)) hx hb db_writeRoot_9 (by decide) ?_
  refine lv_icmp_ne (tgt := 17) hx hb db_writeRoot_10 (by decide) (fun c1 => ?_) (fun c1 => ?_)
  · have hf := ifn c1 hf
    refine lv_aload_n hx hb db_writeRoot_17 rfl (lv_at hl 1 rfl) ?_
    refine lv_aload_n hx hb db_writeRoot_18 rfl (lv_at hl 1 rfl) ?_
    refine lv_iload_n hx hb db_writeRoot_19 rfl (lv_at hl 2 rfl) ?_
    refine lv_iload_n hx hb db_writeRoot_20 rfl (lv_at hl 3 rfl) ?_
    obtain ⟨r2, h3, hf⟩ := obs hf
    refine rmI (cb_pageOf (l := l) (hfl := hfl) h3) (cw_pageOf hts ⟨by decide, by decide⟩) hx hb hml hown hts hK hB.1 hB.2.2 hZ hl.1 rfl rfl (lv_room (Nat.le_of_ble_eq_true rfl)) db_writeRoot_21 ⟨by decide, by decide⟩ ?_
    obtain ⟨r4, h5, hf⟩ := obs hf
    refine rmI (cb_entriesOf (l := l) (hfl := hfl) h5) (cw_entriesOf hts ⟨by decide, by decide⟩) hx hb hml hown hts hK hB.1 hB.2.2 hZ hl.1 rfl rfl (lv_room (Nat.le_of_ble_eq_true rfl)) db_writeRoot_24 ⟨by decide, by decide⟩ ?_
    exact wb_writeRoot_27 hX hB n _ _ _ _ _ (lv_sub hl [1, 2, 3, 0] rfl) hf
  · have hf := ifp c1 hf
    refine lv_iconst (v := 0) hx hb db_writeRoot_13 (by decide) ?_
    refine lv_goto (tgt := 27) hx hb db_writeRoot_14 (by decide) ?_
    exact wb_writeRoot_27 hX hB n _ _ _ _ _ (lv_sub hl [1, 2, 3, 0] rfl) hf
set_option maxRecDepth 100000 in
set_option maxHeartbeats 4000000 in
theorem cb_writeRoot {l : Launch} (hfl : l.flags = flags0) {D : va_G} {gm : Nat → Nat} {ca : Nat → ClassId} {st : BSt} {n : Nat} {x1 : Int32} {x2 : Int32} {st' : BSt} (hf : fb_writeRoot n st x1 x2 = some st') : MM l yb_writeRoot rmb_writeRoot D gm ca [.int x1, .int x2] st (XV) st' :=
  MM.of hfl (by decide +kernel) rfl mcb_writeRoot (fun p e s m below meth c A _ hX hB => wb_writeRoot_0 hX hB n _ _ _ (lv_entry _ (Nat.le_of_ble_eq_true rfl)) hf)
set_option maxRecDepth 100000 in
set_option maxHeartbeats 4000000 in
theorem wb_act_111 {p : Program} {l : Launch} {e : Env} {s : State} {m : MethodId} {args : Array Value} {below : List Frame} {meth : Method} {c : Code} {D : va_G} {gm : Nat → Nat} {ca : Nat → ClassId} {A : Nat → Prop} {st : BSt} (hX : BX p l e rmb_act s m args meth c D ca A kb_act 9 (some .int)) (hB : BWd D gm ca A s.heap st s.heap []) (n : Nat) : ∀ (x1 : Int32) (x2 : Int32) (x3 : Int32) (x7 : Int32) (y0 : Int32) {r : Int32 ⊕ Nat} {st' : BSt} (ls : Array Slot), lv_has ls 9 [(0, .ref (gm 0)), (1, .int x1), (2, .int x2), (3, .int x3), (7, .int x7)] → fb_act_111 n st x1 x2 x3 x7 y0 = some (r, st') → W p l e rmb_act s m args below meth c s.heap [] 0 0 (MQX below (mm_Q D gm ca A (xi r) st') args s 1 6 A) (F0 m 111 ls [.int y0]) := by
  obtain ⟨hx, hb, hml, hr, hlk, hown, hts, hK, htr, hZ, hnh, hA, hfl⟩ := id hX
  intro x1 x2 x3 x7 y0 r st' ls hl hf
  rw [fb_act_111] at hf
  refine lv_istore (lv' := [(8, .int y0), (0, .ref (gm 0)), (1, .int x1), (2, .int x2), (3, .int x3), (7, .int x7)]) hx hb db_act_111 hl (by decide) rfl (fun ls hl => ?_)
  refine lv_iload hx hb db_act_113 (lv_at hl 5 rfl) ?_
  refine lv_iconst (v := (-1)) hx hb db_act_115 (by decide) ?_
  refine lv_icmp_eq (tgt := 125) hx hb db_act_116 (by decide) (fun c1 => ?_) (fun c1 => ?_)
  · have hf := ifp c1 hf
    cases hf
    exact mt_throw th_0_248 hX hl.1 db_act_125 db_act_128 db_act_129 db_act_131 db_act_134 ⟨by decide, by decide⟩ ⟨by decide, by decide⟩ hB
  · have hf := ifn c1 hf
    refine lv_iload hx hb db_act_119 (lv_at hl 0 rfl) ?_
    refine lv_iconst (v := (-1)) hx hb db_act_121 (by decide) ?_
    refine lv_icmp_ne (tgt := 135) hx hb db_act_122 (by decide) (fun c2 => ?_) (fun c2 => ?_)
    · have hf := ifn c2 hf
      refine lv_aload_n hx hb db_act_135 rfl (lv_at hl 1 rfl) ?_
      refine bg_takenPages hx hb hown hts hK hB.1 db_act_136 ?_
      refine lv_iconst (v := 0) hx hb db_act_139 (by decide) ?_
      refine lv_iload hx hb db_act_140 (lv_at hl 5 rfl) ?_
      obtain ⟨a3, ea3, ia3, hf⟩ := wrI_some hf
      refine bt_takenPages hx hb hK hB ia3 ea3 db_act_142 (fun H locs hB => ?_)
      refine lv_aload_n hx hb db_act_143 rfl (lv_at hl 1 rfl) ?_
      refine bg_takenPages hx hb hown hts hK hB.1 db_act_144 ?_
      refine lv_iconst (v := 1) hx hb db_act_147 (by decide) ?_
      refine lv_iload hx hb db_act_148 (lv_at hl 0 rfl) ?_
      obtain ⟨a4, ea4, ia4, hf⟩ := wrI_some hf
      refine bt_takenPages hx hb hK hB ia4 ea4 db_act_150 (fun H locs hB => ?_)
      refine lv_aload_n hx hb db_act_151 rfl (lv_at hl 1 rfl) ?_
      refine lv_iload_n hx hb db_act_152 rfl (lv_at hl 4 rfl) ?_
      refine bp_takenCount hx hb hown hts hK hB db_act_153 (fun H locs hB => ?_)
      refine lv_aload_n hx hb db_act_156 rfl (lv_at hl 1 rfl) ?_
      refine lv_aload_n hx hb db_act_157 rfl (lv_at hl 1 rfl) ?_
      refine bg_newest hx hb hown hts hK hB.1 db_act_158 ?_
      refine lv_iconst (v := 1) hx hb db_act_161 (by decide) ?_
      refine lv_iadd hx hb db_act_162 ?_
      obtain ⟨r5, h6, hf⟩ := obs hf
      refine smI (cb_rootOf (l := l) (hfl := hfl) h6) (cw_rootOf hts ⟨by decide, by decide⟩) hx hb hml hown hts hl.1 rfl rfl (lv_room (Nat.le_of_ble_eq_true rfl)) db_act_163 ⟨by decide, by decide⟩ ?_
      refine bp_writtenRoot hx hb hown hts hK hB db_act_166 (fun H locs hB => ?_)
      refine lv_aload_n hx hb db_act_169 rfl (lv_at hl 1 rfl) ?_
      obtain ⟨st7, h8, hf⟩ := obs hf
      refine mmV (cb_saveWordsBefore (l := l) (hfl := hfl) h8) (cw_saveWordsBefore hts ⟨by decide, by decide⟩) hx hb hml hown hts hK hB hZ hA hl.1 rfl rfl (lv_room (Nat.le_of_ble_eq_true rfl)) db_act_170 ⟨by decide, by decide⟩ (fun H locs hB => ?_)
      refine lv_aload_n hx hb db_act_173 rfl (lv_at hl 1 rfl) ?_
      obtain ⟨st9, h10, hf⟩ := obs hf
      refine mmV (cb_writeLeaves (l := l) (hfl := hfl) h10) (cw_writeLeaves hts ⟨by decide, by decide⟩) hx hb hml hown hts hK hB hZ hA hl.1 rfl rfl (lv_room (Nat.le_of_ble_eq_true rfl)) db_act_174 ⟨by decide, by decide⟩ (fun H locs hB => ?_)
      refine lv_aload_n hx hb db_act_177 rfl (lv_at hl 1 rfl) ?_
      refine lv_iload_n hx hb db_act_178 rfl (lv_at hl 2 rfl) ?_
      refine lv_iload_n hx hb db_act_179 rfl (lv_at hl 3 rfl) ?_
      obtain ⟨st11, h12, hf⟩ := obs hf
      refine mmV (cb_writeRoot (l := l) (hfl := hfl) h12) (cw_writeRoot hts ⟨by decide, by decide⟩) hx hb hml hown hts hK hB hZ hA hl.1 rfl rfl (lv_room (Nat.le_of_ble_eq_true rfl)) db_act_180 ⟨by decide, by decide⟩ (fun H locs hB => ?_)
      refine lv_aload_n hx hb db_act_183 rfl (lv_at hl 1 rfl) ?_
      refine lv_dup hx hb db_act_184 rfl ?_
      refine bg_newest hx hb hown hts hK hB.1 db_act_185 ?_
      refine lv_iconst (v := 1) hx hb db_act_188 (by decide) ?_
      refine lv_iadd hx hb db_act_189 ?_
      refine bp_newest hx hb hown hts hK hB db_act_190 (fun H locs hB => ?_)
      refine lv_aload_n hx hb db_act_193 rfl (lv_at hl 1 rfl) ?_
      refine lv_iconst (v := 1) hx hb db_act_194 (by decide) ?_
      refine bp_canBeCut hx hb hown hts hK hB rfl rfl db_act_195 (fun H locs hB => ?_)
      refine lv_aload_n hx hb db_act_198 rfl (lv_at hl 1 rfl) ?_
      refine bg_newest hx hb hown hts hK hB.1 db_act_199 ?_
      cases hf
      refine W.widen (k := 1) (n := 6) (by decide) (by decide) ?_
      exact em_i hx hb hr hlk hB db_act_202
    · have hf := ifp c2 hf
      cases hf
      exact mt_throw th_0_248 hX hl.1 db_act_125 db_act_128 db_act_129 db_act_131 db_act_134 ⟨by decide, by decide⟩ ⟨by decide, by decide⟩ hB
set_option maxRecDepth 100000 in
set_option maxHeartbeats 4000000 in
theorem wb_act_84 {p : Program} {l : Launch} {e : Env} {s : State} {m : MethodId} {args : Array Value} {below : List Frame} {meth : Method} {c : Code} {D : va_G} {gm : Nat → Nat} {ca : Nat → ClassId} {A : Nat → Prop} {st : BSt} (hX : BX p l e rmb_act s m args meth c D ca A kb_act 9 (some .int)) (hB : BWd D gm ca A s.heap st s.heap []) (n : Nat) : ∀ (x1 : Int32) (x2 : Int32) (x3 : Int32) (x5 : Int64) (y0 : Int32) {r : Int32 ⊕ Nat} {st' : BSt} (ls : Array Slot), lv_has ls 9 [(0, .ref (gm 0)), (1, .int x1), (2, .int x2), (3, .int x3), (5, .long x5)] → fb_act_84 n st x1 x2 x3 x5 y0 = some (r, st') → W p l e rmb_act s m args below meth c s.heap [] 0 0 (MQX below (mm_Q D gm ca A (xi r) st') args s 1 6 A) (F0 m 84 ls [.int y0]) := by
  obtain ⟨hx, hb, hml, hr, hlk, hown, hts, hK, htr, hZ, hnh, hA, hfl⟩ := id hX
  intro x1 x2 x3 x5 y0 r st' ls hl hf
  rw [fb_act_84] at hf
  refine lv_istore (lv' := [(7, .int y0), (0, .ref (gm 0)), (1, .int x1), (2, .int x2), (3, .int x3), (5, .long x5)]) hx hb db_act_84 hl (by decide) rfl (fun ls hl => ?_)
  refine lv_iload_n hx hb db_act_86 rfl (lv_at hl 4 rfl) ?_
  refine lv_iconst (v := 1) hx hb db_act_87 (by decide) ?_
  refine lv_icmp_le (tgt := 110) hx hb db_act_88 (by decide) (fun c1 => ?_) (fun c1 => ?_)
  · have hf := ifp c1 hf
    refine lv_iconst (v := 0) hx hb db_act_110 (by decide) ?_
    exact wb_act_111 hX hB n _ _ _ _ _ _ (lv_sub hl [1, 2, 3, 4, 0] rfl) hf
  · have hf := ifn c1 hf
    refine lv_iload hx hb db_act_91 (lv_at hl 0 rfl) ?_
    refine lv_iconst (v := (-1)) hx hb db_act_93 (by decide) ?_
    refine lv_icmp_eq (tgt := 110) hx hb db_act_94 (by decide) (fun c2 => ?_) (fun c2 => ?_)
    · have hf := ifp c2 hf
      refine lv_iconst (v := 0) hx hb db_act_110 (by decide) ?_
      exact wb_act_111 hX hB n _ _ _ _ _ _ (lv_sub hl [1, 2, 3, 4, 0] rfl) hf
    · have hf := ifn c2 hf
      refine lv_aload_n hx hb db_act_97 rfl (lv_at hl 1 rfl) ?_
      refine lv_lload hx hb db_act_98 (lv_at hl 5 rfl) ?_
      refine lv_iload hx hb db_act_100 (lv_at hl 0 rfl) ?_
      refine lv_iconst (v := 1) hx hb db_act_102 (by decide) ?_
      refine lv_iadd hx hb db_act_103 ?_
      obtain ⟨r3, h4, hf⟩ := obs hf
      refine rmI (cb_pageNotIn (l := l) (hfl := hfl) h4) (cw_pageNotIn hts ⟨by decide, by decide⟩) hx hb hml hown hts hK hB.1 hB.2.2 hZ hl.1 rfl rfl (lv_room (Nat.le_of_ble_eq_true rfl)) db_act_104 ⟨by decide, by decide⟩ ?_
      refine lv_goto (tgt := 111) hx hb db_act_107 (by decide) ?_
      exact wb_act_111 hX hB n _ _ _ _ _ _ (lv_sub hl [1, 2, 3, 4, 0] rfl) hf
set_option maxRecDepth 100000 in
set_option maxHeartbeats 4000000 in
theorem wb_act_36 {p : Program} {l : Launch} {e : Env} {s : State} {m : MethodId} {args : Array Value} {below : List Frame} {meth : Method} {c : Code} {D : va_G} {gm : Nat → Nat} {ca : Nat → ClassId} {A : Nat → Prop} {st : BSt} (hX : BX p l e rmb_act s m args meth c D ca A kb_act 9 (some .int)) (hB : BWd D gm ca A s.heap st s.heap []) (n : Nat) : ∀ (x1 : Int32) (x2 : Int32) (x3 : Int32) (y0 : Int32) {r : Int32 ⊕ Nat} {st' : BSt} (ls : Array Slot), lv_has ls 9 [(0, .ref (gm 0)), (1, .int x1), (2, .int x2), (3, .int x3)] → fb_act_36 n st x1 x2 x3 y0 = some (r, st') → W p l e rmb_act s m args below meth c s.heap [] 0 0 (MQX below (mm_Q D gm ca A (xi r) st') args s 1 6 A) (F0 m 36 ls [.int y0]) := by
  obtain ⟨hx, hb, hml, hr, hlk, hown, hts, hK, htr, hZ, hnh, hA, hfl⟩ := id hX
  intro x1 x2 x3 y0 r st' ls hl hf
  rw [fb_act_36] at hf
  refine lv_istore (lv' := [(4, .int y0), (0, .ref (gm 0)), (1, .int x1), (2, .int x2), (3, .int x3)]) hx hb db_act_36 hl (by decide) rfl (fun ls hl => ?_)
  refine lv_aload_n hx hb db_act_38 rfl (lv_at hl 1 rfl) ?_
  refine lv_iload_n hx hb db_act_39 rfl (lv_at hl 2 rfl) ?_
  obtain ⟨r1, h2, hf⟩ := obs hf
  refine rmI (cb_leavesOf (l := l) (hfl := hfl) h2) (cw_leavesOf hts ⟨by decide, by decide⟩) hx hb hml hown hts hK hB.1 hB.2.2 hZ hl.1 rfl rfl (lv_room (Nat.le_of_ble_eq_true rfl)) db_act_40 ⟨by decide, by decide⟩ ?_
  refine lv_iload hx hb db_act_43 (lv_at hl 0 rfl) ?_
  refine lv_isub hx hb db_act_45 ?_
  refine lv_iload_n hx hb db_act_46 rfl (lv_at hl 4 rfl) ?_
  refine lv_iadd hx hb db_act_47 ?_
  refine lv_bipush (v := 16) hx hb db_act_48 (by decide) ?_
  refine lv_icmp_le (tgt := 63) hx hb db_act_50 (by decide) (fun c3 => ?_) (fun c3 => ?_)
  · have hf := ifp c3 hf
    refine lv_aload_n hx hb db_act_63 rfl (lv_at hl 1 rfl) ?_
    obtain ⟨r4, h5, hf⟩ := obs hf
    refine rmL (cb_heldPages (l := l) (hfl := hfl) h5) (cw_heldPages hts ⟨by decide, by decide⟩) hx hb hml hown hts hK hB.1 hB.2.2 hZ hl.1 rfl rfl (lv_room (Nat.le_of_ble_eq_true rfl)) db_act_64 ⟨by decide, by decide⟩ ?_
    refine lv_lstore (lv' := [(5, .long r4), (4, .int y0), (0, .ref (gm 0)), (1, .int x1), (2, .int x2), (3, .int x3)]) hx hb db_act_67 hl (by decide) rfl (fun ls hl => ?_)
    refine lv_iload_n hx hb db_act_69 rfl (lv_at hl 5 rfl) ?_
    refine lv_if_le (tgt := 83) hx hb db_act_70 (by decide) (fun c6 => ?_) (fun c6 => ?_)
    · have hf := ifp c6 hf
      refine lv_iconst (v := 0) hx hb db_act_83 (by decide) ?_
      exact wb_act_84 hX hB n _ _ _ _ _ _ (lv_sub hl [2, 3, 4, 5, 0] rfl) hf
    · have hf := ifn c6 hf
      refine lv_aload_n hx hb db_act_73 rfl (lv_at hl 2 rfl) ?_
      refine lv_lload hx hb db_act_74 (lv_at hl 0 rfl) ?_
      refine lv_iconst (v := 0) hx hb db_act_76 (by decide) ?_
      obtain ⟨r7, h8, hf⟩ := obs hf
      refine rmI (cb_pageNotIn (l := l) (hfl := hfl) h8) (cw_pageNotIn hts ⟨by decide, by decide⟩) hx hb hml hown hts hK hB.1 hB.2.2 hZ hl.1 rfl rfl (lv_room (Nat.le_of_ble_eq_true rfl)) db_act_77 ⟨by decide, by decide⟩ ?_
      refine lv_goto (tgt := 84) hx hb db_act_80 (by decide) ?_
      exact wb_act_84 hX hB n _ _ _ _ _ _ (lv_sub hl [2, 3, 4, 5, 0] rfl) hf
  · have hf := ifn c3 hf
    cases hf
    exact mt_throw th_0_242 hX hl.1 db_act_53 db_act_56 db_act_57 db_act_59 db_act_62 ⟨by decide, by decide⟩ ⟨by decide, by decide⟩ hB
set_option maxRecDepth 100000 in
set_option maxHeartbeats 4000000 in
theorem wb_act_0 {p : Program} {l : Launch} {e : Env} {s : State} {m : MethodId} {args : Array Value} {below : List Frame} {meth : Method} {c : Code} {D : va_G} {gm : Nat → Nat} {ca : Nat → ClassId} {A : Nat → Prop} {st : BSt} (hX : BX p l e rmb_act s m args meth c D ca A kb_act 9 (some .int)) (hB : BWd D gm ca A s.heap st s.heap []) (n : Nat) : ∀ (x1 : Int32) (x2 : Int32) {r : Int32 ⊕ Nat} {st' : BSt} (ls : Array Slot), lv_has ls 9 [(0, .ref (gm 0)), (1, .int x1), (2, .int x2)] → fb_act n st x1 x2 = some (r, st') → W p l e rmb_act s m args below meth c s.heap [] 0 0 (MQX below (mm_Q D gm ca A (xi r) st') args s 1 6 A) (F0 m 0 ls []) := by
  obtain ⟨hx, hb, hml, hr, hlk, hown, hts, hK, htr, hZ, hnh, hA, hfl⟩ := id hX
  intro x1 x2 r st' ls hl hf
  rw [fb_act] at hf
  refine lv_aload_n hx hb db_act_0 rfl (lv_at hl 0 rfl) ?_
  refine bg_draftCount hx hb hown hts hK hB.1 db_act_1 ?_
  refine lv_bipush (v := 7) hx hb db_act_4 (by decide) ?_
  refine lv_icmp_le (tgt := 13) hx hb db_act_6 (by decide) (fun c1 => ?_) (fun c1 => ?_)
  · have hf := ifp c1 hf
    refine lv_aload_n hx hb db_act_13 rfl (lv_at hl 0 rfl) ?_
    refine bg_draftCount hx hb hown hts hK hB.1 db_act_14 ?_
    refine lv_if_le (tgt := 24) hx hb db_act_17 (by decide) (fun c2 => ?_) (fun c2 => ?_)
    · have hf := ifp c2 hf
      refine lv_iconst (v := 0) hx hb db_act_24 (by decide) ?_
      refine lv_istore_n (lv' := [(3, .int 0), (0, .ref (gm 0)), (1, .int x1), (2, .int x2)]) hx hb db_act_25 rfl hl (by decide) rfl (fun ls hl => ?_)
      refine lv_iload_n hx hb db_act_26 rfl (lv_at hl 3 rfl) ?_
      refine lv_iconst (v := (-1)) hx hb db_act_27 (by decide) ?_
      refine lv_icmp_ne (tgt := 35) hx hb db_act_28 (by decide) (fun c3 => ?_) (fun c3 => ?_)
      · have hf := ifn c3 hf
        refine lv_iconst (v := 1) hx hb db_act_35 (by decide) ?_
        exact wb_act_36 hX hB n _ _ _ _ _ (lv_sub hl [1, 2, 3, 0] rfl) hf
      · have hf := ifp c3 hf
        refine lv_iconst (v := 0) hx hb db_act_31 (by decide) ?_
        refine lv_goto (tgt := 36) hx hb db_act_32 (by decide) ?_
        exact wb_act_36 hX hB n _ _ _ _ _ (lv_sub hl [1, 2, 3, 0] rfl) hf
    · have hf := ifn c2 hf
      refine lv_iconst (v := 1) hx hb db_act_20 (by decide) ?_
      refine lv_goto (tgt := 25) hx hb db_act_21 (by decide) ?_
      refine lv_istore_n (lv' := [(3, .int 1), (0, .ref (gm 0)), (1, .int x1), (2, .int x2)]) hx hb db_act_25 rfl hl (by decide) rfl (fun ls hl => ?_)
      refine lv_iload_n hx hb db_act_26 rfl (lv_at hl 3 rfl) ?_
      refine lv_iconst (v := (-1)) hx hb db_act_27 (by decide) ?_
      refine lv_icmp_ne (tgt := 35) hx hb db_act_28 (by decide) (fun c4 => ?_) (fun c4 => ?_)
      · have hf := ifn c4 hf
        refine lv_iconst (v := 1) hx hb db_act_35 (by decide) ?_
        exact wb_act_36 hX hB n _ _ _ _ _ (lv_sub hl [1, 2, 3, 0] rfl) hf
      · have hf := ifp c4 hf
        refine lv_iconst (v := 0) hx hb db_act_31 (by decide) ?_
        refine lv_goto (tgt := 36) hx hb db_act_32 (by decide) ?_
        exact wb_act_36 hX hB n _ _ _ _ _ (lv_sub hl [1, 2, 3, 0] rfl) hf
  · have hf := ifn c1 hf
    refine lv_iconst (v := 2) hx hb db_act_9 (by decide) ?_
    refine lv_goto (tgt := 25) hx hb db_act_10 (by decide) ?_
    refine lv_istore_n (lv' := [(3, .int 2), (0, .ref (gm 0)), (1, .int x1), (2, .int x2)]) hx hb db_act_25 rfl hl (by decide) rfl (fun ls hl => ?_)
    refine lv_iload_n hx hb db_act_26 rfl (lv_at hl 3 rfl) ?_
    refine lv_iconst (v := (-1)) hx hb db_act_27 (by decide) ?_
    refine lv_icmp_ne (tgt := 35) hx hb db_act_28 (by decide) (fun c5 => ?_) (fun c5 => ?_)
    · have hf := ifn c5 hf
      refine lv_iconst (v := 1) hx hb db_act_35 (by decide) ?_
      exact wb_act_36 hX hB n _ _ _ _ _ (lv_sub hl [1, 2, 3, 0] rfl) hf
    · have hf := ifp c5 hf
      refine lv_iconst (v := 0) hx hb db_act_31 (by decide) ?_
      refine lv_goto (tgt := 36) hx hb db_act_32 (by decide) ?_
      exact wb_act_36 hX hB n _ _ _ _ _ (lv_sub hl [1, 2, 3, 0] rfl) hf
set_option maxRecDepth 100000 in
set_option maxHeartbeats 4000000 in
theorem cb_act {l : Launch} (hfl : l.flags = flags0) {D : va_G} {gm : Nat → Nat} {ca : Nat → ClassId} {st : BSt} {n : Nat} {x1 : Int32} {x2 : Int32} {r : Int32 ⊕ Nat} {st' : BSt} (hf : fb_act n st x1 x2 = some (r, st')) : MM l yb_act rmb_act D gm ca [.int x1, .int x2] st (xi r) st' :=
  MM.of hfl (by decide +kernel) rfl mcb_act (fun p e s m below meth c A _ hX hB => wb_act_0 hX hB n _ _ _ (lv_entry _ (Nat.le_of_ble_eq_true rfl)) hf)
set_option maxRecDepth 100000 in
set_option maxHeartbeats 4000000 in
theorem wb_put_0 {p : Program} {l : Launch} {e : Env} {s : State} {m : MethodId} {args : Array Value} {below : List Frame} {meth : Method} {c : Code} {D : va_G} {gm : Nat → Nat} {ca : Nat → ClassId} {A : Nat → Prop} {st : BSt} (hX : BX p l e rmb_put s m args meth c D ca A kb_put 6 (some .int)) (hB : BWd D gm ca A s.heap st s.heap []) (n : Nat) : ∀ (x1 : Int32) (x2 : Int64) {r : Int32 ⊕ Nat} {st' : BSt} (ls : Array Slot), lv_has ls 6 [(0, .ref (gm 0)), (1, .int x1), (2, .long x2)] → fb_put n st x1 x2 = some (r, st') → W p l e rmb_put s m args below meth c s.heap [] 0 0 (MQX below (mm_Q D gm ca A (xi r) st') args s 4 24 A) (F0 m 0 ls []) := by
  obtain ⟨hx, hb, hml, hr, hlk, hown, hts, hK, htr, hZ, hnh, hA, hfl⟩ := id hX
  intro x1 x2 r st' ls hl hf
  rw [fb_put] at hf
  refine lv_aload_n hx hb db_put_0 rfl (lv_at hl 0 rfl) ?_
  rcases thnS_some hf with ⟨r1, h2, hf⟩ | ⟨k3, h2, hf⟩
  rotate_left 1
  · cases hf
    refine rmT (cb_requireWritable (l := l) (hfl := hfl) h2) (cw_requireWritable hts ⟨by decide, by decide⟩) hx hb hml hown hts hK hB.1 hB.2.2 hZ hl.1 rfl rfl (lv_room (Nat.le_of_ble_eq_true rfl)) db_put_1 ⟨by decide, by decide⟩ (fun x t h1 h2 h3 h4 h5 => ?_)
    refine WT.widen (k := 4) (n := 24) (by decide) (by decide) ?_
    exact mt_outR hX hB h1 h2 h3 h4 h5
  refine rmV (cb_requireWritable (l := l) (hfl := hfl) h2) (cw_requireWritable hts ⟨by decide, by decide⟩) hx hb hml hown hts hK hB.1 hB.2.2 hZ hl.1 rfl rfl (lv_room (Nat.le_of_ble_eq_true rfl)) db_put_1 ⟨by decide, by decide⟩ ?_
  refine lv_aload_n hx hb db_put_4 rfl (lv_at hl 0 rfl) ?_
  refine lv_iload_n hx hb db_put_5 rfl (lv_at hl 1 rfl) ?_
  rcases thnS_some hf with ⟨r4, h5, hf⟩ | ⟨k6, h5, hf⟩
  rotate_left 1
  · cases hf
    refine rmT (cb_requireKey (l := l) (hfl := hfl) h5) (cw_requireKey hts ⟨by decide, by decide⟩) hx hb hml hown hts hK hB.1 hB.2.2 hZ hl.1 rfl rfl (lv_room (Nat.le_of_ble_eq_true rfl)) db_put_6 ⟨by decide, by decide⟩ (fun x t h1 h2 h3 h4 h5 => ?_)
    refine WT.widen (k := 4) (n := 24) (by decide) (by decide) ?_
    exact mt_outR hX hB h1 h2 h3 h4 h5
  refine rmV (cb_requireKey (l := l) (hfl := hfl) h5) (cw_requireKey hts ⟨by decide, by decide⟩) hx hb hml hown hts hK hB.1 hB.2.2 hZ hl.1 rfl rfl (lv_room (Nat.le_of_ble_eq_true rfl)) db_put_6 ⟨by decide, by decide⟩ ?_
  refine lv_aload_n hx hb db_put_9 rfl (lv_at hl 0 rfl) ?_
  refine bg_newest hx hb hown hts hK hB.1 db_put_10 ?_
  obtain ⟨r7, h8, hf⟩ := obs hf
  refine smI (cb_rootOf (l := l) (hfl := hfl) h8) (cw_rootOf hts ⟨by decide, by decide⟩) hx hb hml hown hts hl.1 rfl rfl (lv_room (Nat.le_of_ble_eq_true rfl)) db_put_13 ⟨by decide, by decide⟩ ?_
  refine lv_istore (lv' := [(4, .int r7), (0, .ref (gm 0)), (1, .int x1), (2, .long x2)]) hx hb db_put_16 hl (by decide) rfl (fun ls hl => ?_)
  refine lv_aload_n hx hb db_put_18 rfl (lv_at hl 1 rfl) ?_
  refine lv_iload hx hb db_put_19 (lv_at hl 0 rfl) ?_
  refine lv_iload_n hx hb db_put_21 rfl (lv_at hl 2 rfl) ?_
  obtain ⟨r9, h10, hf⟩ := obs hf
  refine rmI (cb_leafFor (l := l) (hfl := hfl) h10) (cw_leafFor hts ⟨by decide, by decide⟩) hx hb hml hown hts hK hB.1 hB.2.2 hZ hl.1 rfl rfl (lv_room (Nat.le_of_ble_eq_true rfl)) db_put_22 ⟨by decide, by decide⟩ ?_
  refine lv_istore (lv' := [(5, .int r9), (4, .int r7), (0, .ref (gm 0)), (1, .int x1), (2, .long x2)]) hx hb db_put_25 hl (by decide) rfl (fun ls hl => ?_)
  refine lv_aload_n hx hb db_put_27 rfl (lv_at hl 2 rfl) ?_
  refine lv_iload hx hb db_put_28 (lv_at hl 1 rfl) ?_
  refine lv_iload hx hb db_put_30 (lv_at hl 0 rfl) ?_
  obtain ⟨st11, h12, hf⟩ := obs hf
  refine mmV (cb_loadDraft (l := l) (hfl := hfl) h12) (cw_loadDraft hts ⟨by decide, by decide⟩) hx hb hml hown hts hK hB hZ hA hl.1 rfl rfl (lv_room (Nat.le_of_ble_eq_true rfl)) db_put_32 ⟨by decide, by decide⟩ (fun H locs hB => ?_)
  refine lv_aload_n hx hb db_put_35 rfl (lv_at hl 2 rfl) ?_
  refine lv_iload_n hx hb db_put_36 rfl (lv_at hl 3 rfl) ?_
  refine lv_lload_n hx hb db_put_37 rfl (lv_at hl 4 rfl) ?_
  obtain ⟨st13, h14, hf⟩ := obs hf
  refine mmV (cb_putInDraft (l := l) (hfl := hfl) h14) (cw_putInDraft hts ⟨by decide, by decide⟩) hx hb hml hown hts hK hB hZ hA hl.1 rfl rfl (lv_room (Nat.le_of_ble_eq_true rfl)) db_put_38 ⟨by decide, by decide⟩ (fun H locs hB => ?_)
  refine lv_aload_n hx hb db_put_41 rfl (lv_at hl 2 rfl) ?_
  refine lv_iload hx hb db_put_42 (lv_at hl 1 rfl) ?_
  refine lv_iload hx hb db_put_44 (lv_at hl 0 rfl) ?_
  rcases thnM_some hf with ⟨r15, st16, h17, hf⟩ | ⟨k18, st16, h17, hf⟩
  rotate_left 1
  · cases hf
    refine mmT (cb_act (l := l) (hfl := hfl) h17) (cw_act hts ⟨by decide, by decide⟩) hx hb hml hown hts hK hB hZ hA hl.1 rfl rfl (lv_room (Nat.le_of_ble_eq_true rfl)) db_put_46 ⟨by decide, by decide⟩ (fun H locs x t ht h1 h5 h4 hB => ?_)
    exact mt_outM hX ht h1 h5 h4 hB
  refine mmI (cb_act (l := l) (hfl := hfl) h17) (cw_act hts ⟨by decide, by decide⟩) hx hb hml hown hts hK hB hZ hA hl.1 rfl rfl (lv_room (Nat.le_of_ble_eq_true rfl)) db_put_46 ⟨by decide, by decide⟩ (fun H locs hB => ?_)
  cases hf
  exact em_i hx hb hr hlk hB db_put_49
set_option maxRecDepth 100000 in
set_option maxHeartbeats 4000000 in
theorem cb_put {l : Launch} (hfl : l.flags = flags0) {D : va_G} {gm : Nat → Nat} {ca : Nat → ClassId} {st : BSt} {n : Nat} {x1 : Int32} {x2 : Int64} {r : Int32 ⊕ Nat} {st' : BSt} (hf : fb_put n st x1 x2 = some (r, st')) : MM l yb_put rmb_put D gm ca [.int x1, .long x2] st (xi r) st' :=
  MM.of hfl (by decide +kernel) rfl mcb_put (fun p e s m below meth c A _ hX hB => wb_put_0 hX hB n _ _ _ (lv_entry _ (Nat.le_of_ble_eq_true rfl)) hf)
set_option maxRecDepth 100000 in
set_option maxHeartbeats 4000000 in
theorem wb_dropFromDraft_29 {p : Program} {l : Launch} {e : Env} {s : State} {m : MethodId} {args : Array Value} {below : List Frame} {meth : Method} {c : Code} {D : va_G} {gm : Nat → Nat} {ca : Nat → ClassId} {A : Nat → Prop} (hX : BX p l e rmb_dropFromDraft s m args meth c D ca A kb_dropFromDraft 4 (some .boolean)) (n : Nat) :∀ (k : Nat), ∀ (st : BSt) (x3 : Int32) {r : Int32} {st' : BSt} (ls : Array Slot) (H : Heap) (locs : List Loc), BWd D gm ca A s.heap st H locs → lv_has ls 4 [(0, .ref (gm 0)), (3, .int x3)] → fb_dropFromDraft_29 n k st x3 = some (r, st') → W p l e rmb_dropFromDraft s m args below meth c H locs 0 0 (MQX below (mm_Q D gm ca A (XI r) st') args s 0 0 A) (F0 m 29 ls []) := by
  obtain ⟨hx, hb, hml, hr, hlk, hown, hts, hK, htr, hZ, hnh, hA, hfl⟩ := id hX
  intro k
  induction k with
  | zero =>
    intro st x3 r st' ls H locs hB hl hf
    rw [fb_dropFromDraft_29] at hf
    cases hf
  | succ k ih =>
    intro st x3 r st' ls H locs hB hl hf
    rw [fb_dropFromDraft_29] at hf
    refine lv_iload_n hx hb db_dropFromDraft_29 rfl (lv_at hl 1 rfl) ?_
    refine lv_aload_n hx hb db_dropFromDraft_30 rfl (lv_at hl 0 rfl) ?_
    refine bg_draftCount hx hb hown hts hK hB.1 db_dropFromDraft_31 ?_
    refine lv_icmp_ge (tgt := 71) hx hb db_dropFromDraft_34 (by decide) (fun c1 => ?_) (fun c1 => ?_)
    · have hf := ifp c1 hf
      refine lv_iconst (v := 1) hx hb db_dropFromDraft_71 (by decide) ?_
      cases hf
      exact em_z hx hb hr hlk hB rfl db_dropFromDraft_72
    · have hf := ifn c1 hf
      refine lv_aload_n hx hb db_dropFromDraft_37 rfl (lv_at hl 0 rfl) ?_
      refine bg_draftKeys hx hb hown hts hK hB.1 db_dropFromDraft_38 ?_
      refine lv_iload_n hx hb db_dropFromDraft_41 rfl (lv_at hl 1 rfl) ?_
      refine lv_aload_n hx hb db_dropFromDraft_42 rfl (lv_at hl 0 rfl) ?_
      refine bg_draftKeys hx hb hown hts hK hB.1 db_dropFromDraft_43 ?_
      refine lv_iload_n hx hb db_dropFromDraft_46 rfl (lv_at hl 1 rfl) ?_
      refine lv_iconst (v := 1) hx hb db_dropFromDraft_47 (by decide) ?_
      refine lv_iadd hx hb db_dropFromDraft_48 ?_
      obtain ⟨r2, er2, ir2, hf⟩ := rdL_some hf
      refine bl_draftKeys hx hb hK hB.1 ir2 er2 db_dropFromDraft_49 ?_
      obtain ⟨a3, ea3, ia3, hf⟩ := wrL_some hf
      refine bt_draftKeys hx hb hK hB ia3 ea3 db_dropFromDraft_50 (fun H locs hB => ?_)
      refine lv_aload_n hx hb db_dropFromDraft_51 rfl (lv_at hl 0 rfl) ?_
      refine bg_draftValues hx hb hown hts hK hB.1 db_dropFromDraft_52 ?_
      refine lv_iload_n hx hb db_dropFromDraft_55 rfl (lv_at hl 1 rfl) ?_
      refine lv_aload_n hx hb db_dropFromDraft_56 rfl (lv_at hl 0 rfl) ?_
      refine bg_draftValues hx hb hown hts hK hB.1 db_dropFromDraft_57 ?_
      refine lv_iload_n hx hb db_dropFromDraft_60 rfl (lv_at hl 1 rfl) ?_
      refine lv_iconst (v := 1) hx hb db_dropFromDraft_61 (by decide) ?_
      refine lv_iadd hx hb db_dropFromDraft_62 ?_
      obtain ⟨r4, er4, ir4, hf⟩ := rdL_some hf
      refine bl_draftValues hx hb hK hB.1 ir4 er4 db_dropFromDraft_63 ?_
      obtain ⟨a5, ea5, ia5, hf⟩ := wrL_some hf
      refine bt_draftValues hx hb hK hB ia5 ea5 db_dropFromDraft_64 (fun H locs hB => ?_)
      refine lv_iinc (v := (x3 + 1)) (lv' := [(3, .int (x3 + 1)), (0, .ref (gm 0))]) hx hb db_dropFromDraft_65 hl (k := 1) rfl rfl (by decide) rfl (fun ls hl => ?_)
      refine lv_goto (tgt := 29) hx hb db_dropFromDraft_68 (by decide) ?_
      exact ih _ _ _ _ _ hB (lv_sub hl [1, 0] rfl) hf
set_option maxRecDepth 100000 in
set_option maxHeartbeats 4000000 in
theorem wb_dropFromDraft_0 {p : Program} {l : Launch} {e : Env} {s : State} {m : MethodId} {args : Array Value} {below : List Frame} {meth : Method} {c : Code} {D : va_G} {gm : Nat → Nat} {ca : Nat → ClassId} {A : Nat → Prop} {st : BSt} (hX : BX p l e rmb_dropFromDraft s m args meth c D ca A kb_dropFromDraft 4 (some .boolean)) (hB : BWd D gm ca A s.heap st s.heap []) (n : Nat) : ∀ (x1 : Int32) {r : Int32} {st' : BSt} (ls : Array Slot), lv_has ls 4 [(0, .ref (gm 0)), (1, .int x1)] → fb_dropFromDraft n st x1 = some (r, st') → W p l e rmb_dropFromDraft s m args below meth c s.heap [] 0 0 (MQX below (mm_Q D gm ca A (XI r) st') args s 0 0 A) (F0 m 0 ls []) := by
  obtain ⟨hx, hb, hml, hr, hlk, hown, hts, hK, htr, hZ, hnh, hA, hfl⟩ := id hX
  intro x1 r st' ls hl hf
  rw [fb_dropFromDraft] at hf
  refine lv_aload_n hx hb db_dropFromDraft_0 rfl (lv_at hl 0 rfl) ?_
  refine lv_iload_n hx hb db_dropFromDraft_1 rfl (lv_at hl 1 rfl) ?_
  obtain ⟨r1, h2, hf⟩ := obs hf
  refine rmI (cb_placeInDraft (l := l) (hfl := hfl) h2) (cw_placeInDraft hts ⟨by decide, by decide⟩) hx hb hml hown hts hK hB.1 hB.2.2 hZ hl.1 rfl rfl (lv_room (Nat.le_of_ble_eq_true rfl)) db_dropFromDraft_2 ⟨by decide, by decide⟩ ?_
  refine lv_istore_n (lv' := [(2, .int r1), (0, .ref (gm 0)), (1, .int x1)]) hx hb db_dropFromDraft_5 rfl hl (by decide) rfl (fun ls hl => ?_)
  refine lv_aload_n hx hb db_dropFromDraft_6 rfl (lv_at hl 1 rfl) ?_
  refine lv_iload_n hx hb db_dropFromDraft_7 rfl (lv_at hl 0 rfl) ?_
  refine lv_iload_n hx hb db_dropFromDraft_8 rfl (lv_at hl 2 rfl) ?_
  obtain ⟨r3, h4, hf⟩ := obs hf
  refine rmI (cb_draftHasAt (l := l) (hfl := hfl) h4) (cw_draftHasAt hts ⟨by decide, by decide⟩) hx hb hml hown hts hK hB.1 hB.2.2 hZ hl.1 rfl rfl (lv_room (Nat.le_of_ble_eq_true rfl)) db_dropFromDraft_9 ⟨by decide, by decide⟩ ?_
  refine lv_if_ne (tgt := 17) hx hb db_dropFromDraft_12 (by decide) (fun c5 => ?_) (fun c5 => ?_)
  · have hf := ifn c5 hf
    refine lv_aload_n hx hb db_dropFromDraft_17 rfl (lv_at hl 1 rfl) ?_
    refine lv_dup hx hb db_dropFromDraft_18 rfl ?_
    refine bg_draftCount hx hb hown hts hK hB.1 db_dropFromDraft_19 ?_
    refine lv_iconst (v := 1) hx hb db_dropFromDraft_22 (by decide) ?_
    refine lv_isub hx hb db_dropFromDraft_23 ?_
    refine bp_draftCount hx hb hown hts hK hB db_dropFromDraft_24 (fun H locs hB => ?_)
    refine lv_iload_n hx hb db_dropFromDraft_27 rfl (lv_at hl 0 rfl) ?_
    refine lv_istore_n (lv' := [(3, .int r1), (2, .int r1), (0, .ref (gm 0)), (1, .int x1)]) hx hb db_dropFromDraft_28 rfl hl (by decide) rfl (fun ls hl => ?_)
    exact wb_dropFromDraft_29 hX n n _ _ _ _ _ hB (lv_sub hl [2, 0] rfl) hf
  · have hf := ifp c5 hf
    refine lv_iconst (v := 0) hx hb db_dropFromDraft_15 (by decide) ?_
    cases hf
    exact em_z hx hb hr hlk hB rfl db_dropFromDraft_16
set_option maxRecDepth 100000 in
set_option maxHeartbeats 4000000 in
theorem cb_dropFromDraft {l : Launch} (hfl : l.flags = flags0) {D : va_G} {gm : Nat → Nat} {ca : Nat → ClassId} {st : BSt} {n : Nat} {x1 : Int32} {r : Int32} {st' : BSt} (hf : fb_dropFromDraft n st x1 = some (r, st')) : MM l yb_dropFromDraft rmb_dropFromDraft D gm ca [.int x1] st (XI r) st' :=
  MM.of hfl (by decide +kernel) rfl mcb_dropFromDraft (fun p e s m below meth c A _ hX hB => wb_dropFromDraft_0 hX hB n _ _ (lv_entry _ (Nat.le_of_ble_eq_true rfl)) hf)
end
section
set_option maxRecDepth 100000 in
set_option maxHeartbeats 4000000 in
theorem wb_drop_0 {p : Program} {l : Launch} {e : Env} {s : State} {m : MethodId} {args : Array Value} {below : List Frame} {meth : Method} {c : Code} {D : va_G} {gm : Nat → Nat} {ca : Nat → ClassId} {A : Nat → Prop} {st : BSt} (hX : BX p l e rmb_drop s m args meth c D ca A kb_drop 4 (some .int)) (hB : BWd D gm ca A s.heap st s.heap []) (n : Nat) : ∀ (x1 : Int32) {r : Int32 ⊕ Nat} {st' : BSt} (ls : Array Slot), lv_has ls 4 [(0, .ref (gm 0)), (1, .int x1)] → fb_drop n st x1 = some (r, st') → W p l e rmb_drop s m args below meth c s.heap [] 0 0 (MQX below (mm_Q D gm ca A (xi r) st') args s 4 24 A) (F0 m 0 ls []) := by
  obtain ⟨hx, hb, hml, hr, hlk, hown, hts, hK, htr, hZ, hnh, hA, hfl⟩ := id hX
  intro x1 r st' ls hl hf
  rw [fb_drop] at hf
  refine lv_aload_n hx hb db_drop_0 rfl (lv_at hl 0 rfl) ?_
  rcases thnS_some hf with ⟨r1, h2, hf⟩ | ⟨k3, h2, hf⟩
  rotate_left 1
  · cases hf
    refine rmT (cb_requireWritable (l := l) (hfl := hfl) h2) (cw_requireWritable hts ⟨by decide, by decide⟩) hx hb hml hown hts hK hB.1 hB.2.2 hZ hl.1 rfl rfl (lv_room (Nat.le_of_ble_eq_true rfl)) db_drop_1 ⟨by decide, by decide⟩ (fun x t h1 h2 h3 h4 h5 => ?_)
    refine WT.widen (k := 4) (n := 24) (by decide) (by decide) ?_
    exact mt_outR hX hB h1 h2 h3 h4 h5
  refine rmV (cb_requireWritable (l := l) (hfl := hfl) h2) (cw_requireWritable hts ⟨by decide, by decide⟩) hx hb hml hown hts hK hB.1 hB.2.2 hZ hl.1 rfl rfl (lv_room (Nat.le_of_ble_eq_true rfl)) db_drop_1 ⟨by decide, by decide⟩ ?_
  refine lv_aload_n hx hb db_drop_4 rfl (lv_at hl 0 rfl) ?_
  refine lv_iload_n hx hb db_drop_5 rfl (lv_at hl 1 rfl) ?_
  rcases thnS_some hf with ⟨r4, h5, hf⟩ | ⟨k6, h5, hf⟩
  rotate_left 1
  · cases hf
    refine rmT (cb_requireKey (l := l) (hfl := hfl) h5) (cw_requireKey hts ⟨by decide, by decide⟩) hx hb hml hown hts hK hB.1 hB.2.2 hZ hl.1 rfl rfl (lv_room (Nat.le_of_ble_eq_true rfl)) db_drop_6 ⟨by decide, by decide⟩ (fun x t h1 h2 h3 h4 h5 => ?_)
    refine WT.widen (k := 4) (n := 24) (by decide) (by decide) ?_
    exact mt_outR hX hB h1 h2 h3 h4 h5
  refine rmV (cb_requireKey (l := l) (hfl := hfl) h5) (cw_requireKey hts ⟨by decide, by decide⟩) hx hb hml hown hts hK hB.1 hB.2.2 hZ hl.1 rfl rfl (lv_room (Nat.le_of_ble_eq_true rfl)) db_drop_6 ⟨by decide, by decide⟩ ?_
  refine lv_aload_n hx hb db_drop_9 rfl (lv_at hl 0 rfl) ?_
  refine bg_newest hx hb hown hts hK hB.1 db_drop_10 ?_
  obtain ⟨r7, h8, hf⟩ := obs hf
  refine smI (cb_rootOf (l := l) (hfl := hfl) h8) (cw_rootOf hts ⟨by decide, by decide⟩) hx hb hml hown hts hl.1 rfl rfl (lv_room (Nat.le_of_ble_eq_true rfl)) db_drop_13 ⟨by decide, by decide⟩ ?_
  refine lv_istore_n (lv' := [(2, .int r7), (0, .ref (gm 0)), (1, .int x1)]) hx hb db_drop_16 rfl hl (by decide) rfl (fun ls hl => ?_)
  refine lv_aload_n hx hb db_drop_17 rfl (lv_at hl 1 rfl) ?_
  refine lv_iload_n hx hb db_drop_18 rfl (lv_at hl 0 rfl) ?_
  refine lv_iload_n hx hb db_drop_19 rfl (lv_at hl 2 rfl) ?_
  obtain ⟨r9, h10, hf⟩ := obs hf
  refine rmI (cb_leafFor (l := l) (hfl := hfl) h10) (cw_leafFor hts ⟨by decide, by decide⟩) hx hb hml hown hts hK hB.1 hB.2.2 hZ hl.1 rfl rfl (lv_room (Nat.le_of_ble_eq_true rfl)) db_drop_20 ⟨by decide, by decide⟩ ?_
  refine lv_istore_n (lv' := [(3, .int r9), (2, .int r7), (0, .ref (gm 0)), (1, .int x1)]) hx hb db_drop_23 rfl hl (by decide) rfl (fun ls hl => ?_)
  refine lv_aload_n hx hb db_drop_24 rfl (lv_at hl 2 rfl) ?_
  refine lv_iload_n hx hb db_drop_25 rfl (lv_at hl 1 rfl) ?_
  refine lv_iload_n hx hb db_drop_26 rfl (lv_at hl 0 rfl) ?_
  obtain ⟨st11, h12, hf⟩ := obs hf
  refine mmV (cb_loadDraft (l := l) (hfl := hfl) h12) (cw_loadDraft hts ⟨by decide, by decide⟩) hx hb hml hown hts hK hB hZ hA hl.1 rfl rfl (lv_room (Nat.le_of_ble_eq_true rfl)) db_drop_27 ⟨by decide, by decide⟩ (fun H locs hB => ?_)
  refine lv_aload_n hx hb db_drop_30 rfl (lv_at hl 2 rfl) ?_
  refine lv_iload_n hx hb db_drop_31 rfl (lv_at hl 3 rfl) ?_
  obtain ⟨⟨r13, st14⟩, h15, hf⟩ := obs hf
  refine mmI (cb_dropFromDraft (l := l) (hfl := hfl) h15) (cw_dropFromDraft hts ⟨by decide, by decide⟩) hx hb hml hown hts hK hB hZ hA hl.1 rfl rfl (lv_room (Nat.le_of_ble_eq_true rfl)) db_drop_32 ⟨by decide, by decide⟩ (fun H locs hB => ?_)
  refine lv_if_ne (tgt := 40) hx hb db_drop_35 (by decide) (fun c16 => ?_) (fun c16 => ?_)
  · have hf := ifn c16 hf
    refine lv_aload_n hx hb db_drop_40 rfl (lv_at hl 2 rfl) ?_
    refine lv_iload_n hx hb db_drop_41 rfl (lv_at hl 1 rfl) ?_
    refine lv_iload_n hx hb db_drop_42 rfl (lv_at hl 0 rfl) ?_
    rcases thnM_some hf with ⟨r17, st18, h19, hf⟩ | ⟨k20, st18, h19, hf⟩
    rotate_left 1
    · cases hf
      refine mmT (cb_act (l := l) (hfl := hfl) h19) (cw_act hts ⟨by decide, by decide⟩) hx hb hml hown hts hK hB hZ hA hl.1 rfl rfl (lv_room (Nat.le_of_ble_eq_true rfl)) db_drop_43 ⟨by decide, by decide⟩ (fun H locs x t ht h1 h5 h4 hB => ?_)
      exact mt_outM hX ht h1 h5 h4 hB
    refine mmI (cb_act (l := l) (hfl := hfl) h19) (cw_act hts ⟨by decide, by decide⟩) hx hb hml hown hts hK hB hZ hA hl.1 rfl rfl (lv_room (Nat.le_of_ble_eq_true rfl)) db_drop_43 ⟨by decide, by decide⟩ (fun H locs hB => ?_)
    cases hf
    exact em_i hx hb hr hlk hB db_drop_46
  · have hf := ifp c16 hf
    refine lv_iconst (v := 0) hx hb db_drop_38 (by decide) ?_
    cases hf
    refine W.widen (k := 4) (n := 24) (by decide) (by decide) ?_
    exact em_i hx hb hr hlk hB db_drop_39
set_option maxRecDepth 100000 in
set_option maxHeartbeats 4000000 in
theorem cb_drop {l : Launch} (hfl : l.flags = flags0) {D : va_G} {gm : Nat → Nat} {ca : Nat → ClassId} {st : BSt} {n : Nat} {x1 : Int32} {r : Int32 ⊕ Nat} {st' : BSt} (hf : fb_drop n st x1 = some (r, st')) : MM l yb_drop rmb_drop D gm ca [.int x1] st (xi r) st' :=
  MM.of hfl (by decide +kernel) rfl mcb_drop (fun p e s m below meth c A _ hX hB => wb_drop_0 hX hB n _ _ (lv_entry _ (Nat.le_of_ble_eq_true rfl)) hf)
set_option maxRecDepth 100000 in
set_option maxHeartbeats 4000000 in
theorem wb_version_0 {p : Program} {l : Launch} {e : Env} {s : State} {m : MethodId} {args : Array Value} {below : List Frame} {meth : Method} {c : Code} {D : va_G} {gm : Nat → Nat} {ca : Nat → ClassId} {A : Nat → Prop} {st : BSt} (hX : BX p l e rmb_version s m args meth c D ca A kb_version 1 (some .int)) (hP : va_P D vwCl (wB gm ca st) s.heap) (n : Nat) : ∀ {r : Int32 ⊕ Nat} (ls : Array Slot), lv_has ls 1 [(0, .ref (gm 0))] → fb_version n st = some r → W p l e rmb_version s m args below meth c s.heap [] 0 0 (MQX below (xx_Q (xi r)) args s 1 6 (fun _ => False)) (F0 m 0 ls []) := by
  obtain ⟨hx, hb, hml, hr, hlk, hown, hts, hK, htr, hZ, hnh, hA, hfl⟩ := id hX
  intro r ls hl hf
  rw [fb_version] at hf
  refine lv_aload_n hx hb db_version_0 rfl (lv_at hl 0 rfl) ?_
  rcases thn_some hf with ⟨r1, h2, hf⟩ | ⟨k3, h2, hf⟩
  rotate_left 1
  · cases hf
    refine rmT (cb_requireOpen (l := l) (hfl := hfl) h2) (cw_requireOpen hts ⟨by decide, by decide⟩) hx hb hml hown hts hK hP va_S.rf hZ hl.1 rfl rfl (lv_room (Nat.le_of_ble_eq_true rfl)) db_version_1 ⟨by decide, by decide⟩ (fun x t h1 h2 h3 h4 h5 => ?_)
    exact rt_out hX h1 h2 h3 h4 h5
  refine rmV (cb_requireOpen (l := l) (hfl := hfl) h2) (cw_requireOpen hts ⟨by decide, by decide⟩) hx hb hml hown hts hK hP va_S.rf hZ hl.1 rfl rfl (lv_room (Nat.le_of_ble_eq_true rfl)) db_version_1 ⟨by decide, by decide⟩ ?_
  refine lv_aload_n hx hb db_version_4 rfl (lv_at hl 0 rfl) ?_
  refine bg_newest hx hb hown hts hK hP db_version_5 ?_
  cases hf
  exact er_i hx hb hr hlk db_version_8
set_option maxRecDepth 100000 in
set_option maxHeartbeats 4000000 in
theorem cb_version {l : Launch} (hfl : l.flags = flags0) {D : va_G} {gm : Nat → Nat} {ca : Nat → ClassId} {st : BSt} {n : Nat} {r : Int32 ⊕ Nat} (hf : fb_version n st = some r) : RM l yb_version rmb_version D gm ca [] st (xi r) :=
  RM.of hfl (by decide +kernel) rfl mcb_version (fun p e s m below meth c hX hP => wb_version_0 hX hP n _ (lv_entry _ (Nat.le_of_ble_eq_true rfl)) hf)
set_option maxRecDepth 100000 in
set_option maxHeartbeats 4000000 in
theorem wb_requireKept_0 {p : Program} {l : Launch} {e : Env} {s : State} {m : MethodId} {args : Array Value} {below : List Frame} {meth : Method} {c : Code} {D : va_G} {gm : Nat → Nat} {ca : Nat → ClassId} {A : Nat → Prop} {st : BSt} (hX : BX p l e rmb_requireKept s m args meth c D ca A kb_requireKept 2 (none)) (hP : va_P D vwCl (wB gm ca st) s.heap) (n : Nat) : ∀ (x1 : Int32) {r : Unit ⊕ Nat} (ls : Array Slot), lv_has ls 2 [(0, .ref (gm 0)), (1, .int x1)] → fb_requireKept n st x1 = some r → W p l e rmb_requireKept s m args below meth c s.heap [] 0 0 (MQX below (xx_Q (xu r)) args s 1 6 (fun _ => False)) (F0 m 0 ls []) := by
  obtain ⟨hx, hb, hml, hr, hlk, hown, hts, hK, htr, hZ, hnh, hA, hfl⟩ := id hX
  intro x1 r ls hl hf
  rw [fb_requireKept] at hf
  refine lv_aload_n hx hb db_requireKept_0 rfl (lv_at hl 0 rfl) ?_
  refine lv_iload_n hx hb db_requireKept_1 rfl (lv_at hl 1 rfl) ?_
  obtain ⟨r1, h2, hf⟩ := obs hf
  refine rmI (cb_isKept (l := l) (hfl := hfl) h2) (cw_isKept hts ⟨by decide, by decide⟩) hx hb hml hown hts hK hP va_S.rf hZ hl.1 rfl rfl (lv_room (Nat.le_of_ble_eq_true rfl)) db_requireKept_2 ⟨by decide, by decide⟩ ?_
  refine lv_if_ne (tgt := 18) hx hb db_requireKept_5 (by decide) (fun c3 => ?_) (fun c3 => ?_)
  · have hf := ifn c3 hf
    cases hf
    refine W.widen (k := 1) (n := 6) (by decide) (by decide) ?_
    exact er_v hx hb hr hlk db_requireKept_18
  · have hf := ifp c3 hf
    cases hf
    exact rt_throw th_2_178 hX hl.1 db_requireKept_8 db_requireKept_11 db_requireKept_12 db_requireKept_14 db_requireKept_17 ⟨by decide, by decide⟩ ⟨by decide, by decide⟩
set_option maxRecDepth 100000 in
set_option maxHeartbeats 4000000 in
theorem cb_requireKept {l : Launch} (hfl : l.flags = flags0) {D : va_G} {gm : Nat → Nat} {ca : Nat → ClassId} {st : BSt} {n : Nat} {x1 : Int32} {r : Unit ⊕ Nat} (hf : fb_requireKept n st x1 = some r) : RM l yb_requireKept rmb_requireKept D gm ca [.int x1] st (xu r) :=
  RM.of hfl (by decide +kernel) rfl mcb_requireKept (fun p e s m below meth c hX hP => wb_requireKept_0 hX hP n _ _ (lv_entry _ (Nat.le_of_ble_eq_true rfl)) hf)
set_option maxRecDepth 100000 in
set_option maxHeartbeats 4000000 in
theorem wb_entryWithKey_33 {p : Program} {l : Launch} {e : Env} {s : State} {m : MethodId} {args : Array Value} {below : List Frame} {meth : Method} {c : Code} {D : va_G} {gm : Nat → Nat} {ca : Nat → ClassId} {A : Nat → Prop} {st : BSt} (hX : BX p l e rmb_entryWithKey s m args meth c D ca A kb_entryWithKey 7 (some .int)) (hP : va_P D vwCl (wB gm ca st) s.heap) (n : Nat) :∀ (k : Nat), ∀ (x2 : Int32) (x4 : Int32) (x5 : Int32) (x6 : Int32) {r : Int32} (ls : Array Slot), lv_has ls 7 [(0, .ref (gm 0)), (2, .int x2), (4, .int x4), (5, .int x5), (6, .int x6)] → fb_entryWithKey_33 n k st x2 x4 x5 x6 = some r → W p l e rmb_entryWithKey s m args below meth c s.heap [] 0 0 (MQX below (xx_Q (XI r)) args s 0 0 (fun _ => False)) (F0 m 33 ls []) := by
  obtain ⟨hx, hb, hml, hr, hlk, hown, hts, hK, htr, hZ, hnh, hA, hfl⟩ := id hX
  intro k
  induction k with
  | zero =>
    intro x2 x4 x5 x6 r ls hl hf
    rw [fb_entryWithKey_33] at hf
    cases hf
  | succ k ih =>
    intro x2 x4 x5 x6 r ls hl hf
    rw [fb_entryWithKey_33] at hf
    refine lv_iload hx hb db_entryWithKey_33 (lv_at hl 4 rfl) ?_
    refine lv_iload hx hb db_entryWithKey_35 (lv_at hl 3 rfl) ?_
    refine lv_icmp_ge (tgt := 72) hx hb db_entryWithKey_37 (by decide) (fun c1 => ?_) (fun c1 => ?_)
    · have hf := ifp c1 hf
      refine lv_iconst (v := (-1)) hx hb db_entryWithKey_72 (by decide) ?_
      cases hf
      exact er_i hx hb hr hlk db_entryWithKey_73
    · have hf := ifn c1 hf
      refine lv_aload_n hx hb db_entryWithKey_40 rfl (lv_at hl 0 rfl) ?_
      refine bg_pages hx hb hown hts hK hP db_entryWithKey_41 ?_
      refine lv_iload hx hb db_entryWithKey_44 (lv_at hl 2 rfl) ?_
      refine lv_iload hx hb db_entryWithKey_46 (lv_at hl 4 rfl) ?_
      obtain ⟨r2, h3, hf⟩ := obs hf
      refine smI (cb_entryAt (l := l) (hfl := hfl) h3) (cw_entryAt hts ⟨by decide, by decide⟩) hx hb hml hown hts hl.1 rfl rfl (lv_room (Nat.le_of_ble_eq_true rfl)) db_entryWithKey_48 ⟨by decide, by decide⟩ ?_
      obtain ⟨r4, er4, ir4, hf⟩ := rdL_some hf
      refine bl_pages hx hb hK hP ir4 er4 db_entryWithKey_51 ?_
      refine lv_iload_n hx hb db_entryWithKey_52 rfl (lv_at hl 1 rfl) ?_
      refine lv_i2l hx hb db_entryWithKey_53 rfl ?_
      refine W.lcmp hx hb db_entryWithKey_54 ?_
      refine lv_if_ne (tgt := 66) hx hb db_entryWithKey_55 (by decide) (fun c5 => ?_) (fun c5 => ?_)
      · have hf := ifn c5 hf
        refine lv_iinc (v := (x6 + 1)) (lv' := [(6, .int (x6 + 1)), (0, .ref (gm 0)), (2, .int x2), (4, .int x4), (5, .int x5)]) hx hb db_entryWithKey_66 hl (k := 4) rfl rfl (by decide) rfl (fun ls hl => ?_)
        refine lv_goto (tgt := 33) hx hb db_entryWithKey_69 (by decide) ?_
        exact ih _ _ _ _ _ (lv_sub hl [1, 2, 3, 4, 0] rfl) hf
      · have hf := ifp c5 hf
        refine lv_iload hx hb db_entryWithKey_58 (lv_at hl 2 rfl) ?_
        refine lv_iload hx hb db_entryWithKey_60 (lv_at hl 4 rfl) ?_
        obtain ⟨r6, h7, hf⟩ := obs hf
        refine smI (cb_entryAt (l := l) (hfl := hfl) h7) (cw_entryAt hts ⟨by decide, by decide⟩) hx hb hml hown hts hl.1 rfl rfl (lv_room (Nat.le_of_ble_eq_true rfl)) db_entryWithKey_62 ⟨by decide, by decide⟩ ?_
        cases hf
        exact er_i hx hb hr hlk db_entryWithKey_65
set_option maxRecDepth 100000 in
set_option maxHeartbeats 4000000 in
theorem wb_entryWithKey_0 {p : Program} {l : Launch} {e : Env} {s : State} {m : MethodId} {args : Array Value} {below : List Frame} {meth : Method} {c : Code} {D : va_G} {gm : Nat → Nat} {ca : Nat → ClassId} {A : Nat → Prop} {st : BSt} (hX : BX p l e rmb_entryWithKey s m args meth c D ca A kb_entryWithKey 7 (some .int)) (hP : va_P D vwCl (wB gm ca st) s.heap) (n : Nat) : ∀ (x1 : Int32) (x2 : Int32) {r : Int32} (ls : Array Slot), lv_has ls 7 [(0, .ref (gm 0)), (1, .int x1), (2, .int x2)] → fb_entryWithKey n st x1 x2 = some r → W p l e rmb_entryWithKey s m args below meth c s.heap [] 0 0 (MQX below (xx_Q (XI r)) args s 0 0 (fun _ => False)) (F0 m 0 ls []) := by
  obtain ⟨hx, hb, hml, hr, hlk, hown, hts, hK, htr, hZ, hnh, hA, hfl⟩ := id hX
  intro x1 x2 r ls hl hf
  rw [fb_entryWithKey] at hf
  refine lv_aload_n hx hb db_entryWithKey_0 rfl (lv_at hl 0 rfl) ?_
  refine lv_iload_n hx hb db_entryWithKey_1 rfl (lv_at hl 1 rfl) ?_
  refine lv_iload_n hx hb db_entryWithKey_2 rfl (lv_at hl 2 rfl) ?_
  obtain ⟨r1, h2, hf⟩ := obs hf
  refine rmI (cb_leafFor (l := l) (hfl := hfl) h2) (cw_leafFor hts ⟨by decide, by decide⟩) hx hb hml hown hts hK hP va_S.rf hZ hl.1 rfl rfl (lv_room (Nat.le_of_ble_eq_true rfl)) db_entryWithKey_3 ⟨by decide, by decide⟩ ?_
  refine lv_istore_n (lv' := [(3, .int r1), (0, .ref (gm 0)), (1, .int x1), (2, .int x2)]) hx hb db_entryWithKey_6 rfl hl (by decide) rfl (fun ls hl => ?_)
  refine lv_iload_n hx hb db_entryWithKey_7 rfl (lv_at hl 0 rfl) ?_
  refine lv_iconst (v := (-1)) hx hb db_entryWithKey_8 (by decide) ?_
  refine lv_icmp_ne (tgt := 14) hx hb db_entryWithKey_9 (by decide) (fun c3 => ?_) (fun c3 => ?_)
  · have hf := ifn c3 hf
    refine lv_aload_n hx hb db_entryWithKey_14 rfl (lv_at hl 1 rfl) ?_
    refine lv_iload_n hx hb db_entryWithKey_15 rfl (lv_at hl 2 rfl) ?_
    refine lv_iload_n hx hb db_entryWithKey_16 rfl (lv_at hl 0 rfl) ?_
    obtain ⟨r4, h5, hf⟩ := obs hf
    refine rmI (cb_pageOf (l := l) (hfl := hfl) h5) (cw_pageOf hts ⟨by decide, by decide⟩) hx hb hml hown hts hK hP va_S.rf hZ hl.1 rfl rfl (lv_room (Nat.le_of_ble_eq_true rfl)) db_entryWithKey_17 ⟨by decide, by decide⟩ ?_
    refine lv_istore (lv' := [(4, .int r4), (3, .int r1), (0, .ref (gm 0)), (1, .int x1), (2, .int x2)]) hx hb db_entryWithKey_20 hl (by decide) rfl (fun ls hl => ?_)
    refine lv_aload_n hx hb db_entryWithKey_22 rfl (lv_at hl 2 rfl) ?_
    refine lv_iload hx hb db_entryWithKey_23 (lv_at hl 0 rfl) ?_
    obtain ⟨r6, h7, hf⟩ := obs hf
    refine rmI (cb_entriesOf (l := l) (hfl := hfl) h7) (cw_entriesOf hts ⟨by decide, by decide⟩) hx hb hml hown hts hK hP va_S.rf hZ hl.1 rfl rfl (lv_room (Nat.le_of_ble_eq_true rfl)) db_entryWithKey_25 ⟨by decide, by decide⟩ ?_
    refine lv_istore (lv' := [(5, .int r6), (4, .int r4), (3, .int r1), (0, .ref (gm 0)), (1, .int x1), (2, .int x2)]) hx hb db_entryWithKey_28 hl (by decide) rfl (fun ls hl => ?_)
    refine lv_iconst (v := 0) hx hb db_entryWithKey_30 (by decide) ?_
    refine lv_istore (lv' := [(6, .int 0), (5, .int r6), (4, .int r4), (3, .int r1), (0, .ref (gm 0)), (1, .int x1), (2, .int x2)]) hx hb db_entryWithKey_31 hl (by decide) rfl (fun ls hl => ?_)
    exact wb_entryWithKey_33 hX hP n n _ _ _ _ _ (lv_sub hl [4, 6, 2, 1, 0] rfl) hf
  · have hf := ifp c3 hf
    refine lv_iconst (v := (-1)) hx hb db_entryWithKey_12 (by decide) ?_
    cases hf
    exact er_i hx hb hr hlk db_entryWithKey_13
set_option maxRecDepth 100000 in
set_option maxHeartbeats 4000000 in
theorem cb_entryWithKey {l : Launch} (hfl : l.flags = flags0) {D : va_G} {gm : Nat → Nat} {ca : Nat → ClassId} {st : BSt} {n : Nat} {x1 : Int32} {x2 : Int32} {r : Int32} (hf : fb_entryWithKey n st x1 x2 = some r) : RM l yb_entryWithKey rmb_entryWithKey D gm ca [.int x1, .int x2] st (XI r) :=
  RM.of hfl (by decide +kernel) rfl mcb_entryWithKey (fun p e s m below meth c hX hP => wb_entryWithKey_0 hX hP n _ _ _ (lv_entry _ (Nat.le_of_ble_eq_true rfl)) hf)
set_option maxRecDepth 100000 in
set_option maxHeartbeats 4000000 in
theorem wb_has_0 {p : Program} {l : Launch} {e : Env} {s : State} {m : MethodId} {args : Array Value} {below : List Frame} {meth : Method} {c : Code} {D : va_G} {gm : Nat → Nat} {ca : Nat → ClassId} {A : Nat → Prop} {st : BSt} (hX : BX p l e rmb_has s m args meth c D ca A kb_has 3 (some .boolean)) (hP : va_P D vwCl (wB gm ca st) s.heap) (n : Nat) : ∀ (x1 : Int32) (x2 : Int32) {r : Int32 ⊕ Nat} (ls : Array Slot), lv_has ls 3 [(0, .ref (gm 0)), (1, .int x1), (2, .int x2)] → fb_has n st x1 x2 = some r → W p l e rmb_has s m args below meth c s.heap [] 0 0 (MQX below (xx_Q (xi r)) args s 2 12 (fun _ => False)) (F0 m 0 ls []) := by
  obtain ⟨hx, hb, hml, hr, hlk, hown, hts, hK, htr, hZ, hnh, hA, hfl⟩ := id hX
  intro x1 x2 r ls hl hf
  rw [fb_has] at hf
  refine lv_aload_n hx hb db_has_0 rfl (lv_at hl 0 rfl) ?_
  rcases thn_some hf with ⟨r1, h2, hf⟩ | ⟨k3, h2, hf⟩
  rotate_left 1
  · cases hf
    refine rmT (cb_requireOpen (l := l) (hfl := hfl) h2) (cw_requireOpen hts ⟨by decide, by decide⟩) hx hb hml hown hts hK hP va_S.rf hZ hl.1 rfl rfl (lv_room (Nat.le_of_ble_eq_true rfl)) db_has_1 ⟨by decide, by decide⟩ (fun x t h1 h2 h3 h4 h5 => ?_)
    refine WT.widen (k := 2) (n := 12) (by decide) (by decide) ?_
    exact rt_out hX h1 h2 h3 h4 h5
  refine rmV (cb_requireOpen (l := l) (hfl := hfl) h2) (cw_requireOpen hts ⟨by decide, by decide⟩) hx hb hml hown hts hK hP va_S.rf hZ hl.1 rfl rfl (lv_room (Nat.le_of_ble_eq_true rfl)) db_has_1 ⟨by decide, by decide⟩ ?_
  refine lv_aload_n hx hb db_has_4 rfl (lv_at hl 0 rfl) ?_
  refine lv_iload_n hx hb db_has_5 rfl (lv_at hl 1 rfl) ?_
  rcases thn_some hf with ⟨r4, h5, hf⟩ | ⟨k6, h5, hf⟩
  rotate_left 1
  · cases hf
    refine rmT (cb_requireKept (l := l) (hfl := hfl) h5) (cw_requireKept hts ⟨by decide, by decide⟩) hx hb hml hown hts hK hP va_S.rf hZ hl.1 rfl rfl (lv_room (Nat.le_of_ble_eq_true rfl)) db_has_6 ⟨by decide, by decide⟩ (fun x t h1 h2 h3 h4 h5 => ?_)
    exact rt_out hX h1 h2 h3 h4 h5
  refine rmV (cb_requireKept (l := l) (hfl := hfl) h5) (cw_requireKept hts ⟨by decide, by decide⟩) hx hb hml hown hts hK hP va_S.rf hZ hl.1 rfl rfl (lv_room (Nat.le_of_ble_eq_true rfl)) db_has_6 ⟨by decide, by decide⟩ ?_
  refine lv_aload_n hx hb db_has_9 rfl (lv_at hl 0 rfl) ?_
  refine lv_iload_n hx hb db_has_10 rfl (lv_at hl 1 rfl) ?_
  obtain ⟨r7, h8, hf⟩ := obs hf
  refine smI (cb_rootOf (l := l) (hfl := hfl) h8) (cw_rootOf hts ⟨by decide, by decide⟩) hx hb hml hown hts hl.1 rfl rfl (lv_room (Nat.le_of_ble_eq_true rfl)) db_has_11 ⟨by decide, by decide⟩ ?_
  refine lv_iload_n hx hb db_has_14 rfl (lv_at hl 2 rfl) ?_
  obtain ⟨r9, h10, hf⟩ := obs hf
  refine rmI (cb_entryWithKey (l := l) (hfl := hfl) h10) (cw_entryWithKey hts ⟨by decide, by decide⟩) hx hb hml hown hts hK hP va_S.rf hZ hl.1 rfl rfl (lv_room (Nat.le_of_ble_eq_true rfl)) db_has_15 ⟨by decide, by decide⟩ ?_
  refine lv_iconst (v := (-1)) hx hb db_has_18 (by decide) ?_
  refine lv_icmp_eq (tgt := 26) hx hb db_has_19 (by decide) (fun c11 => ?_) (fun c11 => ?_)
  · have hf := ifp c11 hf
    refine lv_iconst (v := 0) hx hb db_has_26 (by decide) ?_
    cases hf
    exact er_z hx hb hr hlk rfl db_has_27
  · have hf := ifn c11 hf
    refine lv_iconst (v := 1) hx hb db_has_22 (by decide) ?_
    refine lv_goto (tgt := 27) hx hb db_has_23 (by decide) ?_
    cases hf
    exact er_z hx hb hr hlk rfl db_has_27
set_option maxRecDepth 100000 in
set_option maxHeartbeats 4000000 in
theorem cb_has {l : Launch} (hfl : l.flags = flags0) {D : va_G} {gm : Nat → Nat} {ca : Nat → ClassId} {st : BSt} {n : Nat} {x1 : Int32} {x2 : Int32} {r : Int32 ⊕ Nat} (hf : fb_has n st x1 x2 = some r) : RM l yb_has rmb_has D gm ca [.int x1, .int x2] st (xi r) :=
  RM.of hfl (by decide +kernel) rfl mcb_has (fun p e s m below meth c hX hP => wb_has_0 hX hP n _ _ _ (lv_entry _ (Nat.le_of_ble_eq_true rfl)) hf)
set_option maxRecDepth 100000 in
set_option maxHeartbeats 4000000 in
theorem wb_find_0 {p : Program} {l : Launch} {e : Env} {s : State} {m : MethodId} {args : Array Value} {below : List Frame} {meth : Method} {c : Code} {D : va_G} {gm : Nat → Nat} {ca : Nat → ClassId} {A : Nat → Prop} {st : BSt} (hX : BX p l e rmb_find s m args meth c D ca A kb_find 4 (some .long)) (hP : va_P D vwCl (wB gm ca st) s.heap) (n : Nat) : ∀ (x1 : Int32) (x2 : Int32) {r : Int64 ⊕ Nat} (ls : Array Slot), lv_has ls 4 [(0, .ref (gm 0)), (1, .int x1), (2, .int x2)] → fb_find n st x1 x2 = some r → W p l e rmb_find s m args below meth c s.heap [] 0 0 (MQX below (xx_Q (xl r)) args s 2 12 (fun _ => False)) (F0 m 0 ls []) := by
  obtain ⟨hx, hb, hml, hr, hlk, hown, hts, hK, htr, hZ, hnh, hA, hfl⟩ := id hX
  intro x1 x2 r ls hl hf
  rw [fb_find] at hf
  refine lv_aload_n hx hb db_find_0 rfl (lv_at hl 0 rfl) ?_
  rcases thn_some hf with ⟨r1, h2, hf⟩ | ⟨k3, h2, hf⟩
  rotate_left 1
  · cases hf
    refine rmT (cb_requireOpen (l := l) (hfl := hfl) h2) (cw_requireOpen hts ⟨by decide, by decide⟩) hx hb hml hown hts hK hP va_S.rf hZ hl.1 rfl rfl (lv_room (Nat.le_of_ble_eq_true rfl)) db_find_1 ⟨by decide, by decide⟩ (fun x t h1 h2 h3 h4 h5 => ?_)
    refine WT.widen (k := 2) (n := 12) (by decide) (by decide) ?_
    exact rt_out hX h1 h2 h3 h4 h5
  refine rmV (cb_requireOpen (l := l) (hfl := hfl) h2) (cw_requireOpen hts ⟨by decide, by decide⟩) hx hb hml hown hts hK hP va_S.rf hZ hl.1 rfl rfl (lv_room (Nat.le_of_ble_eq_true rfl)) db_find_1 ⟨by decide, by decide⟩ ?_
  refine lv_aload_n hx hb db_find_4 rfl (lv_at hl 0 rfl) ?_
  refine lv_iload_n hx hb db_find_5 rfl (lv_at hl 1 rfl) ?_
  rcases thn_some hf with ⟨r4, h5, hf⟩ | ⟨k6, h5, hf⟩
  rotate_left 1
  · cases hf
    refine rmT (cb_requireKept (l := l) (hfl := hfl) h5) (cw_requireKept hts ⟨by decide, by decide⟩) hx hb hml hown hts hK hP va_S.rf hZ hl.1 rfl rfl (lv_room (Nat.le_of_ble_eq_true rfl)) db_find_6 ⟨by decide, by decide⟩ (fun x t h1 h2 h3 h4 h5 => ?_)
    exact rt_out hX h1 h2 h3 h4 h5
  refine rmV (cb_requireKept (l := l) (hfl := hfl) h5) (cw_requireKept hts ⟨by decide, by decide⟩) hx hb hml hown hts hK hP va_S.rf hZ hl.1 rfl rfl (lv_room (Nat.le_of_ble_eq_true rfl)) db_find_6 ⟨by decide, by decide⟩ ?_
  refine lv_aload_n hx hb db_find_9 rfl (lv_at hl 0 rfl) ?_
  refine lv_iload_n hx hb db_find_10 rfl (lv_at hl 1 rfl) ?_
  obtain ⟨r7, h8, hf⟩ := obs hf
  refine smI (cb_rootOf (l := l) (hfl := hfl) h8) (cw_rootOf hts ⟨by decide, by decide⟩) hx hb hml hown hts hl.1 rfl rfl (lv_room (Nat.le_of_ble_eq_true rfl)) db_find_11 ⟨by decide, by decide⟩ ?_
  refine lv_iload_n hx hb db_find_14 rfl (lv_at hl 2 rfl) ?_
  obtain ⟨r9, h10, hf⟩ := obs hf
  refine rmI (cb_entryWithKey (l := l) (hfl := hfl) h10) (cw_entryWithKey hts ⟨by decide, by decide⟩) hx hb hml hown hts hK hP va_S.rf hZ hl.1 rfl rfl (lv_room (Nat.le_of_ble_eq_true rfl)) db_find_15 ⟨by decide, by decide⟩ ?_
  refine lv_istore_n (lv' := [(3, .int r9), (0, .ref (gm 0)), (1, .int x1), (2, .int x2)]) hx hb db_find_18 rfl hl (by decide) rfl (fun ls hl => ?_)
  refine lv_iload_n hx hb db_find_19 rfl (lv_at hl 0 rfl) ?_
  refine lv_iconst (v := (-1)) hx hb db_find_20 (by decide) ?_
  refine lv_icmp_ne (tgt := 28) hx hb db_find_21 (by decide) (fun c11 => ?_) (fun c11 => ?_)
  · have hf := ifn c11 hf
    refine lv_aload_n hx hb db_find_28 rfl (lv_at hl 1 rfl) ?_
    refine bg_pages hx hb hown hts hK hP db_find_29 ?_
    refine lv_iload_n hx hb db_find_32 rfl (lv_at hl 0 rfl) ?_
    refine lv_iconst (v := 1) hx hb db_find_33 (by decide) ?_
    refine lv_iadd hx hb db_find_34 ?_
    obtain ⟨r12, er12, ir12, hf⟩ := rdL_some hf
    refine bl_pages hx hb hK hP ir12 er12 db_find_35 ?_
    cases hf
    exact er_l hx hb hr hlk db_find_36
  · have hf := ifp c11 hf
    refine lv_lconst (v := 0) hx hb db_find_24 (by decide) ?_
    refine lv_goto (tgt := 36) hx hb db_find_25 (by decide) ?_
    cases hf
    exact er_l hx hb hr hlk db_find_36
set_option maxRecDepth 100000 in
set_option maxHeartbeats 4000000 in
theorem cb_find {l : Launch} (hfl : l.flags = flags0) {D : va_G} {gm : Nat → Nat} {ca : Nat → ClassId} {st : BSt} {n : Nat} {x1 : Int32} {x2 : Int32} {r : Int64 ⊕ Nat} (hf : fb_find n st x1 x2 = some r) : RM l yb_find rmb_find D gm ca [.int x1, .int x2] st (xl r) :=
  RM.of hfl (by decide +kernel) rfl mcb_find (fun p e s m below meth c hX hP => wb_find_0 hX hP n _ _ _ (lv_entry _ (Nat.le_of_ble_eq_true rfl)) hf)
set_option maxRecDepth 100000 in
set_option maxHeartbeats 4000000 in
theorem wb_count_0 {p : Program} {l : Launch} {e : Env} {s : State} {m : MethodId} {args : Array Value} {below : List Frame} {meth : Method} {c : Code} {D : va_G} {gm : Nat → Nat} {ca : Nat → ClassId} {A : Nat → Prop} {st : BSt} (hX : BX p l e rmb_count s m args meth c D ca A kb_count 4 (some .int)) (hP : va_P D vwCl (wB gm ca st) s.heap) (n : Nat) : ∀ (x1 : Int32) (x2 : Int32) {r : Int32 ⊕ Nat} (ls : Array Slot), lv_has ls 4 [(0, .ref (gm 0)), (1, .int x1), (2, .int x2)] → fb_count n st x1 x2 = some r → W p l e rmb_count s m args below meth c s.heap [] 0 0 (MQX below (xx_Q (xi r)) args s 3 18 (fun _ => False)) (F0 m 0 ls []) := by
  obtain ⟨hx, hb, hml, hr, hlk, hown, hts, hK, htr, hZ, hnh, hA, hfl⟩ := id hX
  intro x1 x2 r ls hl hf
  rw [fb_count] at hf
  refine lv_aload_n hx hb db_count_0 rfl (lv_at hl 0 rfl) ?_
  rcases thn_some hf with ⟨r1, h2, hf⟩ | ⟨k3, h2, hf⟩
  rotate_left 1
  · cases hf
    refine rmT (cb_requireOpen (l := l) (hfl := hfl) h2) (cw_requireOpen hts ⟨by decide, by decide⟩) hx hb hml hown hts hK hP va_S.rf hZ hl.1 rfl rfl (lv_room (Nat.le_of_ble_eq_true rfl)) db_count_1 ⟨by decide, by decide⟩ (fun x t h1 h2 h3 h4 h5 => ?_)
    refine WT.widen (k := 3) (n := 18) (by decide) (by decide) ?_
    exact rt_out hX h1 h2 h3 h4 h5
  refine rmV (cb_requireOpen (l := l) (hfl := hfl) h2) (cw_requireOpen hts ⟨by decide, by decide⟩) hx hb hml hown hts hK hP va_S.rf hZ hl.1 rfl rfl (lv_room (Nat.le_of_ble_eq_true rfl)) db_count_1 ⟨by decide, by decide⟩ ?_
  refine lv_aload_n hx hb db_count_4 rfl (lv_at hl 0 rfl) ?_
  refine lv_iload_n hx hb db_count_5 rfl (lv_at hl 1 rfl) ?_
  rcases thn_some hf with ⟨r4, h5, hf⟩ | ⟨k6, h5, hf⟩
  rotate_left 1
  · cases hf
    refine rmT (cb_requireKept (l := l) (hfl := hfl) h5) (cw_requireKept hts ⟨by decide, by decide⟩) hx hb hml hown hts hK hP va_S.rf hZ hl.1 rfl rfl (lv_room (Nat.le_of_ble_eq_true rfl)) db_count_6 ⟨by decide, by decide⟩ (fun x t h1 h2 h3 h4 h5 => ?_)
    refine WT.widen (k := 3) (n := 18) (by decide) (by decide) ?_
    exact rt_out hX h1 h2 h3 h4 h5
  refine rmV (cb_requireKept (l := l) (hfl := hfl) h5) (cw_requireKept hts ⟨by decide, by decide⟩) hx hb hml hown hts hK hP va_S.rf hZ hl.1 rfl rfl (lv_room (Nat.le_of_ble_eq_true rfl)) db_count_6 ⟨by decide, by decide⟩ ?_
  refine lv_iload_n hx hb db_count_9 rfl (lv_at hl 2 rfl) ?_
  refine lv_if_eq (tgt := 28) hx hb db_count_10 (by decide) (fun c7 => ?_) (fun c7 => ?_)
  · have hf := ifp c7 hf
    refine lv_iload_n hx hb db_count_28 rfl (lv_at hl 1 rfl) ?_
    obtain ⟨r8, h9, hf⟩ := obs hf
    refine smI (cb_rootOf (l := l) (hfl := hfl) h9) (cw_rootOf hts ⟨by decide, by decide⟩) hx hb hml hown hts hl.1 rfl rfl (lv_room (Nat.le_of_ble_eq_true rfl)) db_count_29 ⟨by decide, by decide⟩ ?_
    refine lv_istore_n (lv' := [(3, .int r8), (0, .ref (gm 0)), (1, .int x1), (2, .int x2)]) hx hb db_count_32 rfl hl (by decide) rfl (fun ls hl => ?_)
    refine lv_iload_n hx hb db_count_33 rfl (lv_at hl 3 rfl) ?_
    refine lv_if_ne (tgt := 45) hx hb db_count_34 (by decide) (fun c10 => ?_) (fun c10 => ?_)
    · have hf := ifn c10 hf
      refine lv_aload_n hx hb db_count_45 rfl (lv_at hl 1 rfl) ?_
      refine lv_iload_n hx hb db_count_46 rfl (lv_at hl 0 rfl) ?_
      obtain ⟨r11, h12, hf⟩ := obs hf
      refine rmI (cb_leavesOf (l := l) (hfl := hfl) h12) (cw_leavesOf hts ⟨by decide, by decide⟩) hx hb hml hown hts hK hP va_S.rf hZ hl.1 rfl rfl (lv_room (Nat.le_of_ble_eq_true rfl)) db_count_47 ⟨by decide, by decide⟩ ?_
      cases hf
      refine W.widen (k := 3) (n := 18) (by decide) (by decide) ?_
      exact er_i hx hb hr hlk db_count_50
    · have hf := ifp c10 hf
      refine lv_aload_n hx hb db_count_37 rfl (lv_at hl 1 rfl) ?_
      refine lv_iload_n hx hb db_count_38 rfl (lv_at hl 0 rfl) ?_
      obtain ⟨r13, h14, hf⟩ := obs hf
      refine rmI (cb_entriesOfRoot (l := l) (hfl := hfl) h14) (cw_entriesOfRoot hts ⟨by decide, by decide⟩) hx hb hml hown hts hK hP va_S.rf hZ hl.1 rfl rfl (lv_room (Nat.le_of_ble_eq_true rfl)) db_count_39 ⟨by decide, by decide⟩ ?_
      refine lv_goto (tgt := 50) hx hb db_count_42 (by decide) ?_
      cases hf
      refine W.widen (k := 3) (n := 18) (by decide) (by decide) ?_
      exact er_i hx hb hr hlk db_count_50
  · have hf := ifn c7 hf
    refine lv_iload_n hx hb db_count_13 rfl (lv_at hl 2 rfl) ?_
    refine lv_iconst (v := 1) hx hb db_count_14 (by decide) ?_
    refine lv_icmp_eq (tgt := 28) hx hb db_count_15 (by decide) (fun c15 => ?_) (fun c15 => ?_)
    · have hf := ifp c15 hf
      refine lv_iload_n hx hb db_count_28 rfl (lv_at hl 1 rfl) ?_
      obtain ⟨r16, h17, hf⟩ := obs hf
      refine smI (cb_rootOf (l := l) (hfl := hfl) h17) (cw_rootOf hts ⟨by decide, by decide⟩) hx hb hml hown hts hl.1 rfl rfl (lv_room (Nat.le_of_ble_eq_true rfl)) db_count_29 ⟨by decide, by decide⟩ ?_
      refine lv_istore_n (lv' := [(3, .int r16), (0, .ref (gm 0)), (1, .int x1), (2, .int x2)]) hx hb db_count_32 rfl hl (by decide) rfl (fun ls hl => ?_)
      refine lv_iload_n hx hb db_count_33 rfl (lv_at hl 3 rfl) ?_
      refine lv_if_ne (tgt := 45) hx hb db_count_34 (by decide) (fun c18 => ?_) (fun c18 => ?_)
      · have hf := ifn c18 hf
        refine lv_aload_n hx hb db_count_45 rfl (lv_at hl 1 rfl) ?_
        refine lv_iload_n hx hb db_count_46 rfl (lv_at hl 0 rfl) ?_
        obtain ⟨r19, h20, hf⟩ := obs hf
        refine rmI (cb_leavesOf (l := l) (hfl := hfl) h20) (cw_leavesOf hts ⟨by decide, by decide⟩) hx hb hml hown hts hK hP va_S.rf hZ hl.1 rfl rfl (lv_room (Nat.le_of_ble_eq_true rfl)) db_count_47 ⟨by decide, by decide⟩ ?_
        cases hf
        refine W.widen (k := 3) (n := 18) (by decide) (by decide) ?_
        exact er_i hx hb hr hlk db_count_50
      · have hf := ifp c18 hf
        refine lv_aload_n hx hb db_count_37 rfl (lv_at hl 1 rfl) ?_
        refine lv_iload_n hx hb db_count_38 rfl (lv_at hl 0 rfl) ?_
        obtain ⟨r21, h22, hf⟩ := obs hf
        refine rmI (cb_entriesOfRoot (l := l) (hfl := hfl) h22) (cw_entriesOfRoot hts ⟨by decide, by decide⟩) hx hb hml hown hts hK hP va_S.rf hZ hl.1 rfl rfl (lv_room (Nat.le_of_ble_eq_true rfl)) db_count_39 ⟨by decide, by decide⟩ ?_
        refine lv_goto (tgt := 50) hx hb db_count_42 (by decide) ?_
        cases hf
        refine W.widen (k := 3) (n := 18) (by decide) (by decide) ?_
        exact er_i hx hb hr hlk db_count_50
    · have hf := ifn c15 hf
      cases hf
      exact rt_throw th_1_88 hX hl.1 db_count_18 db_count_21 db_count_22 db_count_24 db_count_27 ⟨by decide, by decide⟩ ⟨by decide, by decide⟩
set_option maxRecDepth 100000 in
set_option maxHeartbeats 4000000 in
theorem cb_count {l : Launch} (hfl : l.flags = flags0) {D : va_G} {gm : Nat → Nat} {ca : Nat → ClassId} {st : BSt} {n : Nat} {x1 : Int32} {x2 : Int32} {r : Int32 ⊕ Nat} (hf : fb_count n st x1 x2 = some r) : RM l yb_count rmb_count D gm ca [.int x1, .int x2] st (xi r) :=
  RM.of hfl (by decide +kernel) rfl mcb_count (fun p e s m below meth c hX hP => wb_count_0 hX hP n _ _ _ (lv_entry _ (Nat.le_of_ble_eq_true rfl)) hf)
set_option maxRecDepth 100000 in
set_option maxHeartbeats 4000000 in
theorem wb_entryByNumber_18 {p : Program} {l : Launch} {e : Env} {s : State} {m : MethodId} {args : Array Value} {below : List Frame} {meth : Method} {c : Code} {D : va_G} {gm : Nat → Nat} {ca : Nat → ClassId} {A : Nat → Prop} {st : BSt} (hX : BX p l e rmb_entryByNumber s m args meth c D ca A kb_entryByNumber 8 (some .int)) (hP : va_P D vwCl (wB gm ca st) s.heap) (n : Nat) :∀ (k : Nat), ∀ (x1 : Int32) (x3 : Int32) (x4 : Int32) (x5 : Int32) {r : Int32} (ls : Array Slot), lv_has ls 8 [(0, .ref (gm 0)), (1, .int x1), (3, .int x3), (4, .int x4), (5, .int x5)] → fb_entryByNumber_18 n k st x1 x3 x4 x5 = some r → W p l e rmb_entryByNumber s m args below meth c s.heap [] 0 0 (MQX below (xx_Q (XI r)) args s 0 0 (fun _ => False)) (F0 m 18 ls []) := by
  obtain ⟨hx, hb, hml, hr, hlk, hown, hts, hK, htr, hZ, hnh, hA, hfl⟩ := id hX
  intro k
  induction k with
  | zero =>
    intro x1 x3 x4 x5 r ls hl hf
    rw [fb_entryByNumber_18] at hf
    cases hf
  | succ k ih =>
    intro x1 x3 x4 x5 r ls hl hf
    rw [fb_entryByNumber_18] at hf
    refine lv_iload hx hb db_entryByNumber_18 (lv_at hl 4 rfl) ?_
    refine lv_iload hx hb db_entryByNumber_20 (lv_at hl 3 rfl) ?_
    refine lv_icmp_ge (tgt := 66) hx hb db_entryByNumber_22 (by decide) (fun c1 => ?_) (fun c1 => ?_)
    · have hf := ifp c1 hf
      refine lv_iconst (v := (-1)) hx hb db_entryByNumber_66 (by decide) ?_
      cases hf
      exact er_i hx hb hr hlk db_entryByNumber_67
    · have hf := ifn c1 hf
      refine lv_aload_n hx hb db_entryByNumber_25 rfl (lv_at hl 0 rfl) ?_
      refine lv_iload_n hx hb db_entryByNumber_26 rfl (lv_at hl 1 rfl) ?_
      refine lv_iload hx hb db_entryByNumber_27 (lv_at hl 4 rfl) ?_
      obtain ⟨r2, h3, hf⟩ := obs hf
      refine rmI (cb_pageOf (l := l) (hfl := hfl) h3) (cw_pageOf hts ⟨by decide, by decide⟩) hx hb hml hown hts hK hP va_S.rf hZ hl.1 rfl rfl (lv_room (Nat.le_of_ble_eq_true rfl)) db_entryByNumber_29 ⟨by decide, by decide⟩ ?_
      refine lv_istore (lv' := [(6, .int r2), (0, .ref (gm 0)), (1, .int x1), (3, .int x3), (4, .int x4), (5, .int x5)]) hx hb db_entryByNumber_32 hl (by decide) rfl (fun ls hl => ?_)
      refine lv_aload_n hx hb db_entryByNumber_34 rfl (lv_at hl 1 rfl) ?_
      refine lv_iload hx hb db_entryByNumber_35 (lv_at hl 0 rfl) ?_
      obtain ⟨r4, h5, hf⟩ := obs hf
      refine rmI (cb_entriesOf (l := l) (hfl := hfl) h5) (cw_entriesOf hts ⟨by decide, by decide⟩) hx hb hml hown hts hK hP va_S.rf hZ hl.1 rfl rfl (lv_room (Nat.le_of_ble_eq_true rfl)) db_entryByNumber_37 ⟨by decide, by decide⟩ ?_
      refine lv_istore (lv' := [(7, .int r4), (6, .int r2), (0, .ref (gm 0)), (1, .int x1), (3, .int x3), (4, .int x4), (5, .int x5)]) hx hb db_entryByNumber_40 hl (by decide) rfl (fun ls hl => ?_)
      refine lv_iload_n hx hb db_entryByNumber_42 rfl (lv_at hl 4 rfl) ?_
      refine lv_iload hx hb db_entryByNumber_43 (lv_at hl 0 rfl) ?_
      refine lv_icmp_ge (tgt := 55) hx hb db_entryByNumber_45 (by decide) (fun c6 => ?_) (fun c6 => ?_)
      · have hf := ifp c6 hf
        refine lv_iload_n hx hb db_entryByNumber_55 rfl (lv_at hl 4 rfl) ?_
        refine lv_iload hx hb db_entryByNumber_56 (lv_at hl 0 rfl) ?_
        refine lv_isub hx hb db_entryByNumber_58 ?_
        refine lv_istore_n (lv' := [(3, .int (x3 - r4)), (7, .int r4), (6, .int r2), (0, .ref (gm 0)), (1, .int x1), (4, .int x4), (5, .int x5)]) hx hb db_entryByNumber_59 rfl hl (by decide) rfl (fun ls hl => ?_)
        refine lv_iinc (v := (x5 + 1)) (lv' := [(5, .int (x5 + 1)), (3, .int (x3 - r4)), (7, .int r4), (6, .int r2), (0, .ref (gm 0)), (1, .int x1), (4, .int x4)]) hx hb db_entryByNumber_60 hl (k := 6) rfl rfl (by decide) rfl (fun ls hl => ?_)
        refine lv_goto (tgt := 18) hx hb db_entryByNumber_63 (by decide) ?_
        exact ih _ _ _ _ _ (lv_sub hl [4, 5, 1, 6, 0] rfl) hf
      · have hf := ifn c6 hf
        refine lv_iload hx hb db_entryByNumber_48 (lv_at hl 1 rfl) ?_
        refine lv_iload_n hx hb db_entryByNumber_50 rfl (lv_at hl 4 rfl) ?_
        obtain ⟨r7, h8, hf⟩ := obs hf
        refine smI (cb_entryAt (l := l) (hfl := hfl) h8) (cw_entryAt hts ⟨by decide, by decide⟩) hx hb hml hown hts hl.1 rfl rfl (lv_room (Nat.le_of_ble_eq_true rfl)) db_entryByNumber_51 ⟨by decide, by decide⟩ ?_
        cases hf
        exact er_i hx hb hr hlk db_entryByNumber_54
set_option maxRecDepth 100000 in
set_option maxHeartbeats 4000000 in
theorem wb_entryByNumber_0 {p : Program} {l : Launch} {e : Env} {s : State} {m : MethodId} {args : Array Value} {below : List Frame} {meth : Method} {c : Code} {D : va_G} {gm : Nat → Nat} {ca : Nat → ClassId} {A : Nat → Prop} {st : BSt} (hX : BX p l e rmb_entryByNumber s m args meth c D ca A kb_entryByNumber 8 (some .int)) (hP : va_P D vwCl (wB gm ca st) s.heap) (n : Nat) : ∀ (x1 : Int32) (x2 : Int32) {r : Int32} (ls : Array Slot), lv_has ls 8 [(0, .ref (gm 0)), (1, .int x1), (2, .int x2)] → fb_entryByNumber n st x1 x2 = some r → W p l e rmb_entryByNumber s m args below meth c s.heap [] 0 0 (MQX below (xx_Q (XI r)) args s 0 0 (fun _ => False)) (F0 m 0 ls []) := by
  obtain ⟨hx, hb, hml, hr, hlk, hown, hts, hK, htr, hZ, hnh, hA, hfl⟩ := id hX
  intro x1 x2 r ls hl hf
  rw [fb_entryByNumber] at hf
  refine lv_iload_n hx hb db_entryByNumber_0 rfl (lv_at hl 2 rfl) ?_
  refine lv_if_ge (tgt := 6) hx hb db_entryByNumber_1 (by decide) (fun c1 => ?_) (fun c1 => ?_)
  · have hf := ifp c1 hf
    refine lv_iload_n hx hb db_entryByNumber_6 rfl (lv_at hl 2 rfl) ?_
    refine lv_istore_n (lv' := [(3, .int x2), (0, .ref (gm 0)), (1, .int x1), (2, .int x2)]) hx hb db_entryByNumber_7 rfl hl (by decide) rfl (fun ls hl => ?_)
    refine lv_aload_n hx hb db_entryByNumber_8 rfl (lv_at hl 1 rfl) ?_
    refine lv_iload_n hx hb db_entryByNumber_9 rfl (lv_at hl 2 rfl) ?_
    obtain ⟨r2, h3, hf⟩ := obs hf
    refine rmI (cb_leavesOf (l := l) (hfl := hfl) h3) (cw_leavesOf hts ⟨by decide, by decide⟩) hx hb hml hown hts hK hP va_S.rf hZ hl.1 rfl rfl (lv_room (Nat.le_of_ble_eq_true rfl)) db_entryByNumber_10 ⟨by decide, by decide⟩ ?_
    refine lv_istore (lv' := [(4, .int r2), (3, .int x2), (0, .ref (gm 0)), (1, .int x1), (2, .int x2)]) hx hb db_entryByNumber_13 hl (by decide) rfl (fun ls hl => ?_)
    refine lv_iconst (v := 0) hx hb db_entryByNumber_15 (by decide) ?_
    refine lv_istore (lv' := [(5, .int 0), (4, .int r2), (3, .int x2), (0, .ref (gm 0)), (1, .int x1), (2, .int x2)]) hx hb db_entryByNumber_16 hl (by decide) rfl (fun ls hl => ?_)
    exact wb_entryByNumber_18 hX hP n n _ _ _ _ _ (lv_sub hl [3, 4, 2, 1, 0] rfl) hf
  · have hf := ifn c1 hf
    refine lv_iconst (v := (-1)) hx hb db_entryByNumber_4 (by decide) ?_
    cases hf
    exact er_i hx hb hr hlk db_entryByNumber_5
set_option maxRecDepth 100000 in
set_option maxHeartbeats 4000000 in
theorem cb_entryByNumber {l : Launch} (hfl : l.flags = flags0) {D : va_G} {gm : Nat → Nat} {ca : Nat → ClassId} {st : BSt} {n : Nat} {x1 : Int32} {x2 : Int32} {r : Int32} (hf : fb_entryByNumber n st x1 x2 = some r) : RM l yb_entryByNumber rmb_entryByNumber D gm ca [.int x1, .int x2] st (XI r) :=
  RM.of hfl (by decide +kernel) rfl mcb_entryByNumber (fun p e s m below meth c hX hP => wb_entryByNumber_0 hX hP n _ _ _ (lv_entry _ (Nat.le_of_ble_eq_true rfl)) hf)
set_option maxRecDepth 100000 in
set_option maxHeartbeats 4000000 in
theorem wb_key_0 {p : Program} {l : Launch} {e : Env} {s : State} {m : MethodId} {args : Array Value} {below : List Frame} {meth : Method} {c : Code} {D : va_G} {gm : Nat → Nat} {ca : Nat → ClassId} {A : Nat → Prop} {st : BSt} (hX : BX p l e rmb_key s m args meth c D ca A kb_key 4 (some .int)) (hP : va_P D vwCl (wB gm ca st) s.heap) (n : Nat) : ∀ (x1 : Int32) (x2 : Int32) {r : Int32 ⊕ Nat} (ls : Array Slot), lv_has ls 4 [(0, .ref (gm 0)), (1, .int x1), (2, .int x2)] → fb_key n st x1 x2 = some r → W p l e rmb_key s m args below meth c s.heap [] 0 0 (MQX below (xx_Q (xi r)) args s 3 18 (fun _ => False)) (F0 m 0 ls []) := by
  obtain ⟨hx, hb, hml, hr, hlk, hown, hts, hK, htr, hZ, hnh, hA, hfl⟩ := id hX
  intro x1 x2 r ls hl hf
  rw [fb_key] at hf
  refine lv_aload_n hx hb db_key_0 rfl (lv_at hl 0 rfl) ?_
  rcases thn_some hf with ⟨r1, h2, hf⟩ | ⟨k3, h2, hf⟩
  rotate_left 1
  · cases hf
    refine rmT (cb_requireOpen (l := l) (hfl := hfl) h2) (cw_requireOpen hts ⟨by decide, by decide⟩) hx hb hml hown hts hK hP va_S.rf hZ hl.1 rfl rfl (lv_room (Nat.le_of_ble_eq_true rfl)) db_key_1 ⟨by decide, by decide⟩ (fun x t h1 h2 h3 h4 h5 => ?_)
    refine WT.widen (k := 3) (n := 18) (by decide) (by decide) ?_
    exact rt_out hX h1 h2 h3 h4 h5
  refine rmV (cb_requireOpen (l := l) (hfl := hfl) h2) (cw_requireOpen hts ⟨by decide, by decide⟩) hx hb hml hown hts hK hP va_S.rf hZ hl.1 rfl rfl (lv_room (Nat.le_of_ble_eq_true rfl)) db_key_1 ⟨by decide, by decide⟩ ?_
  refine lv_aload_n hx hb db_key_4 rfl (lv_at hl 0 rfl) ?_
  refine lv_iload_n hx hb db_key_5 rfl (lv_at hl 1 rfl) ?_
  rcases thn_some hf with ⟨r4, h5, hf⟩ | ⟨k6, h5, hf⟩
  rotate_left 1
  · cases hf
    refine rmT (cb_requireKept (l := l) (hfl := hfl) h5) (cw_requireKept hts ⟨by decide, by decide⟩) hx hb hml hown hts hK hP va_S.rf hZ hl.1 rfl rfl (lv_room (Nat.le_of_ble_eq_true rfl)) db_key_6 ⟨by decide, by decide⟩ (fun x t h1 h2 h3 h4 h5 => ?_)
    refine WT.widen (k := 3) (n := 18) (by decide) (by decide) ?_
    exact rt_out hX h1 h2 h3 h4 h5
  refine rmV (cb_requireKept (l := l) (hfl := hfl) h5) (cw_requireKept hts ⟨by decide, by decide⟩) hx hb hml hown hts hK hP va_S.rf hZ hl.1 rfl rfl (lv_room (Nat.le_of_ble_eq_true rfl)) db_key_6 ⟨by decide, by decide⟩ ?_
  refine lv_aload_n hx hb db_key_9 rfl (lv_at hl 0 rfl) ?_
  refine lv_iload_n hx hb db_key_10 rfl (lv_at hl 1 rfl) ?_
  obtain ⟨r7, h8, hf⟩ := obs hf
  refine smI (cb_rootOf (l := l) (hfl := hfl) h8) (cw_rootOf hts ⟨by decide, by decide⟩) hx hb hml hown hts hl.1 rfl rfl (lv_room (Nat.le_of_ble_eq_true rfl)) db_key_11 ⟨by decide, by decide⟩ ?_
  refine lv_iload_n hx hb db_key_14 rfl (lv_at hl 2 rfl) ?_
  obtain ⟨r9, h10, hf⟩ := obs hf
  refine rmI (cb_entryByNumber (l := l) (hfl := hfl) h10) (cw_entryByNumber hts ⟨by decide, by decide⟩) hx hb hml hown hts hK hP va_S.rf hZ hl.1 rfl rfl (lv_room (Nat.le_of_ble_eq_true rfl)) db_key_15 ⟨by decide, by decide⟩ ?_
  refine lv_istore_n (lv' := [(3, .int r9), (0, .ref (gm 0)), (1, .int x1), (2, .int x2)]) hx hb db_key_18 rfl hl (by decide) rfl (fun ls hl => ?_)
  refine lv_iload_n hx hb db_key_19 rfl (lv_at hl 0 rfl) ?_
  refine lv_iconst (v := (-1)) hx hb db_key_20 (by decide) ?_
  refine lv_icmp_ne (tgt := 34) hx hb db_key_21 (by decide) (fun c11 => ?_) (fun c11 => ?_)
  · have hf := ifn c11 hf
    refine lv_aload_n hx hb db_key_34 rfl (lv_at hl 1 rfl) ?_
    refine bg_pages hx hb hown hts hK hP db_key_35 ?_
    refine lv_iload_n hx hb db_key_38 rfl (lv_at hl 0 rfl) ?_
    obtain ⟨r12, er12, ir12, hf⟩ := rdL_some hf
    refine bl_pages hx hb hK hP ir12 er12 db_key_39 ?_
    refine lv_l2i hx hb db_key_40 rfl ?_
    cases hf
    refine W.widen (k := 3) (n := 18) (by decide) (by decide) ?_
    exact er_i hx hb hr hlk db_key_41
  · have hf := ifp c11 hf
    cases hf
    exact rt_throw th_2_104 hX hl.1 db_key_24 db_key_27 db_key_28 db_key_30 db_key_33 ⟨by decide, by decide⟩ ⟨by decide, by decide⟩
set_option maxRecDepth 100000 in
set_option maxHeartbeats 4000000 in
theorem cb_key {l : Launch} (hfl : l.flags = flags0) {D : va_G} {gm : Nat → Nat} {ca : Nat → ClassId} {st : BSt} {n : Nat} {x1 : Int32} {x2 : Int32} {r : Int32 ⊕ Nat} (hf : fb_key n st x1 x2 = some r) : RM l yb_key rmb_key D gm ca [.int x1, .int x2] st (xi r) :=
  RM.of hfl (by decide +kernel) rfl mcb_key (fun p e s m below meth c hX hP => wb_key_0 hX hP n _ _ _ (lv_entry _ (Nat.le_of_ble_eq_true rfl)) hf)
set_option maxRecDepth 100000 in
set_option maxHeartbeats 4000000 in
theorem wb_haveSameEntries_20 {p : Program} {l : Launch} {e : Env} {s : State} {m : MethodId} {args : Array Value} {below : List Frame} {meth : Method} {c : Code} {D : va_G} {gm : Nat → Nat} {ca : Nat → ClassId} {A : Nat → Prop} {st : BSt} (hX : BX p l e rmb_haveSameEntries s m args meth c D ca A kb_haveSameEntries 7 (some .boolean)) (hP : va_P D vwCl (wB gm ca st) s.heap) (n : Nat) :∀ (k : Nat), ∀ (x1 : Int32) (x2 : Int32) (x3 : Int32) (x4 : Int32) {r : Int32} (ls : Array Slot), lv_has ls 7 [(0, .ref (gm 0)), (1, .int x1), (2, .int x2), (3, .int x3), (4, .int x4)] → fb_haveSameEntries_20 n k st x1 x2 x3 x4 = some r → W p l e rmb_haveSameEntries s m args below meth c s.heap [] 0 0 (MQX below (xx_Q (XI r)) args s 0 0 (fun _ => False)) (F0 m 20 ls []) := by
  obtain ⟨hx, hb, hml, hr, hlk, hown, hts, hK, htr, hZ, hnh, hA, hfl⟩ := id hX
  intro k
  induction k with
  | zero =>
    intro x1 x2 x3 x4 r ls hl hf
    rw [fb_haveSameEntries_20] at hf
    cases hf
  | succ k ih =>
    intro x1 x2 x3 x4 r ls hl hf
    rw [fb_haveSameEntries_20] at hf
    refine lv_iload hx hb db_haveSameEntries_20 (lv_at hl 4 rfl) ?_
    refine lv_iload_n hx hb db_haveSameEntries_22 rfl (lv_at hl 3 rfl) ?_
    refine lv_icmp_ge (tgt := 104) hx hb db_haveSameEntries_23 (by decide) (fun c1 => ?_) (fun c1 => ?_)
    · have hf := ifp c1 hf
      refine lv_iconst (v := 1) hx hb db_haveSameEntries_104 (by decide) ?_
      cases hf
      exact er_z hx hb hr hlk rfl db_haveSameEntries_105
    · have hf := ifn c1 hf
      refine lv_aload_n hx hb db_haveSameEntries_26 rfl (lv_at hl 0 rfl) ?_
      refine lv_iload_n hx hb db_haveSameEntries_27 rfl (lv_at hl 1 rfl) ?_
      refine lv_iload hx hb db_haveSameEntries_28 (lv_at hl 4 rfl) ?_
      obtain ⟨r2, h3, hf⟩ := obs hf
      refine rmI (cb_entryByNumber (l := l) (hfl := hfl) h3) (cw_entryByNumber hts ⟨by decide, by decide⟩) hx hb hml hown hts hK hP va_S.rf hZ hl.1 rfl rfl (lv_room (Nat.le_of_ble_eq_true rfl)) db_haveSameEntries_30 ⟨by decide, by decide⟩ ?_
      refine lv_istore (lv' := [(5, .int r2), (0, .ref (gm 0)), (1, .int x1), (2, .int x2), (3, .int x3), (4, .int x4)]) hx hb db_haveSameEntries_33 hl (by decide) rfl (fun ls hl => ?_)
      refine lv_aload_n hx hb db_haveSameEntries_35 rfl (lv_at hl 1 rfl) ?_
      refine lv_iload_n hx hb db_haveSameEntries_36 rfl (lv_at hl 3 rfl) ?_
      refine lv_iload hx hb db_haveSameEntries_37 (lv_at hl 5 rfl) ?_
      obtain ⟨r4, h5, hf⟩ := obs hf
      refine rmI (cb_entryByNumber (l := l) (hfl := hfl) h5) (cw_entryByNumber hts ⟨by decide, by decide⟩) hx hb hml hown hts hK hP va_S.rf hZ hl.1 rfl rfl (lv_room (Nat.le_of_ble_eq_true rfl)) db_haveSameEntries_39 ⟨by decide, by decide⟩ ?_
      refine lv_istore (lv' := [(6, .int r4), (5, .int r2), (0, .ref (gm 0)), (1, .int x1), (2, .int x2), (3, .int x3), (4, .int x4)]) hx hb db_haveSameEntries_42 hl (by decide) rfl (fun ls hl => ?_)
      refine lv_iload hx hb db_haveSameEntries_44 (lv_at hl 1 rfl) ?_
      refine lv_iconst (v := (-1)) hx hb db_haveSameEntries_46 (by decide) ?_
      refine lv_icmp_eq (tgt := 96) hx hb db_haveSameEntries_47 (by decide) (fun c6 => ?_) (fun c6 => ?_)
      · have hf := ifp c6 hf
        refine lv_iconst (v := 0) hx hb db_haveSameEntries_96 (by decide) ?_
        cases hf
        exact er_z hx hb hr hlk rfl db_haveSameEntries_97
      · have hf := ifn c6 hf
        refine lv_iload hx hb db_haveSameEntries_50 (lv_at hl 0 rfl) ?_
        refine lv_iconst (v := (-1)) hx hb db_haveSameEntries_52 (by decide) ?_
        refine lv_icmp_eq (tgt := 96) hx hb db_haveSameEntries_53 (by decide) (fun c7 => ?_) (fun c7 => ?_)
        · have hf := ifp c7 hf
          refine lv_iconst (v := 0) hx hb db_haveSameEntries_96 (by decide) ?_
          cases hf
          exact er_z hx hb hr hlk rfl db_haveSameEntries_97
        · have hf := ifn c7 hf
          refine lv_aload_n hx hb db_haveSameEntries_56 rfl (lv_at hl 2 rfl) ?_
          refine bg_pages hx hb hown hts hK hP db_haveSameEntries_57 ?_
          refine lv_iload hx hb db_haveSameEntries_60 (lv_at hl 1 rfl) ?_
          obtain ⟨r8, er8, ir8, hf⟩ := rdL_some hf
          refine bl_pages hx hb hK hP ir8 er8 db_haveSameEntries_62 ?_
          refine lv_aload_n hx hb db_haveSameEntries_63 rfl (lv_at hl 2 rfl) ?_
          refine bg_pages hx hb hown hts hK hP db_haveSameEntries_64 ?_
          refine lv_iload hx hb db_haveSameEntries_67 (lv_at hl 0 rfl) ?_
          obtain ⟨r9, er9, ir9, hf⟩ := rdL_some hf
          refine bl_pages hx hb hK hP ir9 er9 db_haveSameEntries_69 ?_
          refine W.lcmp hx hb db_haveSameEntries_70 ?_
          refine lv_if_ne (tgt := 96) hx hb db_haveSameEntries_71 (by decide) (fun c10 => ?_) (fun c10 => ?_)
          · have hf := ifn c10 hf
            refine lv_iconst (v := 0) hx hb db_haveSameEntries_96 (by decide) ?_
            cases hf
            exact er_z hx hb hr hlk rfl db_haveSameEntries_97
          · have hf := ifp c10 hf
            refine lv_aload_n hx hb db_haveSameEntries_74 rfl (lv_at hl 2 rfl) ?_
            refine bg_pages hx hb hown hts hK hP db_haveSameEntries_75 ?_
            refine lv_iload hx hb db_haveSameEntries_78 (lv_at hl 1 rfl) ?_
            refine lv_iconst (v := 1) hx hb db_haveSameEntries_80 (by decide) ?_
            refine lv_iadd hx hb db_haveSameEntries_81 ?_
            obtain ⟨r11, er11, ir11, hf⟩ := rdL_some hf
            refine bl_pages hx hb hK hP ir11 er11 db_haveSameEntries_82 ?_
            refine lv_aload_n hx hb db_haveSameEntries_83 rfl (lv_at hl 2 rfl) ?_
            refine bg_pages hx hb hown hts hK hP db_haveSameEntries_84 ?_
            refine lv_iload hx hb db_haveSameEntries_87 (lv_at hl 0 rfl) ?_
            refine lv_iconst (v := 1) hx hb db_haveSameEntries_89 (by decide) ?_
            refine lv_iadd hx hb db_haveSameEntries_90 ?_
            obtain ⟨r12, er12, ir12, hf⟩ := rdL_some hf
            refine bl_pages hx hb hK hP ir12 er12 db_haveSameEntries_91 ?_
            refine W.lcmp hx hb db_haveSameEntries_92 ?_
            refine lv_if_eq (tgt := 98) hx hb db_haveSameEntries_93 (by decide) (fun c13 => ?_) (fun c13 => ?_)
            · have hf := ifp c13 hf
              refine lv_iinc (v := (x4 + 1)) (lv' := [(4, .int (x4 + 1)), (6, .int r4), (5, .int r2), (0, .ref (gm 0)), (1, .int x1), (2, .int x2), (3, .int x3)]) hx hb db_haveSameEntries_98 hl (k := 6) rfl rfl (by decide) rfl (fun ls hl => ?_)
              refine lv_goto (tgt := 20) hx hb db_haveSameEntries_101 (by decide) ?_
              exact ih _ _ _ _ _ (lv_sub hl [3, 4, 5, 6, 0] rfl) hf
            · have hf := ifn c13 hf
              refine lv_iconst (v := 0) hx hb db_haveSameEntries_96 (by decide) ?_
              cases hf
              exact er_z hx hb hr hlk rfl db_haveSameEntries_97
set_option maxRecDepth 100000 in
set_option maxHeartbeats 4000000 in
theorem wb_haveSameEntries_0 {p : Program} {l : Launch} {e : Env} {s : State} {m : MethodId} {args : Array Value} {below : List Frame} {meth : Method} {c : Code} {D : va_G} {gm : Nat → Nat} {ca : Nat → ClassId} {A : Nat → Prop} {st : BSt} (hX : BX p l e rmb_haveSameEntries s m args meth c D ca A kb_haveSameEntries 7 (some .boolean)) (hP : va_P D vwCl (wB gm ca st) s.heap) (n : Nat) : ∀ (x1 : Int32) (x2 : Int32) {r : Int32} (ls : Array Slot), lv_has ls 7 [(0, .ref (gm 0)), (1, .int x1), (2, .int x2)] → fb_haveSameEntries n st x1 x2 = some r → W p l e rmb_haveSameEntries s m args below meth c s.heap [] 0 0 (MQX below (xx_Q (XI r)) args s 0 0 (fun _ => False)) (F0 m 0 ls []) := by
  obtain ⟨hx, hb, hml, hr, hlk, hown, hts, hK, htr, hZ, hnh, hA, hfl⟩ := id hX
  intro x1 x2 r ls hl hf
  rw [fb_haveSameEntries] at hf
  refine lv_aload_n hx hb db_haveSameEntries_0 rfl (lv_at hl 0 rfl) ?_
  refine lv_iload_n hx hb db_haveSameEntries_1 rfl (lv_at hl 1 rfl) ?_
  obtain ⟨r1, h2, hf⟩ := obs hf
  refine rmI (cb_entriesOfRoot (l := l) (hfl := hfl) h2) (cw_entriesOfRoot hts ⟨by decide, by decide⟩) hx hb hml hown hts hK hP va_S.rf hZ hl.1 rfl rfl (lv_room (Nat.le_of_ble_eq_true rfl)) db_haveSameEntries_2 ⟨by decide, by decide⟩ ?_
  refine lv_istore_n (lv' := [(3, .int r1), (0, .ref (gm 0)), (1, .int x1), (2, .int x2)]) hx hb db_haveSameEntries_5 rfl hl (by decide) rfl (fun ls hl => ?_)
  refine lv_iload_n hx hb db_haveSameEntries_6 rfl (lv_at hl 0 rfl) ?_
  refine lv_aload_n hx hb db_haveSameEntries_7 rfl (lv_at hl 1 rfl) ?_
  refine lv_iload_n hx hb db_haveSameEntries_8 rfl (lv_at hl 3 rfl) ?_
  obtain ⟨r3, h4, hf⟩ := obs hf
  refine rmI (cb_entriesOfRoot (l := l) (hfl := hfl) h4) (cw_entriesOfRoot hts ⟨by decide, by decide⟩) hx hb hml hown hts hK hP va_S.rf hZ hl.1 rfl rfl (lv_room (Nat.le_of_ble_eq_true rfl)) db_haveSameEntries_9 ⟨by decide, by decide⟩ ?_
  refine lv_icmp_eq (tgt := 17) hx hb db_haveSameEntries_12 (by decide) (fun c5 => ?_) (fun c5 => ?_)
  · have hf := ifp c5 hf
    refine lv_iconst (v := 0) hx hb db_haveSameEntries_17 (by decide) ?_
    refine lv_istore (lv' := [(4, .int 0), (3, .int r1), (0, .ref (gm 0)), (1, .int x1), (2, .int x2)]) hx hb db_haveSameEntries_18 hl (by decide) rfl (fun ls hl => ?_)
    exact wb_haveSameEntries_20 hX hP n n _ _ _ _ _ (lv_sub hl [2, 3, 4, 1, 0] rfl) hf
  · have hf := ifn c5 hf
    refine lv_iconst (v := 0) hx hb db_haveSameEntries_15 (by decide) ?_
    cases hf
    exact er_z hx hb hr hlk rfl db_haveSameEntries_16
set_option maxRecDepth 100000 in
set_option maxHeartbeats 4000000 in
theorem cb_haveSameEntries {l : Launch} (hfl : l.flags = flags0) {D : va_G} {gm : Nat → Nat} {ca : Nat → ClassId} {st : BSt} {n : Nat} {x1 : Int32} {x2 : Int32} {r : Int32} (hf : fb_haveSameEntries n st x1 x2 = some r) : RM l yb_haveSameEntries rmb_haveSameEntries D gm ca [.int x1, .int x2] st (XI r) :=
  RM.of hfl (by decide +kernel) rfl mcb_haveSameEntries (fun p e s m below meth c hX hP => wb_haveSameEntries_0 hX hP n _ _ _ (lv_entry _ (Nat.le_of_ble_eq_true rfl)) hf)
set_option maxRecDepth 100000 in
set_option maxHeartbeats 4000000 in
theorem wb_same_0 {p : Program} {l : Launch} {e : Env} {s : State} {m : MethodId} {args : Array Value} {below : List Frame} {meth : Method} {c : Code} {D : va_G} {gm : Nat → Nat} {ca : Nat → ClassId} {A : Nat → Prop} {st : BSt} (hX : BX p l e rmb_same s m args meth c D ca A kb_same 3 (some .boolean)) (hP : va_P D vwCl (wB gm ca st) s.heap) (n : Nat) : ∀ (x1 : Int32) (x2 : Int32) {r : Int32 ⊕ Nat} (ls : Array Slot), lv_has ls 3 [(0, .ref (gm 0)), (1, .int x1), (2, .int x2)] → fb_same n st x1 x2 = some r → W p l e rmb_same s m args below meth c s.heap [] 0 0 (MQX below (xx_Q (xi r)) args s 3 18 (fun _ => False)) (F0 m 0 ls []) := by
  obtain ⟨hx, hb, hml, hr, hlk, hown, hts, hK, htr, hZ, hnh, hA, hfl⟩ := id hX
  intro x1 x2 r ls hl hf
  rw [fb_same] at hf
  refine lv_aload_n hx hb db_same_0 rfl (lv_at hl 0 rfl) ?_
  rcases thn_some hf with ⟨r1, h2, hf⟩ | ⟨k3, h2, hf⟩
  rotate_left 1
  · cases hf
    refine rmT (cb_requireOpen (l := l) (hfl := hfl) h2) (cw_requireOpen hts ⟨by decide, by decide⟩) hx hb hml hown hts hK hP va_S.rf hZ hl.1 rfl rfl (lv_room (Nat.le_of_ble_eq_true rfl)) db_same_1 ⟨by decide, by decide⟩ (fun x t h1 h2 h3 h4 h5 => ?_)
    refine WT.widen (k := 3) (n := 18) (by decide) (by decide) ?_
    exact rt_out hX h1 h2 h3 h4 h5
  refine rmV (cb_requireOpen (l := l) (hfl := hfl) h2) (cw_requireOpen hts ⟨by decide, by decide⟩) hx hb hml hown hts hK hP va_S.rf hZ hl.1 rfl rfl (lv_room (Nat.le_of_ble_eq_true rfl)) db_same_1 ⟨by decide, by decide⟩ ?_
  refine lv_aload_n hx hb db_same_4 rfl (lv_at hl 0 rfl) ?_
  refine lv_iload_n hx hb db_same_5 rfl (lv_at hl 1 rfl) ?_
  rcases thn_some hf with ⟨r4, h5, hf⟩ | ⟨k6, h5, hf⟩
  rotate_left 1
  · cases hf
    refine rmT (cb_requireKept (l := l) (hfl := hfl) h5) (cw_requireKept hts ⟨by decide, by decide⟩) hx hb hml hown hts hK hP va_S.rf hZ hl.1 rfl rfl (lv_room (Nat.le_of_ble_eq_true rfl)) db_same_6 ⟨by decide, by decide⟩ (fun x t h1 h2 h3 h4 h5 => ?_)
    refine WT.widen (k := 3) (n := 18) (by decide) (by decide) ?_
    exact rt_out hX h1 h2 h3 h4 h5
  refine rmV (cb_requireKept (l := l) (hfl := hfl) h5) (cw_requireKept hts ⟨by decide, by decide⟩) hx hb hml hown hts hK hP va_S.rf hZ hl.1 rfl rfl (lv_room (Nat.le_of_ble_eq_true rfl)) db_same_6 ⟨by decide, by decide⟩ ?_
  refine lv_aload_n hx hb db_same_9 rfl (lv_at hl 0 rfl) ?_
  refine lv_iload_n hx hb db_same_10 rfl (lv_at hl 2 rfl) ?_
  rcases thn_some hf with ⟨r7, h8, hf⟩ | ⟨k9, h8, hf⟩
  rotate_left 1
  · cases hf
    refine rmT (cb_requireKept (l := l) (hfl := hfl) h8) (cw_requireKept hts ⟨by decide, by decide⟩) hx hb hml hown hts hK hP va_S.rf hZ hl.1 rfl rfl (lv_room (Nat.le_of_ble_eq_true rfl)) db_same_11 ⟨by decide, by decide⟩ (fun x t h1 h2 h3 h4 h5 => ?_)
    exact rt_out hX h1 h2 h3 h4 h5
  refine rmV (cb_requireKept (l := l) (hfl := hfl) h8) (cw_requireKept hts ⟨by decide, by decide⟩) hx hb hml hown hts hK hP va_S.rf hZ hl.1 rfl rfl (lv_room (Nat.le_of_ble_eq_true rfl)) db_same_11 ⟨by decide, by decide⟩ ?_
  refine lv_aload_n hx hb db_same_14 rfl (lv_at hl 0 rfl) ?_
  refine lv_iload_n hx hb db_same_15 rfl (lv_at hl 1 rfl) ?_
  obtain ⟨r10, h11, hf⟩ := obs hf
  refine smI (cb_rootOf (l := l) (hfl := hfl) h11) (cw_rootOf hts ⟨by decide, by decide⟩) hx hb hml hown hts hl.1 rfl rfl (lv_room (Nat.le_of_ble_eq_true rfl)) db_same_16 ⟨by decide, by decide⟩ ?_
  refine lv_iload_n hx hb db_same_19 rfl (lv_at hl 2 rfl) ?_
  obtain ⟨r12, h13, hf⟩ := obs hf
  refine smI (cb_rootOf (l := l) (hfl := hfl) h13) (cw_rootOf hts ⟨by decide, by decide⟩) hx hb hml hown hts hl.1 rfl rfl (lv_room (Nat.le_of_ble_eq_true rfl)) db_same_20 ⟨by decide, by decide⟩ ?_
  obtain ⟨r14, h15, hf⟩ := obs hf
  refine rmI (cb_haveSameEntries (l := l) (hfl := hfl) h15) (cw_haveSameEntries hts ⟨by decide, by decide⟩) hx hb hml hown hts hK hP va_S.rf hZ hl.1 rfl rfl (lv_room (Nat.le_of_ble_eq_true rfl)) db_same_23 ⟨by decide, by decide⟩ ?_
  obtain ⟨_, hzb, hf⟩ := obs hf
  cases hf
  exact er_z hx hb hr hlk (zb_ok hzb) db_same_26
set_option maxRecDepth 100000 in
set_option maxHeartbeats 4000000 in
theorem cb_same {l : Launch} (hfl : l.flags = flags0) {D : va_G} {gm : Nat → Nat} {ca : Nat → ClassId} {st : BSt} {n : Nat} {x1 : Int32} {x2 : Int32} {r : Int32 ⊕ Nat} (hf : fb_same n st x1 x2 = some r) : RM l yb_same rmb_same D gm ca [.int x1, .int x2] st (xi r) :=
  RM.of hfl (by decide +kernel) rfl mcb_same (fun p e s m below meth c hX hP => wb_same_0 hX hP n _ _ _ (lv_entry _ (Nat.le_of_ble_eq_true rfl)) hf)
set_option maxRecDepth 100000 in
set_option maxHeartbeats 4000000 in
theorem wb_free_0 {p : Program} {l : Launch} {e : Env} {s : State} {m : MethodId} {args : Array Value} {below : List Frame} {meth : Method} {c : Code} {D : va_G} {gm : Nat → Nat} {ca : Nat → ClassId} {A : Nat → Prop} {st : BSt} (hX : BX p l e rmb_free s m args meth c D ca A kb_free 1 (some .int)) (hP : va_P D vwCl (wB gm ca st) s.heap) (n : Nat) : ∀ {r : Int32 ⊕ Nat} (ls : Array Slot), lv_has ls 1 [(0, .ref (gm 0))] → fb_free n st = some r → W p l e rmb_free s m args below meth c s.heap [] 0 0 (MQX below (xx_Q (xi r)) args s 1 6 (fun _ => False)) (F0 m 0 ls []) := by
  obtain ⟨hx, hb, hml, hr, hlk, hown, hts, hK, htr, hZ, hnh, hA, hfl⟩ := id hX
  intro r ls hl hf
  rw [fb_free] at hf
  refine lv_aload_n hx hb db_free_0 rfl (lv_at hl 0 rfl) ?_
  rcases thn_some hf with ⟨r1, h2, hf⟩ | ⟨k3, h2, hf⟩
  rotate_left 1
  · cases hf
    refine rmT (cb_requireOpen (l := l) (hfl := hfl) h2) (cw_requireOpen hts ⟨by decide, by decide⟩) hx hb hml hown hts hK hP va_S.rf hZ hl.1 rfl rfl (lv_room (Nat.le_of_ble_eq_true rfl)) db_free_1 ⟨by decide, by decide⟩ (fun x t h1 h2 h3 h4 h5 => ?_)
    exact rt_out hX h1 h2 h3 h4 h5
  refine rmV (cb_requireOpen (l := l) (hfl := hfl) h2) (cw_requireOpen hts ⟨by decide, by decide⟩) hx hb hml hown hts hK hP va_S.rf hZ hl.1 rfl rfl (lv_room (Nat.le_of_ble_eq_true rfl)) db_free_1 ⟨by decide, by decide⟩ ?_
  refine lv_aload_n hx hb db_free_4 rfl (lv_at hl 0 rfl) ?_
  refine bg_pageCount hx hb hown hts hK hP db_free_5 ?_
  refine lv_aload_n hx hb db_free_8 rfl (lv_at hl 0 rfl) ?_
  obtain ⟨r4, h5, hf⟩ := obs hf
  refine rmL (cb_heldPages (l := l) (hfl := hfl) h5) (cw_heldPages hts ⟨by decide, by decide⟩) hx hb hml hown hts hK hP va_S.rf hZ hl.1 rfl rfl (lv_room (Nat.le_of_ble_eq_true rfl)) db_free_9 ⟨by decide, by decide⟩ ?_
  obtain ⟨r6, h7, hf⟩ := obs hf
  refine smI (cj_bitCount (l := l) (hfl := hfl) h7) (cw_b_bitCount hts ⟨by decide, by decide⟩) hx hb hml hown hts hl.1 rfl rfl (lv_room (Nat.le_of_ble_eq_true rfl)) db_free_12 ⟨by decide, by decide⟩ ?_
  refine lv_isub hx hb db_free_15 ?_
  cases hf
  exact er_i hx hb hr hlk db_free_16
set_option maxRecDepth 100000 in
set_option maxHeartbeats 4000000 in
theorem cb_free {l : Launch} (hfl : l.flags = flags0) {D : va_G} {gm : Nat → Nat} {ca : Nat → ClassId} {st : BSt} {n : Nat} {r : Int32 ⊕ Nat} (hf : fb_free n st = some r) : RM l yb_free rmb_free D gm ca [] st (xi r) :=
  RM.of hfl (by decide +kernel) rfl mcb_free (fun p e s m below meth c hX hP => wb_free_0 hX hP n _ (lv_entry _ (Nat.le_of_ble_eq_true rfl)) hf)
set_option maxRecDepth 100000 in
set_option maxHeartbeats 4000000 in
theorem wb_writtenWords_0 {p : Program} {l : Launch} {e : Env} {s : State} {m : MethodId} {args : Array Value} {below : List Frame} {meth : Method} {c : Code} {D : va_G} {gm : Nat → Nat} {ca : Nat → ClassId} {A : Nat → Prop} {st : BSt} (hX : BX p l e rmb_writtenWords s m args meth c D ca A kb_writtenWords 1 (some .int)) (hP : va_P D vwCl (wB gm ca st) s.heap) (n : Nat) : ∀ {r : Int32} (ls : Array Slot), lv_has ls 1 [(0, .ref (gm 0))] → fb_writtenWords n st = some r → W p l e rmb_writtenWords s m args below meth c s.heap [] 0 0 (MQX below (xx_Q (XI r)) args s 0 0 (fun _ => False)) (F0 m 0 ls []) := by
  obtain ⟨hx, hb, hml, hr, hlk, hown, hts, hK, htr, hZ, hnh, hA, hfl⟩ := id hX
  intro r ls hl hf
  rw [fb_writtenWords] at hf
  refine lv_aload_n hx hb db_writtenWords_0 rfl (lv_at hl 0 rfl) ?_
  refine bg_takenCount hx hb hown hts hK hP db_writtenWords_1 ?_
  refine lv_bipush (v := 16) hx hb db_writtenWords_4 (by decide) ?_
  refine lv_imul hx hb db_writtenWords_6 ?_
  refine lv_bipush (v := 20) hx hb db_writtenWords_7 (by decide) ?_
  refine lv_iadd hx hb db_writtenWords_9 ?_
  cases hf
  exact er_i hx hb hr hlk db_writtenWords_10
set_option maxRecDepth 100000 in
set_option maxHeartbeats 4000000 in
theorem cb_writtenWords {l : Launch} (hfl : l.flags = flags0) {D : va_G} {gm : Nat → Nat} {ca : Nat → ClassId} {st : BSt} {n : Nat} {r : Int32} (hf : fb_writtenWords n st = some r) : RM l yb_writtenWords rmb_writtenWords D gm ca [] st (XI r) :=
  RM.of hfl (by decide +kernel) rfl mcb_writtenWords (fun p e s m below meth c hX hP => wb_writtenWords_0 hX hP n _ (lv_entry _ (Nat.le_of_ble_eq_true rfl)) hf)
end
section
set_option maxRecDepth 100000 in
set_option maxHeartbeats 4000000 in
theorem wb_restoreFrom_16 {p : Program} {l : Launch} {e : Env} {s : State} {m : MethodId} {args : Array Value} {below : List Frame} {meth : Method} {c : Code} {D : va_G} {gm : Nat → Nat} {ca : Nat → ClassId} {A : Nat → Prop} (hX : BX p l e rmb_restoreFrom s m args meth c D ca A kb_restoreFrom 5 (none)) (n : Nat) :∀ (k : Nat), ∀ (st : BSt) (x2 : Int32) (x3 : Int32) (x4 : Int32) {st' : BSt} (ls : Array Slot) (H : Heap) (locs : List Loc), BWd D gm ca A s.heap st H locs → lv_has ls 5 [(0, .ref (gm 0)), (2, .int x2), (3, .int x3), (4, .int x4)] → fb_restoreFrom_16 n k st x2 x3 x4 = some st' → W p l e rmb_restoreFrom s m args below meth c H locs 0 0 (MQX below (mm_Q D gm ca A (XV) st') args s 0 0 A) (F0 m 16 ls []) := by
  obtain ⟨hx, hb, hml, hr, hlk, hown, hts, hK, htr, hZ, hnh, hA, hfl⟩ := id hX
  intro k
  induction k with
  | zero =>
    intro st x2 x3 x4 st' ls H locs hB hl hf
    rw [fb_restoreFrom_16] at hf
    cases hf
  | succ k ih =>
    intro st x2 x3 x4 st' ls H locs hB hl hf
    rw [fb_restoreFrom_16] at hf
    refine lv_iload hx hb db_restoreFrom_16 (lv_at hl 3 rfl) ?_
    refine lv_iload_n hx hb db_restoreFrom_18 rfl (lv_at hl 2 rfl) ?_
    refine lv_icmp_ge (tgt := 92) hx hb db_restoreFrom_19 (by decide) (fun c1 => ?_) (fun c1 => ?_)
    · have hf := ifp c1 hf
      cases hf
      exact em_v hx hb hr hlk hB db_restoreFrom_92
    · have hf := ifn c1 hf
      refine lv_iload hx hb db_restoreFrom_22 (lv_at hl 3 rfl) ?_
      refine lv_iload_n hx hb db_restoreFrom_24 rfl (lv_at hl 1 rfl) ?_
      refine lv_icmp_ge (tgt := 62) hx hb db_restoreFrom_25 (by decide) (fun c2 => ?_) (fun c2 => ?_)
      · have hf := ifp c2 hf
        refine lv_aload_n hx hb db_restoreFrom_62 rfl (lv_at hl 0 rfl) ?_
        refine bg_roots hx hb hown hts hK hB.1 db_restoreFrom_63 ?_
        refine lv_aload_n hx hb db_restoreFrom_66 rfl (lv_at hl 0 rfl) ?_
        refine bg_writtenRoot hx hb hown hts hK hB.1 db_restoreFrom_67 ?_
        refine lv_bipush (v := 20) hx hb db_restoreFrom_70 (by decide) ?_
        refine lv_imul hx hb db_restoreFrom_72 ?_
        refine lv_iload hx hb db_restoreFrom_73 (lv_at hl 3 rfl) ?_
        refine lv_iadd hx hb db_restoreFrom_75 ?_
        refine lv_iload_n hx hb db_restoreFrom_76 rfl (lv_at hl 1 rfl) ?_
        refine lv_isub hx hb db_restoreFrom_77 ?_
        refine lv_aload_n hx hb db_restoreFrom_78 rfl (lv_at hl 0 rfl) ?_
        refine bg_wordsBefore hx hb hown hts hK hB.1 db_restoreFrom_79 ?_
        refine lv_iload hx hb db_restoreFrom_82 (lv_at hl 3 rfl) ?_
        obtain ⟨r3, er3, ir3, hf⟩ := rdL_some hf
        refine bl_wordsBefore hx hb hK hB.1 ir3 er3 db_restoreFrom_84 ?_
        obtain ⟨a4, ea4, ia4, hf⟩ := wrL_some hf
        refine bt_roots hx hb hK hB ia4 ea4 db_restoreFrom_85 (fun H locs hB => ?_)
        refine lv_iinc (v := (x4 + 1)) (lv' := [(4, .int (x4 + 1)), (0, .ref (gm 0)), (2, .int x2), (3, .int x3)]) hx hb db_restoreFrom_86 hl (k := 3) rfl rfl (by decide) rfl (fun ls hl => ?_)
        refine lv_goto (tgt := 16) hx hb db_restoreFrom_89 (by decide) ?_
        exact ih _ _ _ _ _ _ _ hB (lv_sub hl [1, 2, 3, 0] rfl) hf
      · have hf := ifn c2 hf
        refine lv_aload_n hx hb db_restoreFrom_28 rfl (lv_at hl 0 rfl) ?_
        refine bg_pages hx hb hown hts hK hB.1 db_restoreFrom_29 ?_
        refine lv_aload_n hx hb db_restoreFrom_32 rfl (lv_at hl 0 rfl) ?_
        refine bg_takenPages hx hb hown hts hK hB.1 db_restoreFrom_33 ?_
        refine lv_iload hx hb db_restoreFrom_36 (lv_at hl 3 rfl) ?_
        refine lv_bipush (v := 16) hx hb db_restoreFrom_38 (by decide) ?_
        refine lv_idiv hx hb db_restoreFrom_40 (by decide) ?_
        obtain ⟨r5, er5, ir5, hf⟩ := rdI_some hf
        refine bl_takenPages hx hb hK hB.1 ir5 er5 db_restoreFrom_41 ?_
        refine lv_bipush (v := 16) hx hb db_restoreFrom_42 (by decide) ?_
        refine lv_imul hx hb db_restoreFrom_44 ?_
        refine lv_iload hx hb db_restoreFrom_45 (lv_at hl 3 rfl) ?_
        refine lv_bipush (v := 16) hx hb db_restoreFrom_47 (by decide) ?_
        refine lv_irem hx hb db_restoreFrom_49 (by decide) ?_
        refine lv_iadd hx hb db_restoreFrom_50 ?_
        refine lv_aload_n hx hb db_restoreFrom_51 rfl (lv_at hl 0 rfl) ?_
        refine bg_wordsBefore hx hb hown hts hK hB.1 db_restoreFrom_52 ?_
        refine lv_iload hx hb db_restoreFrom_55 (lv_at hl 3 rfl) ?_
        obtain ⟨r6, er6, ir6, hf⟩ := rdL_some hf
        refine bl_wordsBefore hx hb hK hB.1 ir6 er6 db_restoreFrom_57 ?_
        obtain ⟨a7, ea7, ia7, hf⟩ := wrL_some hf
        refine bt_pages hx hb hK hB ia7 ea7 db_restoreFrom_58 (fun H locs hB => ?_)
        refine lv_goto (tgt := 86) hx hb db_restoreFrom_59 (by decide) ?_
        refine lv_iinc (v := (x4 + 1)) (lv' := [(4, .int (x4 + 1)), (0, .ref (gm 0)), (2, .int x2), (3, .int x3)]) hx hb db_restoreFrom_86 hl (k := 3) rfl rfl (by decide) rfl (fun ls hl => ?_)
        refine lv_goto (tgt := 16) hx hb db_restoreFrom_89 (by decide) ?_
        exact ih _ _ _ _ _ _ _ hB (lv_sub hl [1, 2, 3, 0] rfl) hf
set_option maxRecDepth 100000 in
set_option maxHeartbeats 4000000 in
theorem wb_restoreFrom_0 {p : Program} {l : Launch} {e : Env} {s : State} {m : MethodId} {args : Array Value} {below : List Frame} {meth : Method} {c : Code} {D : va_G} {gm : Nat → Nat} {ca : Nat → ClassId} {A : Nat → Prop} {st : BSt} (hX : BX p l e rmb_restoreFrom s m args meth c D ca A kb_restoreFrom 5 (none)) (hB : BWd D gm ca A s.heap st s.heap []) (n : Nat) : ∀ (x1 : Int32) {st' : BSt} (ls : Array Slot), lv_has ls 5 [(0, .ref (gm 0)), (1, .int x1)] → fb_restoreFrom n st x1 = some st' → W p l e rmb_restoreFrom s m args below meth c s.heap [] 0 0 (MQX below (mm_Q D gm ca A (XV) st') args s 0 0 A) (F0 m 0 ls []) := by
  obtain ⟨hx, hb, hml, hr, hlk, hown, hts, hK, htr, hZ, hnh, hA, hfl⟩ := id hX
  intro x1 st' ls hl hf
  rw [fb_restoreFrom] at hf
  refine lv_aload_n hx hb db_restoreFrom_0 rfl (lv_at hl 0 rfl) ?_
  refine bg_takenCount hx hb hown hts hK hB.1 db_restoreFrom_1 ?_
  refine lv_bipush (v := 16) hx hb db_restoreFrom_4 (by decide) ?_
  refine lv_imul hx hb db_restoreFrom_6 ?_
  refine lv_istore_n (lv' := [(2, .int ((bs_takenCount st) * 16)), (0, .ref (gm 0)), (1, .int x1)]) hx hb db_restoreFrom_7 rfl hl (by decide) rfl (fun ls hl => ?_)
  refine lv_aload_n hx hb db_restoreFrom_8 rfl (lv_at hl 1 rfl) ?_
  obtain ⟨r1, h2, hf⟩ := obs hf
  refine rmI (cb_writtenWords (l := l) (hfl := hfl) h2) (cw_writtenWords hts ⟨by decide, by decide⟩) hx hb hml hown hts hK hB.1 hB.2.2 hZ hl.1 rfl rfl (lv_room (Nat.le_of_ble_eq_true rfl)) db_restoreFrom_9 ⟨by decide, by decide⟩ ?_
  refine lv_istore_n (lv' := [(3, .int r1), (2, .int ((bs_takenCount st) * 16)), (0, .ref (gm 0)), (1, .int x1)]) hx hb db_restoreFrom_12 rfl hl (by decide) rfl (fun ls hl => ?_)
  refine lv_iload_n hx hb db_restoreFrom_13 rfl (lv_at hl 3 rfl) ?_
  refine lv_istore (lv' := [(4, .int x1), (3, .int r1), (2, .int ((bs_takenCount st) * 16)), (0, .ref (gm 0)), (1, .int x1)]) hx hb db_restoreFrom_14 hl (by decide) rfl (fun ls hl => ?_)
  exact wb_restoreFrom_16 hX n n _ _ _ _ _ _ _ hB (lv_sub hl [3, 2, 1, 0] rfl) hf
set_option maxRecDepth 100000 in
set_option maxHeartbeats 4000000 in
theorem cb_restoreFrom {l : Launch} (hfl : l.flags = flags0) {D : va_G} {gm : Nat → Nat} {ca : Nat → ClassId} {st : BSt} {n : Nat} {x1 : Int32} {st' : BSt} (hf : fb_restoreFrom n st x1 = some st') : MM l yb_restoreFrom rmb_restoreFrom D gm ca [.int x1] st (XV) st' :=
  MM.of hfl (by decide +kernel) rfl mcb_restoreFrom (fun p e s m below meth c A _ hX hB => wb_restoreFrom_0 hX hB n _ _ (lv_entry _ (Nat.le_of_ble_eq_true rfl)) hf)
set_option maxRecDepth 100000 in
set_option maxHeartbeats 4000000 in
theorem wb_crash_0 {p : Program} {l : Launch} {e : Env} {s : State} {m : MethodId} {args : Array Value} {below : List Frame} {meth : Method} {c : Code} {D : va_G} {gm : Nat → Nat} {ca : Nat → ClassId} {A : Nat → Prop} {st : BSt} (hX : BX p l e rmb_crash s m args meth c D ca A kb_crash 2 (some .int)) (hB : BWd D gm ca A s.heap st s.heap []) (n : Nat) : ∀ (x1 : Int32) {r : Int32 ⊕ Nat} {st' : BSt} (ls : Array Slot), lv_has ls 2 [(0, .ref (gm 0)), (1, .int x1)] → fb_crash n st x1 = some (r, st') → W p l e rmb_crash s m args below meth c s.heap [] 0 0 (MQX below (mm_Q D gm ca A (xi r) st') args s 2 12 A) (F0 m 0 ls []) := by
  obtain ⟨hx, hb, hml, hr, hlk, hown, hts, hK, htr, hZ, hnh, hA, hfl⟩ := id hX
  intro x1 r st' ls hl hf
  rw [fb_crash] at hf
  refine lv_aload_n hx hb db_crash_0 rfl (lv_at hl 0 rfl) ?_
  rcases thnS_some hf with ⟨r1, h2, hf⟩ | ⟨k3, h2, hf⟩
  rotate_left 1
  · cases hf
    refine rmT (cb_requireOpen (l := l) (hfl := hfl) h2) (cw_requireOpen hts ⟨by decide, by decide⟩) hx hb hml hown hts hK hB.1 hB.2.2 hZ hl.1 rfl rfl (lv_room (Nat.le_of_ble_eq_true rfl)) db_crash_1 ⟨by decide, by decide⟩ (fun x t h1 h2 h3 h4 h5 => ?_)
    refine WT.widen (k := 2) (n := 12) (by decide) (by decide) ?_
    exact mt_outR hX hB h1 h2 h3 h4 h5
  refine rmV (cb_requireOpen (l := l) (hfl := hfl) h2) (cw_requireOpen hts ⟨by decide, by decide⟩) hx hb hml hown hts hK hB.1 hB.2.2 hZ hl.1 rfl rfl (lv_room (Nat.le_of_ble_eq_true rfl)) db_crash_1 ⟨by decide, by decide⟩ ?_
  refine lv_aload_n hx hb db_crash_4 rfl (lv_at hl 0 rfl) ?_
  refine bg_canBeCut hx hb hown hts hK hB.1 db_crash_5 ?_
  refine lv_if_ne (tgt := 21) hx hb db_crash_8 (by decide) (fun c4 => ?_) (fun c4 => ?_)
  · have hf := ifn c4 hf
    refine lv_iload_n hx hb db_crash_21 rfl (lv_at hl 1 rfl) ?_
    refine lv_if_ge (tgt := 35) hx hb db_crash_22 (by decide) (fun c5 => ?_) (fun c5 => ?_)
    · have hf := ifp c5 hf
      refine lv_aload_n hx hb db_crash_35 rfl (lv_at hl 0 rfl) ?_
      refine lv_iload_n hx hb db_crash_36 rfl (lv_at hl 1 rfl) ?_
      obtain ⟨st6, h7, hf⟩ := obs hf
      refine mmV (cb_restoreFrom (l := l) (hfl := hfl) h7) (cw_restoreFrom hts ⟨by decide, by decide⟩) hx hb hml hown hts hK hB hZ hA hl.1 rfl rfl (lv_room (Nat.le_of_ble_eq_true rfl)) db_crash_37 ⟨by decide, by decide⟩ (fun H locs hB => ?_)
      refine lv_aload_n hx hb db_crash_40 rfl (lv_at hl 0 rfl) ?_
      refine lv_iconst (v := 1) hx hb db_crash_41 (by decide) ?_
      refine bp_closed hx hb hown hts hK hB rfl rfl db_crash_42 (fun H locs hB => ?_)
      refine lv_aload_n hx hb db_crash_45 rfl (lv_at hl 0 rfl) ?_
      obtain ⟨r8, h9, hf⟩ := obs hf
      refine rmI (cb_writtenWords (l := l) (hfl := hfl) h9) (cw_writtenWords hts ⟨by decide, by decide⟩) hx hb hml hown hts hK hB.1 hB.2.2 hZ hl.1 rfl rfl (lv_room (Nat.le_of_ble_eq_true rfl)) db_crash_46 ⟨by decide, by decide⟩ ?_
      cases hf
      refine W.widen (k := 2) (n := 12) (by decide) (by decide) ?_
      exact em_i hx hb hr hlk hB db_crash_49
    · have hf := ifn c5 hf
      cases hf
      exact mt_throw th_1_130 hX hl.1 db_crash_25 db_crash_28 db_crash_29 db_crash_31 db_crash_34 ⟨by decide, by decide⟩ ⟨by decide, by decide⟩ hB
  · have hf := ifp c4 hf
    cases hf
    exact mt_throw th_0_127 hX hl.1 db_crash_11 db_crash_14 db_crash_15 db_crash_17 db_crash_20 ⟨by decide, by decide⟩ ⟨by decide, by decide⟩ hB
set_option maxRecDepth 100000 in
set_option maxHeartbeats 4000000 in
theorem cb_crash {l : Launch} (hfl : l.flags = flags0) {D : va_G} {gm : Nat → Nat} {ca : Nat → ClassId} {st : BSt} {n : Nat} {x1 : Int32} {r : Int32 ⊕ Nat} {st' : BSt} (hf : fb_crash n st x1 = some (r, st')) : MM l yb_crash rmb_crash D gm ca [.int x1] st (xi r) st' :=
  MM.of hfl (by decide +kernel) rfl mcb_crash (fun p e s m below meth c A _ hX hB => wb_crash_0 hX hB n _ _ (lv_entry _ (Nat.le_of_ble_eq_true rfl)) hf)
set_option maxRecDepth 100000 in
set_option maxHeartbeats 4000000 in
theorem wb_greatestWhole_6 {p : Program} {l : Launch} {e : Env} {s : State} {m : MethodId} {args : Array Value} {below : List Frame} {meth : Method} {c : Code} {D : va_G} {gm : Nat → Nat} {ca : Nat → ClassId} {A : Nat → Prop} {st : BSt} (hX : BX p l e rmb_greatestWhole s m args meth c D ca A kb_greatestWhole 7 (some .int)) (hP : va_P D vwCl (wB gm ca st) s.heap) (n : Nat) :∀ (k : Nat), ∀ (x1 : Int64) (x3 : Int32) {r : Int32} (ls : Array Slot), lv_has ls 7 [(0, .ref (gm 0)), (1, .long x1), (3, .int x3)] → fb_greatestWhole_6 n k st x1 x3 = some r → W p l e rmb_greatestWhole s m args below meth c s.heap [] 0 0 (MQX below (xx_Q (XI r)) args s 0 0 (fun _ => False)) (F0 m 6 ls []) := by
  obtain ⟨hx, hb, hml, hr, hlk, hown, hts, hK, htr, hZ, hnh, hA, hfl⟩ := id hX
  intro k
  induction k with
  | zero =>
    intro x1 x3 r ls hl hf
    rw [fb_greatestWhole_6] at hf
    cases hf
  | succ k ih =>
    intro x1 x3 r ls hl hf
    rw [fb_greatestWhole_6] at hf
    refine lv_iload_n hx hb db_greatestWhole_6 rfl (lv_at hl 2 rfl) ?_
    refine lv_bipush (v := 8) hx hb db_greatestWhole_7 (by decide) ?_
    refine lv_icmp_ge (tgt := 78) hx hb db_greatestWhole_9 (by decide) (fun c1 => ?_) (fun c1 => ?_)
    · have hf := ifp c1 hf
      refine lv_lload_n hx hb db_greatestWhole_78 rfl (lv_at hl 1 rfl) ?_
      refine lv_l2i hx hb db_greatestWhole_79 rfl ?_
      cases hf
      exact er_i hx hb hr hlk db_greatestWhole_80
    · have hf := ifn c1 hf
      refine lv_aload_n hx hb db_greatestWhole_12 rfl (lv_at hl 0 rfl) ?_
      refine bg_roots hx hb hown hts hK hP db_greatestWhole_13 ?_
      refine lv_iload_n hx hb db_greatestWhole_16 rfl (lv_at hl 2 rfl) ?_
      refine lv_bipush (v := 20) hx hb db_greatestWhole_17 (by decide) ?_
      refine lv_imul hx hb db_greatestWhole_19 ?_
      obtain ⟨r2, er2, ir2, hf⟩ := rdL_some hf
      refine bl_roots hx hb hK hP ir2 er2 db_greatestWhole_20 ?_
      refine lv_lstore (lv' := [(4, .long r2), (0, .ref (gm 0)), (1, .long x1), (3, .int x3)]) hx hb db_greatestWhole_21 hl (by decide) rfl (fun ls hl => ?_)
      refine lv_lload hx hb db_greatestWhole_23 (lv_at hl 0 rfl) ?_
      refine lv_lload_n hx hb db_greatestWhole_25 rfl (lv_at hl 2 rfl) ?_
      refine W.lcmp hx hb db_greatestWhole_26 ?_
      refine lv_if_le (tgt := 43) hx hb db_greatestWhole_27 (by decide) (fun c3 => ?_) (fun c3 => ?_)
      · have hf := ifp c3 hf
        refine lv_iconst (v := 0) hx hb db_greatestWhole_43 (by decide) ?_
        refine lv_istore (lv' := [(6, .int 0), (4, .long r2), (0, .ref (gm 0)), (1, .long x1), (3, .int x3)]) hx hb db_greatestWhole_44 hl (by decide) rfl (fun ls hl => ?_)
        refine lv_iload hx hb db_greatestWhole_46 (lv_at hl 0 rfl) ?_
        refine lv_if_eq (tgt := 72) hx hb db_greatestWhole_48 (by decide) (fun c4 => ?_) (fun c4 => ?_)
        · have hf := ifp c4 hf
          refine lv_iinc (v := (x3 + 1)) (lv' := [(3, .int (x3 + 1)), (6, .int 0), (4, .long r2), (0, .ref (gm 0)), (1, .long x1)]) hx hb db_greatestWhole_72 hl (k := 4) rfl rfl (by decide) rfl (fun ls hl => ?_)
          refine lv_goto (tgt := 6) hx hb db_greatestWhole_75 (by decide) ?_
          exact ih _ _ _ (lv_sub hl [3, 4, 0] rfl) hf
        · have hf := ifn c4 hf
          refine lv_lload hx hb db_greatestWhole_51 (lv_at hl 1 rfl) ?_
          refine lv_l2i hx hb db_greatestWhole_53 rfl ?_
          obtain ⟨r5, h6, hf⟩ := obs hf
          refine smI (cb_rootOf (l := l) (hfl := hfl) h6) (cw_rootOf hts ⟨by decide, by decide⟩) hx hb hml hown hts hl.1 rfl rfl (lv_room (Nat.le_of_ble_eq_true rfl)) db_greatestWhole_54 ⟨by decide, by decide⟩ ?_
          refine lv_iload_n hx hb db_greatestWhole_57 rfl (lv_at hl 4 rfl) ?_
          refine lv_icmp_ne (tgt := 72) hx hb db_greatestWhole_58 (by decide) (fun c7 => ?_) (fun c7 => ?_)
          · have hf := ifn c7 hf
            refine lv_iinc (v := (x3 + 1)) (lv' := [(3, .int (x3 + 1)), (6, .int 0), (4, .long r2), (0, .ref (gm 0)), (1, .long x1)]) hx hb db_greatestWhole_72 hl (k := 4) rfl rfl (by decide) rfl (fun ls hl => ?_)
            refine lv_goto (tgt := 6) hx hb db_greatestWhole_75 (by decide) ?_
            exact ih _ _ _ (lv_sub hl [3, 4, 0] rfl) hf
          · have hf := ifp c7 hf
            refine lv_aload_n hx hb db_greatestWhole_61 rfl (lv_at hl 2 rfl) ?_
            refine lv_iload_n hx hb db_greatestWhole_62 rfl (lv_at hl 4 rfl) ?_
            obtain ⟨r8, h9, hf⟩ := obs hf
            refine rmI (cb_isRightRoot (l := l) (hfl := hfl) h9) (cw_isRightRoot hts ⟨by decide, by decide⟩) hx hb hml hown hts hK hP va_S.rf hZ hl.1 rfl rfl (lv_room (Nat.le_of_ble_eq_true rfl)) db_greatestWhole_63 ⟨by decide, by decide⟩ ?_
            refine lv_if_eq (tgt := 72) hx hb db_greatestWhole_66 (by decide) (fun c10 => ?_) (fun c10 => ?_)
            · have hf := ifp c10 hf
              refine lv_iinc (v := (x3 + 1)) (lv' := [(3, .int (x3 + 1)), (6, .int 0), (4, .long r2), (0, .ref (gm 0)), (1, .long x1)]) hx hb db_greatestWhole_72 hl (k := 4) rfl rfl (by decide) rfl (fun ls hl => ?_)
              refine lv_goto (tgt := 6) hx hb db_greatestWhole_75 (by decide) ?_
              exact ih _ _ _ (lv_sub hl [3, 4, 0] rfl) hf
            · have hf := ifn c10 hf
              refine lv_lload hx hb db_greatestWhole_69 (lv_at hl 1 rfl) ?_
              refine lv_lstore_n (lv' := [(1, .long r2), (6, .int 0), (4, .long r2), (0, .ref (gm 0)), (3, .int x3)]) hx hb db_greatestWhole_71 rfl hl (by decide) rfl (fun ls hl => ?_)
              refine lv_iinc (v := (x3 + 1)) (lv' := [(3, .int (x3 + 1)), (1, .long r2), (6, .int 0), (4, .long r2), (0, .ref (gm 0))]) hx hb db_greatestWhole_72 hl (k := 4) rfl rfl (by decide) rfl (fun ls hl => ?_)
              refine lv_goto (tgt := 6) hx hb db_greatestWhole_75 (by decide) ?_
              exact ih _ _ _ (lv_sub hl [4, 1, 0] rfl) hf
      · have hf := ifn c3 hf
        refine lv_lload hx hb db_greatestWhole_30 (lv_at hl 0 rfl) ?_
        refine lv_ldc2 (v := 1000000000) hx hb hown (kcb_225 hts) db_greatestWhole_32 ?_
        refine W.lcmp hx hb db_greatestWhole_35 ?_
        refine lv_if_gt (tgt := 43) hx hb db_greatestWhole_36 (by decide) (fun c11 => ?_) (fun c11 => ?_)
        · have hf := ifp c11 hf
          refine lv_iconst (v := 0) hx hb db_greatestWhole_43 (by decide) ?_
          refine lv_istore (lv' := [(6, .int 0), (4, .long r2), (0, .ref (gm 0)), (1, .long x1), (3, .int x3)]) hx hb db_greatestWhole_44 hl (by decide) rfl (fun ls hl => ?_)
          refine lv_iload hx hb db_greatestWhole_46 (lv_at hl 0 rfl) ?_
          refine lv_if_eq (tgt := 72) hx hb db_greatestWhole_48 (by decide) (fun c12 => ?_) (fun c12 => ?_)
          · have hf := ifp c12 hf
            refine lv_iinc (v := (x3 + 1)) (lv' := [(3, .int (x3 + 1)), (6, .int 0), (4, .long r2), (0, .ref (gm 0)), (1, .long x1)]) hx hb db_greatestWhole_72 hl (k := 4) rfl rfl (by decide) rfl (fun ls hl => ?_)
            refine lv_goto (tgt := 6) hx hb db_greatestWhole_75 (by decide) ?_
            exact ih _ _ _ (lv_sub hl [3, 4, 0] rfl) hf
          · have hf := ifn c12 hf
            refine lv_lload hx hb db_greatestWhole_51 (lv_at hl 1 rfl) ?_
            refine lv_l2i hx hb db_greatestWhole_53 rfl ?_
            obtain ⟨r13, h14, hf⟩ := obs hf
            refine smI (cb_rootOf (l := l) (hfl := hfl) h14) (cw_rootOf hts ⟨by decide, by decide⟩) hx hb hml hown hts hl.1 rfl rfl (lv_room (Nat.le_of_ble_eq_true rfl)) db_greatestWhole_54 ⟨by decide, by decide⟩ ?_
            refine lv_iload_n hx hb db_greatestWhole_57 rfl (lv_at hl 4 rfl) ?_
            refine lv_icmp_ne (tgt := 72) hx hb db_greatestWhole_58 (by decide) (fun c15 => ?_) (fun c15 => ?_)
            · have hf := ifn c15 hf
              refine lv_iinc (v := (x3 + 1)) (lv' := [(3, .int (x3 + 1)), (6, .int 0), (4, .long r2), (0, .ref (gm 0)), (1, .long x1)]) hx hb db_greatestWhole_72 hl (k := 4) rfl rfl (by decide) rfl (fun ls hl => ?_)
              refine lv_goto (tgt := 6) hx hb db_greatestWhole_75 (by decide) ?_
              exact ih _ _ _ (lv_sub hl [3, 4, 0] rfl) hf
            · have hf := ifp c15 hf
              refine lv_aload_n hx hb db_greatestWhole_61 rfl (lv_at hl 2 rfl) ?_
              refine lv_iload_n hx hb db_greatestWhole_62 rfl (lv_at hl 4 rfl) ?_
              obtain ⟨r16, h17, hf⟩ := obs hf
              refine rmI (cb_isRightRoot (l := l) (hfl := hfl) h17) (cw_isRightRoot hts ⟨by decide, by decide⟩) hx hb hml hown hts hK hP va_S.rf hZ hl.1 rfl rfl (lv_room (Nat.le_of_ble_eq_true rfl)) db_greatestWhole_63 ⟨by decide, by decide⟩ ?_
              refine lv_if_eq (tgt := 72) hx hb db_greatestWhole_66 (by decide) (fun c18 => ?_) (fun c18 => ?_)
              · have hf := ifp c18 hf
                refine lv_iinc (v := (x3 + 1)) (lv' := [(3, .int (x3 + 1)), (6, .int 0), (4, .long r2), (0, .ref (gm 0)), (1, .long x1)]) hx hb db_greatestWhole_72 hl (k := 4) rfl rfl (by decide) rfl (fun ls hl => ?_)
                refine lv_goto (tgt := 6) hx hb db_greatestWhole_75 (by decide) ?_
                exact ih _ _ _ (lv_sub hl [3, 4, 0] rfl) hf
              · have hf := ifn c18 hf
                refine lv_lload hx hb db_greatestWhole_69 (lv_at hl 1 rfl) ?_
                refine lv_lstore_n (lv' := [(1, .long r2), (6, .int 0), (4, .long r2), (0, .ref (gm 0)), (3, .int x3)]) hx hb db_greatestWhole_71 rfl hl (by decide) rfl (fun ls hl => ?_)
                refine lv_iinc (v := (x3 + 1)) (lv' := [(3, .int (x3 + 1)), (1, .long r2), (6, .int 0), (4, .long r2), (0, .ref (gm 0))]) hx hb db_greatestWhole_72 hl (k := 4) rfl rfl (by decide) rfl (fun ls hl => ?_)
                refine lv_goto (tgt := 6) hx hb db_greatestWhole_75 (by decide) ?_
                exact ih _ _ _ (lv_sub hl [4, 1, 0] rfl) hf
        · have hf := ifn c11 hf
          refine lv_iconst (v := 1) hx hb db_greatestWhole_39 (by decide) ?_
          refine lv_goto (tgt := 44) hx hb db_greatestWhole_40 (by decide) ?_
          refine lv_istore (lv' := [(6, .int 1), (4, .long r2), (0, .ref (gm 0)), (1, .long x1), (3, .int x3)]) hx hb db_greatestWhole_44 hl (by decide) rfl (fun ls hl => ?_)
          refine lv_iload hx hb db_greatestWhole_46 (lv_at hl 0 rfl) ?_
          refine lv_if_eq (tgt := 72) hx hb db_greatestWhole_48 (by decide) (fun c19 => ?_) (fun c19 => ?_)
          · have hf := ifp c19 hf
            refine lv_iinc (v := (x3 + 1)) (lv' := [(3, .int (x3 + 1)), (6, .int 1), (4, .long r2), (0, .ref (gm 0)), (1, .long x1)]) hx hb db_greatestWhole_72 hl (k := 4) rfl rfl (by decide) rfl (fun ls hl => ?_)
            refine lv_goto (tgt := 6) hx hb db_greatestWhole_75 (by decide) ?_
            exact ih _ _ _ (lv_sub hl [3, 4, 0] rfl) hf
          · have hf := ifn c19 hf
            refine lv_lload hx hb db_greatestWhole_51 (lv_at hl 1 rfl) ?_
            refine lv_l2i hx hb db_greatestWhole_53 rfl ?_
            obtain ⟨r20, h21, hf⟩ := obs hf
            refine smI (cb_rootOf (l := l) (hfl := hfl) h21) (cw_rootOf hts ⟨by decide, by decide⟩) hx hb hml hown hts hl.1 rfl rfl (lv_room (Nat.le_of_ble_eq_true rfl)) db_greatestWhole_54 ⟨by decide, by decide⟩ ?_
            refine lv_iload_n hx hb db_greatestWhole_57 rfl (lv_at hl 4 rfl) ?_
            refine lv_icmp_ne (tgt := 72) hx hb db_greatestWhole_58 (by decide) (fun c22 => ?_) (fun c22 => ?_)
            · have hf := ifn c22 hf
              refine lv_iinc (v := (x3 + 1)) (lv' := [(3, .int (x3 + 1)), (6, .int 1), (4, .long r2), (0, .ref (gm 0)), (1, .long x1)]) hx hb db_greatestWhole_72 hl (k := 4) rfl rfl (by decide) rfl (fun ls hl => ?_)
              refine lv_goto (tgt := 6) hx hb db_greatestWhole_75 (by decide) ?_
              exact ih _ _ _ (lv_sub hl [3, 4, 0] rfl) hf
            · have hf := ifp c22 hf
              refine lv_aload_n hx hb db_greatestWhole_61 rfl (lv_at hl 2 rfl) ?_
              refine lv_iload_n hx hb db_greatestWhole_62 rfl (lv_at hl 4 rfl) ?_
              obtain ⟨r23, h24, hf⟩ := obs hf
              refine rmI (cb_isRightRoot (l := l) (hfl := hfl) h24) (cw_isRightRoot hts ⟨by decide, by decide⟩) hx hb hml hown hts hK hP va_S.rf hZ hl.1 rfl rfl (lv_room (Nat.le_of_ble_eq_true rfl)) db_greatestWhole_63 ⟨by decide, by decide⟩ ?_
              refine lv_if_eq (tgt := 72) hx hb db_greatestWhole_66 (by decide) (fun c25 => ?_) (fun c25 => ?_)
              · have hf := ifp c25 hf
                refine lv_iinc (v := (x3 + 1)) (lv' := [(3, .int (x3 + 1)), (6, .int 1), (4, .long r2), (0, .ref (gm 0)), (1, .long x1)]) hx hb db_greatestWhole_72 hl (k := 4) rfl rfl (by decide) rfl (fun ls hl => ?_)
                refine lv_goto (tgt := 6) hx hb db_greatestWhole_75 (by decide) ?_
                exact ih _ _ _ (lv_sub hl [3, 4, 0] rfl) hf
              · have hf := ifn c25 hf
                refine lv_lload hx hb db_greatestWhole_69 (lv_at hl 1 rfl) ?_
                refine lv_lstore_n (lv' := [(1, .long r2), (6, .int 1), (4, .long r2), (0, .ref (gm 0)), (3, .int x3)]) hx hb db_greatestWhole_71 rfl hl (by decide) rfl (fun ls hl => ?_)
                refine lv_iinc (v := (x3 + 1)) (lv' := [(3, .int (x3 + 1)), (1, .long r2), (6, .int 1), (4, .long r2), (0, .ref (gm 0))]) hx hb db_greatestWhole_72 hl (k := 4) rfl rfl (by decide) rfl (fun ls hl => ?_)
                refine lv_goto (tgt := 6) hx hb db_greatestWhole_75 (by decide) ?_
                exact ih _ _ _ (lv_sub hl [4, 1, 0] rfl) hf
set_option maxRecDepth 100000 in
set_option maxHeartbeats 4000000 in
theorem wb_greatestWhole_0 {p : Program} {l : Launch} {e : Env} {s : State} {m : MethodId} {args : Array Value} {below : List Frame} {meth : Method} {c : Code} {D : va_G} {gm : Nat → Nat} {ca : Nat → ClassId} {A : Nat → Prop} {st : BSt} (hX : BX p l e rmb_greatestWhole s m args meth c D ca A kb_greatestWhole 7 (some .int)) (hP : va_P D vwCl (wB gm ca st) s.heap) (n : Nat) : ∀ {r : Int32} (ls : Array Slot), lv_has ls 7 [(0, .ref (gm 0))] → fb_greatestWhole n st = some r → W p l e rmb_greatestWhole s m args below meth c s.heap [] 0 0 (MQX below (xx_Q (XI r)) args s 0 0 (fun _ => False)) (F0 m 0 ls []) := by
  obtain ⟨hx, hb, hml, hr, hlk, hown, hts, hK, htr, hZ, hnh, hA, hfl⟩ := id hX
  intro r ls hl hf
  rw [fb_greatestWhole] at hf
  refine lv_ldc2 (v := (-1)) hx hb hown (kcb_190 hts) db_greatestWhole_0 ?_
  refine lv_lstore_n (lv' := [(1, .long (-1)), (0, .ref (gm 0))]) hx hb db_greatestWhole_3 rfl hl (by decide) rfl (fun ls hl => ?_)
  refine lv_iconst (v := 0) hx hb db_greatestWhole_4 (by decide) ?_
  refine lv_istore_n (lv' := [(3, .int 0), (1, .long (-1)), (0, .ref (gm 0))]) hx hb db_greatestWhole_5 rfl hl (by decide) rfl (fun ls hl => ?_)
  exact wb_greatestWhole_6 hX hP n n _ _ _ (lv_sub hl [2, 1, 0] rfl) hf
set_option maxRecDepth 100000 in
set_option maxHeartbeats 4000000 in
theorem cb_greatestWhole {l : Launch} (hfl : l.flags = flags0) {D : va_G} {gm : Nat → Nat} {ca : Nat → ClassId} {st : BSt} {n : Nat} {r : Int32} (hf : fb_greatestWhole n st = some r) : RM l yb_greatestWhole rmb_greatestWhole D gm ca [] st (XI r) :=
  RM.of hfl (by decide +kernel) rfl mcb_greatestWhole (fun p e s m below meth c hX hP => wb_greatestWhole_0 hX hP n _ (lv_entry _ (Nat.le_of_ble_eq_true rfl)) hf)
set_option maxRecDepth 100000 in
set_option maxHeartbeats 4000000 in
theorem wb_reopen_0 {p : Program} {l : Launch} {e : Env} {s : State} {m : MethodId} {args : Array Value} {below : List Frame} {meth : Method} {c : Code} {D : va_G} {gm : Nat → Nat} {ca : Nat → ClassId} {A : Nat → Prop} {st : BSt} (hX : BX p l e rmb_reopen s m args meth c D ca A kb_reopen 2 (some .int)) (hB : BWd D gm ca A s.heap st s.heap []) (n : Nat) : ∀ {r : Int32} {st' : BSt} (ls : Array Slot), lv_has ls 2 [(0, .ref (gm 0))] → fb_reopen n st = some (r, st') → W p l e rmb_reopen s m args below meth c s.heap [] 0 0 (MQX below (mm_Q D gm ca A (XI r) st') args s 0 0 A) (F0 m 0 ls []) := by
  obtain ⟨hx, hb, hml, hr, hlk, hown, hts, hK, htr, hZ, hnh, hA, hfl⟩ := id hX
  intro r st' ls hl hf
  rw [fb_reopen] at hf
  refine lv_aload_n hx hb db_reopen_0 rfl (lv_at hl 0 rfl) ?_
  obtain ⟨r1, h2, hf⟩ := obs hf
  refine rmI (cb_greatestWhole (l := l) (hfl := hfl) h2) (cw_greatestWhole hts ⟨by decide, by decide⟩) hx hb hml hown hts hK hB.1 hB.2.2 hZ hl.1 rfl rfl (lv_room (Nat.le_of_ble_eq_true rfl)) db_reopen_1 ⟨by decide, by decide⟩ ?_
  refine lv_istore_n (lv' := [(1, .int r1), (0, .ref (gm 0))]) hx hb db_reopen_4 rfl hl (by decide) rfl (fun ls hl => ?_)
  refine lv_iload_n hx hb db_reopen_5 rfl (lv_at hl 0 rfl) ?_
  refine lv_iconst (v := (-1)) hx hb db_reopen_6 (by decide) ?_
  refine lv_icmp_ne (tgt := 16) hx hb db_reopen_7 (by decide) (fun c3 => ?_) (fun c3 => ?_)
  · have hf := ifn c3 hf
    refine lv_aload_n hx hb db_reopen_16 rfl (lv_at hl 1 rfl) ?_
    refine lv_iload_n hx hb db_reopen_17 rfl (lv_at hl 0 rfl) ?_
    refine bp_newest hx hb hown hts hK hB db_reopen_18 (fun H locs hB => ?_)
    refine lv_aload_n hx hb db_reopen_21 rfl (lv_at hl 1 rfl) ?_
    refine lv_iconst (v := 0) hx hb db_reopen_22 (by decide) ?_
    refine bp_closed hx hb hown hts hK hB rfl rfl db_reopen_23 (fun H locs hB => ?_)
    refine lv_aload_n hx hb db_reopen_26 rfl (lv_at hl 1 rfl) ?_
    refine lv_iconst (v := 0) hx hb db_reopen_27 (by decide) ?_
    refine bp_canBeCut hx hb hown hts hK hB rfl rfl db_reopen_28 (fun H locs hB => ?_)
    refine lv_aload_n hx hb db_reopen_31 rfl (lv_at hl 1 rfl) ?_
    refine bg_newest hx hb hown hts hK hB.1 db_reopen_32 ?_
    cases hf
    exact em_i hx hb hr hlk hB db_reopen_35
  · have hf := ifp c3 hf
    refine lv_aload_n hx hb db_reopen_10 rfl (lv_at hl 1 rfl) ?_
    obtain ⟨st4, h5, hf⟩ := obs hf
    refine mmV (cb_makeRootZeroAnew (l := l) (hfl := hfl) h5) (cw_makeRootZeroAnew hts ⟨by decide, by decide⟩) hx hb hml hown hts hK hB hZ hA hl.1 rfl rfl (lv_room (Nat.le_of_ble_eq_true rfl)) db_reopen_11 ⟨by decide, by decide⟩ (fun H locs hB => ?_)
    refine lv_iconst (v := 0) hx hb db_reopen_14 (by decide) ?_
    refine lv_istore_n (lv' := [(1, .int 0), (0, .ref (gm 0))]) hx hb db_reopen_15 rfl hl (by decide) rfl (fun ls hl => ?_)
    refine lv_aload_n hx hb db_reopen_16 rfl (lv_at hl 1 rfl) ?_
    refine lv_iload_n hx hb db_reopen_17 rfl (lv_at hl 0 rfl) ?_
    refine bp_newest hx hb hown hts hK hB db_reopen_18 (fun H locs hB => ?_)
    refine lv_aload_n hx hb db_reopen_21 rfl (lv_at hl 1 rfl) ?_
    refine lv_iconst (v := 0) hx hb db_reopen_22 (by decide) ?_
    refine bp_closed hx hb hown hts hK hB rfl rfl db_reopen_23 (fun H locs hB => ?_)
    refine lv_aload_n hx hb db_reopen_26 rfl (lv_at hl 1 rfl) ?_
    refine lv_iconst (v := 0) hx hb db_reopen_27 (by decide) ?_
    refine bp_canBeCut hx hb hown hts hK hB rfl rfl db_reopen_28 (fun H locs hB => ?_)
    refine lv_aload_n hx hb db_reopen_31 rfl (lv_at hl 1 rfl) ?_
    refine bg_newest hx hb hown hts hK hB.1 db_reopen_32 ?_
    cases hf
    exact em_i hx hb hr hlk hB db_reopen_35
set_option maxRecDepth 100000 in
set_option maxHeartbeats 4000000 in
theorem cb_reopen {l : Launch} (hfl : l.flags = flags0) {D : va_G} {gm : Nat → Nat} {ca : Nat → ClassId} {st : BSt} {n : Nat} {r : Int32} {st' : BSt} (hf : fb_reopen n st = some (r, st')) : MM l yb_reopen rmb_reopen D gm ca [] st (XI r) st' :=
  MM.of hfl (by decide +kernel) rfl mcb_reopen (fun p e s m below meth c A _ hX hB => wb_reopen_0 hX hB n _ (lv_entry _ (Nat.le_of_ble_eq_true rfl)) hf)
set_option maxRecDepth 100000 in
set_option maxHeartbeats 4000000 in
theorem wb_requirePageWord_0 {p : Program} {l : Launch} {e : Env} {s : State} {m : MethodId} {args : Array Value} {below : List Frame} {meth : Method} {c : Code} {D : va_G} {gm : Nat → Nat} {ca : Nat → ClassId} {A : Nat → Prop} {st : BSt} (hX : BX p l e rmb_requirePageWord s m args meth c D ca A kb_requirePageWord 3 (none)) (hP : va_P D vwCl (wB gm ca st) s.heap) (n : Nat) : ∀ (x1 : Int32) (x2 : Int32) {r : Unit ⊕ Nat} (ls : Array Slot), lv_has ls 3 [(0, .ref (gm 0)), (1, .int x1), (2, .int x2)] → fb_requirePageWord n st x1 x2 = some r → W p l e rmb_requirePageWord s m args below meth c s.heap [] 0 0 (MQX below (xx_Q (xu r)) args s 1 6 (fun _ => False)) (F0 m 0 ls []) := by
  obtain ⟨hx, hb, hml, hr, hlk, hown, hts, hK, htr, hZ, hnh, hA, hfl⟩ := id hX
  intro x1 x2 r ls hl hf
  rw [fb_requirePageWord] at hf
  refine lv_iload_n hx hb db_requirePageWord_0 rfl (lv_at hl 1 rfl) ?_
  refine lv_if_lt (tgt := 22) hx hb db_requirePageWord_1 (by decide) (fun c1 => ?_) (fun c1 => ?_)
  · have hf := ifp c1 hf
    cases hf
    exact rt_throw th_2_180 hX hl.1 db_requirePageWord_22 db_requirePageWord_25 db_requirePageWord_26 db_requirePageWord_28 db_requirePageWord_31 ⟨by decide, by decide⟩ ⟨by decide, by decide⟩
  · have hf := ifn c1 hf
    refine lv_iload_n hx hb db_requirePageWord_4 rfl (lv_at hl 1 rfl) ?_
    refine lv_aload_n hx hb db_requirePageWord_5 rfl (lv_at hl 0 rfl) ?_
    refine bg_pageCount hx hb hown hts hK hP db_requirePageWord_6 ?_
    refine lv_icmp_ge (tgt := 22) hx hb db_requirePageWord_9 (by decide) (fun c2 => ?_) (fun c2 => ?_)
    · have hf := ifp c2 hf
      cases hf
      exact rt_throw th_2_180 hX hl.1 db_requirePageWord_22 db_requirePageWord_25 db_requirePageWord_26 db_requirePageWord_28 db_requirePageWord_31 ⟨by decide, by decide⟩ ⟨by decide, by decide⟩
    · have hf := ifn c2 hf
      refine lv_iload_n hx hb db_requirePageWord_12 rfl (lv_at hl 2 rfl) ?_
      refine lv_if_lt (tgt := 22) hx hb db_requirePageWord_13 (by decide) (fun c3 => ?_) (fun c3 => ?_)
      · have hf := ifp c3 hf
        cases hf
        exact rt_throw th_2_180 hX hl.1 db_requirePageWord_22 db_requirePageWord_25 db_requirePageWord_26 db_requirePageWord_28 db_requirePageWord_31 ⟨by decide, by decide⟩ ⟨by decide, by decide⟩
      · have hf := ifn c3 hf
        refine lv_iload_n hx hb db_requirePageWord_16 rfl (lv_at hl 2 rfl) ?_
        refine lv_bipush (v := 16) hx hb db_requirePageWord_17 (by decide) ?_
        refine lv_icmp_lt (tgt := 32) hx hb db_requirePageWord_19 (by decide) (fun c4 => ?_) (fun c4 => ?_)
        · have hf := ifp c4 hf
          cases hf
          refine W.widen (k := 1) (n := 6) (by decide) (by decide) ?_
          exact er_v hx hb hr hlk db_requirePageWord_32
        · have hf := ifn c4 hf
          cases hf
          exact rt_throw th_2_180 hX hl.1 db_requirePageWord_22 db_requirePageWord_25 db_requirePageWord_26 db_requirePageWord_28 db_requirePageWord_31 ⟨by decide, by decide⟩ ⟨by decide, by decide⟩
set_option maxRecDepth 100000 in
set_option maxHeartbeats 4000000 in
theorem cb_requirePageWord {l : Launch} (hfl : l.flags = flags0) {D : va_G} {gm : Nat → Nat} {ca : Nat → ClassId} {st : BSt} {n : Nat} {x1 : Int32} {x2 : Int32} {r : Unit ⊕ Nat} (hf : fb_requirePageWord n st x1 x2 = some r) : RM l yb_requirePageWord rmb_requirePageWord D gm ca [.int x1, .int x2] st (xu r) :=
  RM.of hfl (by decide +kernel) rfl mcb_requirePageWord (fun p e s m below meth c hX hP => wb_requirePageWord_0 hX hP n _ _ _ (lv_entry _ (Nat.le_of_ble_eq_true rfl)) hf)
set_option maxRecDepth 100000 in
set_option maxHeartbeats 4000000 in
theorem wb_wordAt_0 {p : Program} {l : Launch} {e : Env} {s : State} {m : MethodId} {args : Array Value} {below : List Frame} {meth : Method} {c : Code} {D : va_G} {gm : Nat → Nat} {ca : Nat → ClassId} {A : Nat → Prop} {st : BSt} (hX : BX p l e rmb_wordAt s m args meth c D ca A kb_wordAt 3 (some .long)) (hP : va_P D vwCl (wB gm ca st) s.heap) (n : Nat) : ∀ (x1 : Int32) (x2 : Int32) {r : Int64 ⊕ Nat} (ls : Array Slot), lv_has ls 3 [(0, .ref (gm 0)), (1, .int x1), (2, .int x2)] → fb_wordAt n st x1 x2 = some r → W p l e rmb_wordAt s m args below meth c s.heap [] 0 0 (MQX below (xx_Q (xl r)) args s 1 6 (fun _ => False)) (F0 m 0 ls []) := by
  obtain ⟨hx, hb, hml, hr, hlk, hown, hts, hK, htr, hZ, hnh, hA, hfl⟩ := id hX
  intro x1 x2 r ls hl hf
  rw [fb_wordAt] at hf
  refine lv_aload_n hx hb db_wordAt_0 rfl (lv_at hl 0 rfl) ?_
  refine lv_iload_n hx hb db_wordAt_1 rfl (lv_at hl 1 rfl) ?_
  refine lv_iload_n hx hb db_wordAt_2 rfl (lv_at hl 2 rfl) ?_
  rcases thn_some hf with ⟨r1, h2, hf⟩ | ⟨k3, h2, hf⟩
  rotate_left 1
  · cases hf
    refine rmT (cb_requirePageWord (l := l) (hfl := hfl) h2) (cw_requirePageWord hts ⟨by decide, by decide⟩) hx hb hml hown hts hK hP va_S.rf hZ hl.1 rfl rfl (lv_room (Nat.le_of_ble_eq_true rfl)) db_wordAt_3 ⟨by decide, by decide⟩ (fun x t h1 h2 h3 h4 h5 => ?_)
    exact rt_out hX h1 h2 h3 h4 h5
  refine rmV (cb_requirePageWord (l := l) (hfl := hfl) h2) (cw_requirePageWord hts ⟨by decide, by decide⟩) hx hb hml hown hts hK hP va_S.rf hZ hl.1 rfl rfl (lv_room (Nat.le_of_ble_eq_true rfl)) db_wordAt_3 ⟨by decide, by decide⟩ ?_
  refine lv_aload_n hx hb db_wordAt_6 rfl (lv_at hl 0 rfl) ?_
  refine bg_pages hx hb hown hts hK hP db_wordAt_7 ?_
  refine lv_iload_n hx hb db_wordAt_10 rfl (lv_at hl 1 rfl) ?_
  refine lv_bipush (v := 16) hx hb db_wordAt_11 (by decide) ?_
  refine lv_imul hx hb db_wordAt_13 ?_
  refine lv_iload_n hx hb db_wordAt_14 rfl (lv_at hl 2 rfl) ?_
  refine lv_iadd hx hb db_wordAt_15 ?_
  obtain ⟨r4, er4, ir4, hf⟩ := rdL_some hf
  refine bl_pages hx hb hK hP ir4 er4 db_wordAt_16 ?_
  cases hf
  exact er_l hx hb hr hlk db_wordAt_17
set_option maxRecDepth 100000 in
set_option maxHeartbeats 4000000 in
theorem cb_wordAt {l : Launch} (hfl : l.flags = flags0) {D : va_G} {gm : Nat → Nat} {ca : Nat → ClassId} {st : BSt} {n : Nat} {x1 : Int32} {x2 : Int32} {r : Int64 ⊕ Nat} (hf : fb_wordAt n st x1 x2 = some r) : RM l yb_wordAt rmb_wordAt D gm ca [.int x1, .int x2] st (xl r) :=
  RM.of hfl (by decide +kernel) rfl mcb_wordAt (fun p e s m below meth c hX hP => wb_wordAt_0 hX hP n _ _ _ (lv_entry _ (Nat.le_of_ble_eq_true rfl)) hf)
set_option maxRecDepth 100000 in
set_option maxHeartbeats 4000000 in
theorem wb_requireRootWord_0 {p : Program} {l : Launch} {e : Env} {s : State} {m : MethodId} {args : Array Value} {below : List Frame} {meth : Method} {c : Code} {D : va_G} {gm : Nat → Nat} {ca : Nat → ClassId} {A : Nat → Prop} {st : BSt} (hX : BX p l e rmb_requireRootWord s m args meth c D ca A kb_requireRootWord 3 (none)) (hP : va_P D vwCl (wB gm ca st) s.heap) (n : Nat) : ∀ (x1 : Int32) (x2 : Int32) {r : Unit ⊕ Nat} (ls : Array Slot), lv_has ls 3 [(0, .ref (gm 0)), (1, .int x1), (2, .int x2)] → fb_requireRootWord n st x1 x2 = some r → W p l e rmb_requireRootWord s m args below meth c s.heap [] 0 0 (MQX below (xx_Q (xu r)) args s 1 6 (fun _ => False)) (F0 m 0 ls []) := by
  obtain ⟨hx, hb, hml, hr, hlk, hown, hts, hK, htr, hZ, hnh, hA, hfl⟩ := id hX
  intro x1 x2 r ls hl hf
  rw [fb_requireRootWord] at hf
  refine lv_iload_n hx hb db_requireRootWord_0 rfl (lv_at hl 1 rfl) ?_
  refine lv_if_lt (tgt := 20) hx hb db_requireRootWord_1 (by decide) (fun c1 => ?_) (fun c1 => ?_)
  · have hf := ifp c1 hf
    cases hf
    exact rt_throw th_2_182 hX hl.1 db_requireRootWord_20 db_requireRootWord_23 db_requireRootWord_24 db_requireRootWord_26 db_requireRootWord_29 ⟨by decide, by decide⟩ ⟨by decide, by decide⟩
  · have hf := ifn c1 hf
    refine lv_iload_n hx hb db_requireRootWord_4 rfl (lv_at hl 1 rfl) ?_
    refine lv_bipush (v := 8) hx hb db_requireRootWord_5 (by decide) ?_
    refine lv_icmp_ge (tgt := 20) hx hb db_requireRootWord_7 (by decide) (fun c2 => ?_) (fun c2 => ?_)
    · have hf := ifp c2 hf
      cases hf
      exact rt_throw th_2_182 hX hl.1 db_requireRootWord_20 db_requireRootWord_23 db_requireRootWord_24 db_requireRootWord_26 db_requireRootWord_29 ⟨by decide, by decide⟩ ⟨by decide, by decide⟩
    · have hf := ifn c2 hf
      refine lv_iload_n hx hb db_requireRootWord_10 rfl (lv_at hl 2 rfl) ?_
      refine lv_if_lt (tgt := 20) hx hb db_requireRootWord_11 (by decide) (fun c3 => ?_) (fun c3 => ?_)
      · have hf := ifp c3 hf
        cases hf
        exact rt_throw th_2_182 hX hl.1 db_requireRootWord_20 db_requireRootWord_23 db_requireRootWord_24 db_requireRootWord_26 db_requireRootWord_29 ⟨by decide, by decide⟩ ⟨by decide, by decide⟩
      · have hf := ifn c3 hf
        refine lv_iload_n hx hb db_requireRootWord_14 rfl (lv_at hl 2 rfl) ?_
        refine lv_bipush (v := 20) hx hb db_requireRootWord_15 (by decide) ?_
        refine lv_icmp_lt (tgt := 30) hx hb db_requireRootWord_17 (by decide) (fun c4 => ?_) (fun c4 => ?_)
        · have hf := ifp c4 hf
          cases hf
          refine W.widen (k := 1) (n := 6) (by decide) (by decide) ?_
          exact er_v hx hb hr hlk db_requireRootWord_30
        · have hf := ifn c4 hf
          cases hf
          exact rt_throw th_2_182 hX hl.1 db_requireRootWord_20 db_requireRootWord_23 db_requireRootWord_24 db_requireRootWord_26 db_requireRootWord_29 ⟨by decide, by decide⟩ ⟨by decide, by decide⟩
set_option maxRecDepth 100000 in
set_option maxHeartbeats 4000000 in
theorem cb_requireRootWord {l : Launch} (hfl : l.flags = flags0) {D : va_G} {gm : Nat → Nat} {ca : Nat → ClassId} {st : BSt} {n : Nat} {x1 : Int32} {x2 : Int32} {r : Unit ⊕ Nat} (hf : fb_requireRootWord n st x1 x2 = some r) : RM l yb_requireRootWord rmb_requireRootWord D gm ca [.int x1, .int x2] st (xu r) :=
  RM.of hfl (by decide +kernel) rfl mcb_requireRootWord (fun p e s m below meth c hX hP => wb_requireRootWord_0 hX hP n _ _ _ (lv_entry _ (Nat.le_of_ble_eq_true rfl)) hf)
set_option maxRecDepth 100000 in
set_option maxHeartbeats 4000000 in
theorem wb_rootAt_0 {p : Program} {l : Launch} {e : Env} {s : State} {m : MethodId} {args : Array Value} {below : List Frame} {meth : Method} {c : Code} {D : va_G} {gm : Nat → Nat} {ca : Nat → ClassId} {A : Nat → Prop} {st : BSt} (hX : BX p l e rmb_rootAt s m args meth c D ca A kb_rootAt 3 (some .long)) (hP : va_P D vwCl (wB gm ca st) s.heap) (n : Nat) : ∀ (x1 : Int32) (x2 : Int32) {r : Int64 ⊕ Nat} (ls : Array Slot), lv_has ls 3 [(0, .ref (gm 0)), (1, .int x1), (2, .int x2)] → fb_rootAt n st x1 x2 = some r → W p l e rmb_rootAt s m args below meth c s.heap [] 0 0 (MQX below (xx_Q (xl r)) args s 1 6 (fun _ => False)) (F0 m 0 ls []) := by
  obtain ⟨hx, hb, hml, hr, hlk, hown, hts, hK, htr, hZ, hnh, hA, hfl⟩ := id hX
  intro x1 x2 r ls hl hf
  rw [fb_rootAt] at hf
  refine lv_aload_n hx hb db_rootAt_0 rfl (lv_at hl 0 rfl) ?_
  refine lv_iload_n hx hb db_rootAt_1 rfl (lv_at hl 1 rfl) ?_
  refine lv_iload_n hx hb db_rootAt_2 rfl (lv_at hl 2 rfl) ?_
  rcases thn_some hf with ⟨r1, h2, hf⟩ | ⟨k3, h2, hf⟩
  rotate_left 1
  · cases hf
    refine rmT (cb_requireRootWord (l := l) (hfl := hfl) h2) (cw_requireRootWord hts ⟨by decide, by decide⟩) hx hb hml hown hts hK hP va_S.rf hZ hl.1 rfl rfl (lv_room (Nat.le_of_ble_eq_true rfl)) db_rootAt_3 ⟨by decide, by decide⟩ (fun x t h1 h2 h3 h4 h5 => ?_)
    exact rt_out hX h1 h2 h3 h4 h5
  refine rmV (cb_requireRootWord (l := l) (hfl := hfl) h2) (cw_requireRootWord hts ⟨by decide, by decide⟩) hx hb hml hown hts hK hP va_S.rf hZ hl.1 rfl rfl (lv_room (Nat.le_of_ble_eq_true rfl)) db_rootAt_3 ⟨by decide, by decide⟩ ?_
  refine lv_aload_n hx hb db_rootAt_6 rfl (lv_at hl 0 rfl) ?_
  refine bg_roots hx hb hown hts hK hP db_rootAt_7 ?_
  refine lv_iload_n hx hb db_rootAt_10 rfl (lv_at hl 1 rfl) ?_
  refine lv_bipush (v := 20) hx hb db_rootAt_11 (by decide) ?_
  refine lv_imul hx hb db_rootAt_13 ?_
  refine lv_iload_n hx hb db_rootAt_14 rfl (lv_at hl 2 rfl) ?_
  refine lv_iadd hx hb db_rootAt_15 ?_
  obtain ⟨r4, er4, ir4, hf⟩ := rdL_some hf
  refine bl_roots hx hb hK hP ir4 er4 db_rootAt_16 ?_
  cases hf
  exact er_l hx hb hr hlk db_rootAt_17
set_option maxRecDepth 100000 in
set_option maxHeartbeats 4000000 in
theorem cb_rootAt {l : Launch} (hfl : l.flags = flags0) {D : va_G} {gm : Nat → Nat} {ca : Nat → ClassId} {st : BSt} {n : Nat} {x1 : Int32} {x2 : Int32} {r : Int64 ⊕ Nat} (hf : fb_rootAt n st x1 x2 = some r) : RM l yb_rootAt rmb_rootAt D gm ca [.int x1, .int x2] st (xl r) :=
  RM.of hfl (by decide +kernel) rfl mcb_rootAt (fun p e s m below meth c hX hP => wb_rootAt_0 hX hP n _ _ _ (lv_entry _ (Nat.le_of_ble_eq_true rfl)) hf)
set_option maxRecDepth 100000 in
set_option maxHeartbeats 4000000 in
theorem wb_requireMask_0 {p : Program} {l : Launch} {e : Env} {s : State} {m : MethodId} {args : Array Value} {below : List Frame} {meth : Method} {c : Code} {D : va_G} {gm : Nat → Nat} {ca : Nat → ClassId} {A : Nat → Prop} {st : BSt} (hX : BX p l e rmb_requireMask s m args meth c D ca A kb_requireMask 3 (none)) (hP : va_P D vwCl (wB gm ca st) s.heap) (n : Nat) : ∀ (x1 : Int64) {r : Unit ⊕ Nat} (ls : Array Slot), lv_has ls 3 [(0, .ref (gm 0)), (1, .long x1)] → fb_requireMask n st x1 = some r → W p l e rmb_requireMask s m args below meth c s.heap [] 0 0 (MQX below (xx_Q (xu r)) args s 1 6 (fun _ => False)) (F0 m 0 ls []) := by
  obtain ⟨hx, hb, hml, hr, hlk, hown, hts, hK, htr, hZ, hnh, hA, hfl⟩ := id hX
  intro x1 r ls hl hf
  rw [fb_requireMask] at hf
  refine lv_lload_n hx hb db_requireMask_0 rfl (lv_at hl 1 rfl) ?_
  refine lv_lconst (v := 0) hx hb db_requireMask_1 (by decide) ?_
  refine W.lcmp hx hb db_requireMask_2 ?_
  refine lv_if_ne (tgt := 16) hx hb db_requireMask_3 (by decide) (fun c1 => ?_) (fun c1 => ?_)
  · have hf := ifn c1 hf
    cases hf
    refine W.widen (k := 1) (n := 6) (by decide) (by decide) ?_
    exact er_v hx hb hr hlk db_requireMask_16
  · have hf := ifp c1 hf
    cases hf
    exact rt_throw th_1_184 hX hl.1 db_requireMask_6 db_requireMask_9 db_requireMask_10 db_requireMask_12 db_requireMask_15 ⟨by decide, by decide⟩ ⟨by decide, by decide⟩
set_option maxRecDepth 100000 in
set_option maxHeartbeats 4000000 in
theorem cb_requireMask {l : Launch} (hfl : l.flags = flags0) {D : va_G} {gm : Nat → Nat} {ca : Nat → ClassId} {st : BSt} {n : Nat} {x1 : Int64} {r : Unit ⊕ Nat} (hf : fb_requireMask n st x1 = some r) : RM l yb_requireMask rmb_requireMask D gm ca [.long x1] st (xu r) :=
  RM.of hfl (by decide +kernel) rfl mcb_requireMask (fun p e s m below meth c hX hP => wb_requireMask_0 hX hP n _ _ (lv_entry _ (Nat.le_of_ble_eq_true rfl)) hf)
set_option maxRecDepth 100000 in
set_option maxHeartbeats 4000000 in
theorem wb_poke_0 {p : Program} {l : Launch} {e : Env} {s : State} {m : MethodId} {args : Array Value} {below : List Frame} {meth : Method} {c : Code} {D : va_G} {gm : Nat → Nat} {ca : Nat → ClassId} {A : Nat → Prop} {st : BSt} (hX : BX p l e rmb_poke s m args meth c D ca A kb_poke 5 (none)) (hB : BWd D gm ca A s.heap st s.heap []) (n : Nat) : ∀ (x1 : Int32) (x2 : Int32) (x3 : Int64) {r : Unit ⊕ Nat} {st' : BSt} (ls : Array Slot), lv_has ls 5 [(0, .ref (gm 0)), (1, .int x1), (2, .int x2), (3, .long x3)] → fb_poke n st x1 x2 x3 = some (r, st') → W p l e rmb_poke s m args below meth c s.heap [] 0 0 (MQX below (mm_Q D gm ca A (xu r) st') args s 2 12 A) (F0 m 0 ls []) := by
  obtain ⟨hx, hb, hml, hr, hlk, hown, hts, hK, htr, hZ, hnh, hA, hfl⟩ := id hX
  intro x1 x2 x3 r st' ls hl hf
  rw [fb_poke] at hf
  refine lv_aload_n hx hb db_poke_0 rfl (lv_at hl 0 rfl) ?_
  refine lv_iload_n hx hb db_poke_1 rfl (lv_at hl 1 rfl) ?_
  refine lv_iload_n hx hb db_poke_2 rfl (lv_at hl 2 rfl) ?_
  rcases thnS_some hf with ⟨r1, h2, hf⟩ | ⟨k3, h2, hf⟩
  rotate_left 1
  · cases hf
    refine rmT (cb_requirePageWord (l := l) (hfl := hfl) h2) (cw_requirePageWord hts ⟨by decide, by decide⟩) hx hb hml hown hts hK hB.1 hB.2.2 hZ hl.1 rfl rfl (lv_room (Nat.le_of_ble_eq_true rfl)) db_poke_3 ⟨by decide, by decide⟩ (fun x t h1 h2 h3 h4 h5 => ?_)
    refine WT.widen (k := 2) (n := 12) (by decide) (by decide) ?_
    exact mt_outR hX hB h1 h2 h3 h4 h5
  refine rmV (cb_requirePageWord (l := l) (hfl := hfl) h2) (cw_requirePageWord hts ⟨by decide, by decide⟩) hx hb hml hown hts hK hB.1 hB.2.2 hZ hl.1 rfl rfl (lv_room (Nat.le_of_ble_eq_true rfl)) db_poke_3 ⟨by decide, by decide⟩ ?_
  refine lv_aload_n hx hb db_poke_6 rfl (lv_at hl 0 rfl) ?_
  refine lv_lload_n hx hb db_poke_7 rfl (lv_at hl 3 rfl) ?_
  rcases thnS_some hf with ⟨r4, h5, hf⟩ | ⟨k6, h5, hf⟩
  rotate_left 1
  · cases hf
    refine rmT (cb_requireMask (l := l) (hfl := hfl) h5) (cw_requireMask hts ⟨by decide, by decide⟩) hx hb hml hown hts hK hB.1 hB.2.2 hZ hl.1 rfl rfl (lv_room (Nat.le_of_ble_eq_true rfl)) db_poke_8 ⟨by decide, by decide⟩ (fun x t h1 h2 h3 h4 h5 => ?_)
    exact mt_outR hX hB h1 h2 h3 h4 h5
  refine rmV (cb_requireMask (l := l) (hfl := hfl) h5) (cw_requireMask hts ⟨by decide, by decide⟩) hx hb hml hown hts hK hB.1 hB.2.2 hZ hl.1 rfl rfl (lv_room (Nat.le_of_ble_eq_true rfl)) db_poke_8 ⟨by decide, by decide⟩ ?_
  refine lv_aload_n hx hb db_poke_11 rfl (lv_at hl 0 rfl) ?_
  refine bg_pages hx hb hown hts hK hB.1 db_poke_12 ?_
  refine lv_iload_n hx hb db_poke_15 rfl (lv_at hl 1 rfl) ?_
  refine lv_bipush (v := 16) hx hb db_poke_16 (by decide) ?_
  refine lv_imul hx hb db_poke_18 ?_
  refine lv_iload_n hx hb db_poke_19 rfl (lv_at hl 2 rfl) ?_
  refine lv_iadd hx hb db_poke_20 ?_
  refine lv_dup2_11 hx hb db_poke_21 rfl rfl ?_
  obtain ⟨r7, er7, ir7, hf⟩ := rdL_some hf
  refine bl_pages hx hb hK hB.1 ir7 er7 db_poke_22 ?_
  refine lv_lload_n hx hb db_poke_23 rfl (lv_at hl 3 rfl) ?_
  refine lv_lxor hx hb db_poke_24 ?_
  obtain ⟨a8, ea8, ia8, hf⟩ := wrL_some hf
  refine bt_pages hx hb hK hB ia8 ea8 db_poke_25 (fun H locs hB => ?_)
  refine lv_aload_n hx hb db_poke_26 rfl (lv_at hl 0 rfl) ?_
  refine lv_iconst (v := 0) hx hb db_poke_27 (by decide) ?_
  refine bp_canBeCut hx hb hown hts hK hB rfl rfl db_poke_28 (fun H locs hB => ?_)
  cases hf
  exact em_v hx hb hr hlk hB db_poke_31
set_option maxRecDepth 100000 in
set_option maxHeartbeats 4000000 in
theorem cb_poke {l : Launch} (hfl : l.flags = flags0) {D : va_G} {gm : Nat → Nat} {ca : Nat → ClassId} {st : BSt} {n : Nat} {x1 : Int32} {x2 : Int32} {x3 : Int64} {r : Unit ⊕ Nat} {st' : BSt} (hf : fb_poke n st x1 x2 x3 = some (r, st')) : MM l yb_poke rmb_poke D gm ca [.int x1, .int x2, .long x3] st (xu r) st' :=
  MM.of hfl (by decide +kernel) rfl mcb_poke (fun p e s m below meth c A _ hX hB => wb_poke_0 hX hB n _ _ _ _ (lv_entry _ (Nat.le_of_ble_eq_true rfl)) hf)
set_option maxRecDepth 100000 in
set_option maxHeartbeats 4000000 in
theorem wb_pokeRoot_0 {p : Program} {l : Launch} {e : Env} {s : State} {m : MethodId} {args : Array Value} {below : List Frame} {meth : Method} {c : Code} {D : va_G} {gm : Nat → Nat} {ca : Nat → ClassId} {A : Nat → Prop} {st : BSt} (hX : BX p l e rmb_pokeRoot s m args meth c D ca A kb_pokeRoot 5 (none)) (hB : BWd D gm ca A s.heap st s.heap []) (n : Nat) : ∀ (x1 : Int32) (x2 : Int32) (x3 : Int64) {r : Unit ⊕ Nat} {st' : BSt} (ls : Array Slot), lv_has ls 5 [(0, .ref (gm 0)), (1, .int x1), (2, .int x2), (3, .long x3)] → fb_pokeRoot n st x1 x2 x3 = some (r, st') → W p l e rmb_pokeRoot s m args below meth c s.heap [] 0 0 (MQX below (mm_Q D gm ca A (xu r) st') args s 2 12 A) (F0 m 0 ls []) := by
  obtain ⟨hx, hb, hml, hr, hlk, hown, hts, hK, htr, hZ, hnh, hA, hfl⟩ := id hX
  intro x1 x2 x3 r st' ls hl hf
  rw [fb_pokeRoot] at hf
  refine lv_aload_n hx hb db_pokeRoot_0 rfl (lv_at hl 0 rfl) ?_
  refine lv_iload_n hx hb db_pokeRoot_1 rfl (lv_at hl 1 rfl) ?_
  refine lv_iload_n hx hb db_pokeRoot_2 rfl (lv_at hl 2 rfl) ?_
  rcases thnS_some hf with ⟨r1, h2, hf⟩ | ⟨k3, h2, hf⟩
  rotate_left 1
  · cases hf
    refine rmT (cb_requireRootWord (l := l) (hfl := hfl) h2) (cw_requireRootWord hts ⟨by decide, by decide⟩) hx hb hml hown hts hK hB.1 hB.2.2 hZ hl.1 rfl rfl (lv_room (Nat.le_of_ble_eq_true rfl)) db_pokeRoot_3 ⟨by decide, by decide⟩ (fun x t h1 h2 h3 h4 h5 => ?_)
    refine WT.widen (k := 2) (n := 12) (by decide) (by decide) ?_
    exact mt_outR hX hB h1 h2 h3 h4 h5
  refine rmV (cb_requireRootWord (l := l) (hfl := hfl) h2) (cw_requireRootWord hts ⟨by decide, by decide⟩) hx hb hml hown hts hK hB.1 hB.2.2 hZ hl.1 rfl rfl (lv_room (Nat.le_of_ble_eq_true rfl)) db_pokeRoot_3 ⟨by decide, by decide⟩ ?_
  refine lv_aload_n hx hb db_pokeRoot_6 rfl (lv_at hl 0 rfl) ?_
  refine lv_lload_n hx hb db_pokeRoot_7 rfl (lv_at hl 3 rfl) ?_
  rcases thnS_some hf with ⟨r4, h5, hf⟩ | ⟨k6, h5, hf⟩
  rotate_left 1
  · cases hf
    refine rmT (cb_requireMask (l := l) (hfl := hfl) h5) (cw_requireMask hts ⟨by decide, by decide⟩) hx hb hml hown hts hK hB.1 hB.2.2 hZ hl.1 rfl rfl (lv_room (Nat.le_of_ble_eq_true rfl)) db_pokeRoot_8 ⟨by decide, by decide⟩ (fun x t h1 h2 h3 h4 h5 => ?_)
    exact mt_outR hX hB h1 h2 h3 h4 h5
  refine rmV (cb_requireMask (l := l) (hfl := hfl) h5) (cw_requireMask hts ⟨by decide, by decide⟩) hx hb hml hown hts hK hB.1 hB.2.2 hZ hl.1 rfl rfl (lv_room (Nat.le_of_ble_eq_true rfl)) db_pokeRoot_8 ⟨by decide, by decide⟩ ?_
  refine lv_aload_n hx hb db_pokeRoot_11 rfl (lv_at hl 0 rfl) ?_
  refine bg_roots hx hb hown hts hK hB.1 db_pokeRoot_12 ?_
  refine lv_iload_n hx hb db_pokeRoot_15 rfl (lv_at hl 1 rfl) ?_
  refine lv_bipush (v := 20) hx hb db_pokeRoot_16 (by decide) ?_
  refine lv_imul hx hb db_pokeRoot_18 ?_
  refine lv_iload_n hx hb db_pokeRoot_19 rfl (lv_at hl 2 rfl) ?_
  refine lv_iadd hx hb db_pokeRoot_20 ?_
  refine lv_dup2_11 hx hb db_pokeRoot_21 rfl rfl ?_
  obtain ⟨r7, er7, ir7, hf⟩ := rdL_some hf
  refine bl_roots hx hb hK hB.1 ir7 er7 db_pokeRoot_22 ?_
  refine lv_lload_n hx hb db_pokeRoot_23 rfl (lv_at hl 3 rfl) ?_
  refine lv_lxor hx hb db_pokeRoot_24 ?_
  obtain ⟨a8, ea8, ia8, hf⟩ := wrL_some hf
  refine bt_roots hx hb hK hB ia8 ea8 db_pokeRoot_25 (fun H locs hB => ?_)
  refine lv_aload_n hx hb db_pokeRoot_26 rfl (lv_at hl 0 rfl) ?_
  refine lv_iconst (v := 0) hx hb db_pokeRoot_27 (by decide) ?_
  refine bp_canBeCut hx hb hown hts hK hB rfl rfl db_pokeRoot_28 (fun H locs hB => ?_)
  cases hf
  exact em_v hx hb hr hlk hB db_pokeRoot_31
set_option maxRecDepth 100000 in
set_option maxHeartbeats 4000000 in
theorem cb_pokeRoot {l : Launch} (hfl : l.flags = flags0) {D : va_G} {gm : Nat → Nat} {ca : Nat → ClassId} {st : BSt} {n : Nat} {x1 : Int32} {x2 : Int32} {x3 : Int64} {r : Unit ⊕ Nat} {st' : BSt} (hf : fb_pokeRoot n st x1 x2 x3 = some (r, st')) : MM l yb_pokeRoot rmb_pokeRoot D gm ca [.int x1, .int x2, .long x3] st (xu r) st' :=
  MM.of hfl (by decide +kernel) rfl mcb_pokeRoot (fun p e s m below meth c A _ hX hB => wb_pokeRoot_0 hX hB n _ _ _ _ (lv_entry _ (Nat.le_of_ble_eq_true rfl)) hf)
set_option maxRecDepth 100000 in
set_option maxHeartbeats 4000000 in
theorem wb_isBlankRoot_7 {p : Program} {l : Launch} {e : Env} {s : State} {m : MethodId} {args : Array Value} {below : List Frame} {meth : Method} {c : Code} {D : va_G} {gm : Nat → Nat} {ca : Nat → ClassId} {A : Nat → Prop} {st : BSt} (hX : BX p l e rmb_isBlankRoot s m args meth c D ca A kb_isBlankRoot 4 (some .boolean)) (hP : va_P D vwCl (wB gm ca st) s.heap) (n : Nat) :∀ (k : Nat), ∀ (x2 : Int32) (x3 : Int32) {r : Int32} (ls : Array Slot), lv_has ls 4 [(0, .ref (gm 0)), (2, .int x2), (3, .int x3)] → fb_isBlankRoot_7 n k st x2 x3 = some r → W p l e rmb_isBlankRoot s m args below meth c s.heap [] 0 0 (MQX below (xx_Q (XI r)) args s 0 0 (fun _ => False)) (F0 m 7 ls []) := by
  obtain ⟨hx, hb, hml, hr, hlk, hown, hts, hK, htr, hZ, hnh, hA, hfl⟩ := id hX
  intro k
  induction k with
  | zero =>
    intro x2 x3 r ls hl hf
    rw [fb_isBlankRoot_7] at hf
    cases hf
  | succ k ih =>
    intro x2 x3 r ls hl hf
    rw [fb_isBlankRoot_7] at hf
    refine lv_iload_n hx hb db_isBlankRoot_7 rfl (lv_at hl 2 rfl) ?_
    refine lv_bipush (v := 19) hx hb db_isBlankRoot_8 (by decide) ?_
    refine lv_icmp_ge (tgt := 34) hx hb db_isBlankRoot_10 (by decide) (fun c1 => ?_) (fun c1 => ?_)
    · have hf := ifp c1 hf
      refine lv_iconst (v := 1) hx hb db_isBlankRoot_34 (by decide) ?_
      cases hf
      exact er_z hx hb hr hlk rfl db_isBlankRoot_35
    · have hf := ifn c1 hf
      refine lv_aload_n hx hb db_isBlankRoot_13 rfl (lv_at hl 0 rfl) ?_
      refine bg_roots hx hb hown hts hK hP db_isBlankRoot_14 ?_
      refine lv_iload_n hx hb db_isBlankRoot_17 rfl (lv_at hl 1 rfl) ?_
      refine lv_iload_n hx hb db_isBlankRoot_18 rfl (lv_at hl 2 rfl) ?_
      refine lv_iadd hx hb db_isBlankRoot_19 ?_
      obtain ⟨r2, er2, ir2, hf⟩ := rdL_some hf
      refine bl_roots hx hb hK hP ir2 er2 db_isBlankRoot_20 ?_
      refine lv_lconst (v := 0) hx hb db_isBlankRoot_21 (by decide) ?_
      refine W.lcmp hx hb db_isBlankRoot_22 ?_
      refine lv_if_eq (tgt := 28) hx hb db_isBlankRoot_23 (by decide) (fun c3 => ?_) (fun c3 => ?_)
      · have hf := ifp c3 hf
        refine lv_iinc (v := (x3 + 1)) (lv' := [(3, .int (x3 + 1)), (0, .ref (gm 0)), (2, .int x2)]) hx hb db_isBlankRoot_28 hl (k := 2) rfl rfl (by decide) rfl (fun ls hl => ?_)
        refine lv_goto (tgt := 7) hx hb db_isBlankRoot_31 (by decide) ?_
        exact ih _ _ _ (lv_sub hl [1, 2, 0] rfl) hf
      · have hf := ifn c3 hf
        refine lv_iconst (v := 0) hx hb db_isBlankRoot_26 (by decide) ?_
        cases hf
        exact er_z hx hb hr hlk rfl db_isBlankRoot_27
set_option maxRecDepth 100000 in
set_option maxHeartbeats 4000000 in
theorem wb_isBlankRoot_0 {p : Program} {l : Launch} {e : Env} {s : State} {m : MethodId} {args : Array Value} {below : List Frame} {meth : Method} {c : Code} {D : va_G} {gm : Nat → Nat} {ca : Nat → ClassId} {A : Nat → Prop} {st : BSt} (hX : BX p l e rmb_isBlankRoot s m args meth c D ca A kb_isBlankRoot 4 (some .boolean)) (hP : va_P D vwCl (wB gm ca st) s.heap) (n : Nat) : ∀ (x1 : Int32) {r : Int32} (ls : Array Slot), lv_has ls 4 [(0, .ref (gm 0)), (1, .int x1)] → fb_isBlankRoot n st x1 = some r → W p l e rmb_isBlankRoot s m args below meth c s.heap [] 0 0 (MQX below (xx_Q (XI r)) args s 0 0 (fun _ => False)) (F0 m 0 ls []) := by
  obtain ⟨hx, hb, hml, hr, hlk, hown, hts, hK, htr, hZ, hnh, hA, hfl⟩ := id hX
  intro x1 r ls hl hf
  rw [fb_isBlankRoot] at hf
  refine lv_iload_n hx hb db_isBlankRoot_0 rfl (lv_at hl 1 rfl) ?_
  refine lv_bipush (v := 20) hx hb db_isBlankRoot_1 (by decide) ?_
  refine lv_imul hx hb db_isBlankRoot_3 ?_
  refine lv_istore_n (lv' := [(2, .int (x1 * 20)), (0, .ref (gm 0)), (1, .int x1)]) hx hb db_isBlankRoot_4 rfl hl (by decide) rfl (fun ls hl => ?_)
  refine lv_iconst (v := 0) hx hb db_isBlankRoot_5 (by decide) ?_
  refine lv_istore_n (lv' := [(3, .int 0), (2, .int (x1 * 20)), (0, .ref (gm 0)), (1, .int x1)]) hx hb db_isBlankRoot_6 rfl hl (by decide) rfl (fun ls hl => ?_)
  exact wb_isBlankRoot_7 hX hP n n _ _ _ (lv_sub hl [2, 1, 0] rfl) hf
set_option maxRecDepth 100000 in
set_option maxHeartbeats 4000000 in
theorem cb_isBlankRoot {l : Launch} (hfl : l.flags = flags0) {D : va_G} {gm : Nat → Nat} {ca : Nat → ClassId} {st : BSt} {n : Nat} {x1 : Int32} {r : Int32} (hf : fb_isBlankRoot n st x1 = some r) : RM l yb_isBlankRoot rmb_isBlankRoot D gm ca [.int x1] st (XI r) :=
  RM.of hfl (by decide +kernel) rfl mcb_isBlankRoot (fun p e s m below meth c hX hP => wb_isBlankRoot_0 hX hP n _ _ (lv_entry _ (Nat.le_of_ble_eq_true rfl)) hf)
set_option maxRecDepth 100000 in
set_option maxHeartbeats 4000000 in
theorem wb_badAt_41 {p : Program} {l : Launch} {e : Env} {s : State} {m : MethodId} {args : Array Value} {below : List Frame} {meth : Method} {c : Code} {D : va_G} {gm : Nat → Nat} {ca : Nat → ClassId} {A : Nat → Prop} {st : BSt} (hX : BX p l e rmb_badAt s m args meth c D ca A kb_badAt 4 (some .int)) (hP : va_P D vwCl (wB gm ca st) s.heap) (n : Nat) :∀ (k : Nat), ∀ (x3 : Int32) {r : Int32} (ls : Array Slot), lv_has ls 4 [(0, .ref (gm 0)), (3, .int x3)] → fb_badAt_41 n k st x3 = some r → W p l e rmb_badAt s m args below meth c s.heap [] 0 0 (MQX below (xx_Q (XI r)) args s 0 0 (fun _ => False)) (F0 m 41 ls []) := by
  obtain ⟨hx, hb, hml, hr, hlk, hown, hts, hK, htr, hZ, hnh, hA, hfl⟩ := id hX
  intro k
  induction k with
  | zero =>
    intro x3 r ls hl hf
    rw [fb_badAt_41] at hf
    cases hf
  | succ k ih =>
    intro x3 r ls hl hf
    rw [fb_badAt_41] at hf
    refine lv_iload_n hx hb db_badAt_41 rfl (lv_at hl 1 rfl) ?_
    refine lv_bipush (v := 8) hx hb db_badAt_42 (by decide) ?_
    refine lv_icmp_ge (tgt := 74) hx hb db_badAt_44 (by decide) (fun c1 => ?_) (fun c1 => ?_)
    · have hf := ifp c1 hf
      refine lv_iconst (v := (-1)) hx hb db_badAt_74 (by decide) ?_
      cases hf
      exact er_i hx hb hr hlk db_badAt_75
    · have hf := ifn c1 hf
      refine lv_aload_n hx hb db_badAt_47 rfl (lv_at hl 0 rfl) ?_
      refine lv_iload_n hx hb db_badAt_48 rfl (lv_at hl 1 rfl) ?_
      obtain ⟨r2, h3, hf⟩ := obs hf
      refine rmI (cb_isBlankRoot (l := l) (hfl := hfl) h3) (cw_isBlankRoot hts ⟨by decide, by decide⟩) hx hb hml hown hts hK hP va_S.rf hZ hl.1 rfl rfl (lv_room (Nat.le_of_ble_eq_true rfl)) db_badAt_49 ⟨by decide, by decide⟩ ?_
      refine lv_if_ne (tgt := 68) hx hb db_badAt_52 (by decide) (fun c4 => ?_) (fun c4 => ?_)
      · have hf := ifn c4 hf
        refine lv_iinc (v := (x3 + 1)) (lv' := [(3, .int (x3 + 1)), (0, .ref (gm 0))]) hx hb db_badAt_68 hl (k := 1) rfl rfl (by decide) rfl (fun ls hl => ?_)
        refine lv_goto (tgt := 41) hx hb db_badAt_71 (by decide) ?_
        exact ih _ _ (lv_sub hl [1, 0] rfl) hf
      · have hf := ifp c4 hf
        refine lv_aload_n hx hb db_badAt_55 rfl (lv_at hl 0 rfl) ?_
        refine lv_iload_n hx hb db_badAt_56 rfl (lv_at hl 1 rfl) ?_
        obtain ⟨r5, h6, hf⟩ := obs hf
        refine rmI (cb_hasRootSum (l := l) (hfl := hfl) h6) (cw_hasRootSum hts ⟨by decide, by decide⟩) hx hb hml hown hts hK hP va_S.rf hZ hl.1 rfl rfl (lv_room (Nat.le_of_ble_eq_true rfl)) db_badAt_57 ⟨by decide, by decide⟩ ?_
        refine lv_if_ne (tgt := 68) hx hb db_badAt_60 (by decide) (fun c7 => ?_) (fun c7 => ?_)
        · have hf := ifn c7 hf
          refine lv_iinc (v := (x3 + 1)) (lv' := [(3, .int (x3 + 1)), (0, .ref (gm 0))]) hx hb db_badAt_68 hl (k := 1) rfl rfl (by decide) rfl (fun ls hl => ?_)
          refine lv_goto (tgt := 41) hx hb db_badAt_71 (by decide) ?_
          exact ih _ _ (lv_sub hl [1, 0] rfl) hf
        · have hf := ifp c7 hf
          refine lv_bipush (v := 100) hx hb db_badAt_63 (by decide) ?_
          refine lv_iload_n hx hb db_badAt_65 rfl (lv_at hl 1 rfl) ?_
          refine lv_iadd hx hb db_badAt_66 ?_
          cases hf
          exact er_i hx hb hr hlk db_badAt_67
set_option maxRecDepth 100000 in
set_option maxHeartbeats 4000000 in
theorem wb_badAt_7 {p : Program} {l : Launch} {e : Env} {s : State} {m : MethodId} {args : Array Value} {below : List Frame} {meth : Method} {c : Code} {D : va_G} {gm : Nat → Nat} {ca : Nat → ClassId} {A : Nat → Prop} {st : BSt} (hX : BX p l e rmb_badAt s m args meth c D ca A kb_badAt 4 (some .int)) (hP : va_P D vwCl (wB gm ca st) s.heap) (n : Nat) :∀ (k : Nat), ∀ (x1 : Int64) (x3 : Int32) {r : Int32} (ls : Array Slot), lv_has ls 4 [(0, .ref (gm 0)), (1, .long x1), (3, .int x3)] → fb_badAt_7 n k st x1 x3 = some r → W p l e rmb_badAt s m args below meth c s.heap [] 0 0 (MQX below (xx_Q (XI r)) args s 0 0 (fun _ => False)) (F0 m 7 ls []) := by
  obtain ⟨hx, hb, hml, hr, hlk, hown, hts, hK, htr, hZ, hnh, hA, hfl⟩ := id hX
  intro k
  induction k with
  | zero =>
    intro x1 x3 r ls hl hf
    rw [fb_badAt_7] at hf
    cases hf
  | succ k ih =>
    intro x1 x3 r ls hl hf
    rw [fb_badAt_7] at hf
    refine lv_iload_n hx hb db_badAt_7 rfl (lv_at hl 2 rfl) ?_
    refine lv_aload_n hx hb db_badAt_8 rfl (lv_at hl 0 rfl) ?_
    refine bg_pageCount hx hb hown hts hK hP db_badAt_9 ?_
    refine lv_icmp_ge (tgt := 39) hx hb db_badAt_12 (by decide) (fun c1 => ?_) (fun c1 => ?_)
    · have hf := ifp c1 hf
      refine lv_iconst (v := 0) hx hb db_badAt_39 (by decide) ?_
      refine lv_istore_n (lv' := [(3, .int 0), (0, .ref (gm 0)), (1, .long x1)]) hx hb db_badAt_40 rfl hl (by decide) rfl (fun ls hl => ?_)
      exact wb_badAt_41 hX hP n n _ _ (lv_sub hl [1, 0] rfl) hf
    · have hf := ifn c1 hf
      refine lv_lload_n hx hb db_badAt_15 rfl (lv_at hl 1 rfl) ?_
      refine lv_iload_n hx hb db_badAt_16 rfl (lv_at hl 2 rfl) ?_
      obtain ⟨r2, h3, hf⟩ := obs hf
      refine smI (cb_isIn (l := l) (hfl := hfl) h3) (cw_isIn hts ⟨by decide, by decide⟩) hx hb hml hown hts hl.1 rfl rfl (lv_room (Nat.le_of_ble_eq_true rfl)) db_badAt_17 ⟨by decide, by decide⟩ ?_
      refine lv_if_eq (tgt := 33) hx hb db_badAt_20 (by decide) (fun c4 => ?_) (fun c4 => ?_)
      · have hf := ifp c4 hf
        refine lv_iinc (v := (x3 + 1)) (lv' := [(3, .int (x3 + 1)), (0, .ref (gm 0)), (1, .long x1)]) hx hb db_badAt_33 hl (k := 2) rfl rfl (by decide) rfl (fun ls hl => ?_)
        refine lv_goto (tgt := 7) hx hb db_badAt_36 (by decide) ?_
        exact ih _ _ _ (lv_sub hl [1, 2, 0] rfl) hf
      · have hf := ifn c4 hf
        refine lv_aload_n hx hb db_badAt_23 rfl (lv_at hl 0 rfl) ?_
        refine lv_iload_n hx hb db_badAt_24 rfl (lv_at hl 2 rfl) ?_
        obtain ⟨r5, h6, hf⟩ := obs hf
        refine rmI (cb_isRightPage (l := l) (hfl := hfl) h6) (cw_isRightPage hts ⟨by decide, by decide⟩) hx hb hml hown hts hK hP va_S.rf hZ hl.1 rfl rfl (lv_room (Nat.le_of_ble_eq_true rfl)) db_badAt_25 ⟨by decide, by decide⟩ ?_
        refine lv_if_ne (tgt := 33) hx hb db_badAt_28 (by decide) (fun c7 => ?_) (fun c7 => ?_)
        · have hf := ifn c7 hf
          refine lv_iinc (v := (x3 + 1)) (lv' := [(3, .int (x3 + 1)), (0, .ref (gm 0)), (1, .long x1)]) hx hb db_badAt_33 hl (k := 2) rfl rfl (by decide) rfl (fun ls hl => ?_)
          refine lv_goto (tgt := 7) hx hb db_badAt_36 (by decide) ?_
          exact ih _ _ _ (lv_sub hl [1, 2, 0] rfl) hf
        · have hf := ifp c7 hf
          refine lv_iload_n hx hb db_badAt_31 rfl (lv_at hl 2 rfl) ?_
          cases hf
          exact er_i hx hb hr hlk db_badAt_32
set_option maxRecDepth 100000 in
set_option maxHeartbeats 4000000 in
theorem wb_badAt_0 {p : Program} {l : Launch} {e : Env} {s : State} {m : MethodId} {args : Array Value} {below : List Frame} {meth : Method} {c : Code} {D : va_G} {gm : Nat → Nat} {ca : Nat → ClassId} {A : Nat → Prop} {st : BSt} (hX : BX p l e rmb_badAt s m args meth c D ca A kb_badAt 4 (some .int)) (hP : va_P D vwCl (wB gm ca st) s.heap) (n : Nat) : ∀ {r : Int32} (ls : Array Slot), lv_has ls 4 [(0, .ref (gm 0))] → fb_badAt n st = some r → W p l e rmb_badAt s m args below meth c s.heap [] 0 0 (MQX below (xx_Q (XI r)) args s 0 0 (fun _ => False)) (F0 m 0 ls []) := by
  obtain ⟨hx, hb, hml, hr, hlk, hown, hts, hK, htr, hZ, hnh, hA, hfl⟩ := id hX
  intro r ls hl hf
  rw [fb_badAt] at hf
  refine lv_aload_n hx hb db_badAt_0 rfl (lv_at hl 0 rfl) ?_
  obtain ⟨r1, h2, hf⟩ := obs hf
  refine rmL (cb_heldPages (l := l) (hfl := hfl) h2) (cw_heldPages hts ⟨by decide, by decide⟩) hx hb hml hown hts hK hP va_S.rf hZ hl.1 rfl rfl (lv_room (Nat.le_of_ble_eq_true rfl)) db_badAt_1 ⟨by decide, by decide⟩ ?_
  refine lv_lstore_n (lv' := [(1, .long r1), (0, .ref (gm 0))]) hx hb db_badAt_4 rfl hl (by decide) rfl (fun ls hl => ?_)
  refine lv_iconst (v := 0) hx hb db_badAt_5 (by decide) ?_
  refine lv_istore_n (lv' := [(3, .int 0), (1, .long r1), (0, .ref (gm 0))]) hx hb db_badAt_6 rfl hl (by decide) rfl (fun ls hl => ?_)
  exact wb_badAt_7 hX hP n n _ _ _ (lv_sub hl [2, 1, 0] rfl) hf
set_option maxRecDepth 100000 in
set_option maxHeartbeats 4000000 in
theorem cb_badAt {l : Launch} (hfl : l.flags = flags0) {D : va_G} {gm : Nat → Nat} {ca : Nat → ClassId} {st : BSt} {n : Nat} {r : Int32} (hf : fb_badAt n st = some r) : RM l yb_badAt rmb_badAt D gm ca [] st (XI r) :=
  RM.of hfl (by decide +kernel) rfl mcb_badAt (fun p e s m below meth c hX hP => wb_badAt_0 hX hP n _ (lv_entry _ (Nat.le_of_ble_eq_true rfl)) hf)
end
