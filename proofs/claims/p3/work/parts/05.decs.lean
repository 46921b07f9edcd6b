theorem db_heldPages_0 : decode kb_heldPages 0 = .ok (.lconst 0, 1) := by decide +kernel
theorem db_heldPages_1 : decode kb_heldPages 1 = .ok (.lstore_n 1, 1) := by decide +kernel
theorem db_heldPages_2 : decode kb_heldPages 2 = .ok (.iconst 0, 1) := by decide +kernel
theorem db_heldPages_3 : decode kb_heldPages 3 = .ok (.istore_n 3, 1) := by decide +kernel
theorem db_heldPages_4 : decode kb_heldPages 4 = .ok (.iload_n 3, 1) := by decide +kernel
theorem db_heldPages_5 : decode kb_heldPages 5 = .ok (.bipush 8, 2) := by decide +kernel
theorem db_heldPages_7 : decode kb_heldPages 7 = .ok (.if_icmp .ge 43, 3) := by decide +kernel
theorem db_heldPages_10 : decode kb_heldPages 10 = .ok (.aload_n 0, 1) := by decide +kernel
theorem db_heldPages_11 : decode kb_heldPages 11 = .ok (.getfield 26, 3) := by decide +kernel
theorem db_heldPages_14 : decode kb_heldPages 14 = .ok (.iload_n 3, 1) := by decide +kernel
theorem db_heldPages_15 : decode kb_heldPages 15 = .ok (.bipush 20, 2) := by decide +kernel
theorem db_heldPages_17 : decode kb_heldPages 17 = .ok (.imul, 1) := by decide +kernel
theorem db_heldPages_18 : decode kb_heldPages 18 = .ok (.laload, 1) := by decide +kernel
theorem db_heldPages_19 : decode kb_heldPages 19 = .ok (.aload_n 0, 1) := by decide +kernel
theorem db_heldPages_20 : decode kb_heldPages 20 = .ok (.getfield 52, 3) := by decide +kernel
theorem db_heldPages_23 : decode kb_heldPages 23 = .ok (.i2l, 1) := by decide +kernel
theorem db_heldPages_24 : decode kb_heldPages 24 = .ok (.lcmp, 1) := by decide +kernel
theorem db_heldPages_25 : decode kb_heldPages 25 = .ok (.ifCond .gt 19, 3) := by decide +kernel
theorem db_heldPages_28 : decode kb_heldPages 28 = .ok (.aload_n 0, 1) := by decide +kernel
theorem db_heldPages_29 : decode kb_heldPages 29 = .ok (.iload_n 3, 1) := by decide +kernel
theorem db_heldPages_30 : decode kb_heldPages 30 = .ok (.invokevirtual 200, 3) := by decide +kernel
theorem db_heldPages_33 : decode kb_heldPages 33 = .ok (.ifCond .eq 11, 3) := by decide +kernel
theorem db_heldPages_36 : decode kb_heldPages 36 = .ok (.lload_n 1, 1) := by decide +kernel
theorem db_heldPages_37 : decode kb_heldPages 37 = .ok (.aload_n 0, 1) := by decide +kernel
theorem db_heldPages_38 : decode kb_heldPages 38 = .ok (.iload_n 3, 1) := by decide +kernel
theorem db_heldPages_39 : decode kb_heldPages 39 = .ok (.invokevirtual 222, 3) := by decide +kernel
theorem db_heldPages_42 : decode kb_heldPages 42 = .ok (.lor, 1) := by decide +kernel
theorem db_heldPages_43 : decode kb_heldPages 43 = .ok (.lstore_n 1, 1) := by decide +kernel
theorem db_heldPages_44 : decode kb_heldPages 44 = .ok (.iinc 3 1, 3) := by decide +kernel
theorem db_heldPages_47 : decode kb_heldPages 47 = .ok (.goto (-43), 3) := by decide +kernel
theorem db_heldPages_50 : decode kb_heldPages 50 = .ok (.lload_n 1, 1) := by decide +kernel
theorem db_heldPages_51 : decode kb_heldPages 51 = .ok (.lreturn, 1) := by decide +kernel
theorem db_pagesOf_0 : decode kb_pagesOf 0 = .ok (.lconst 0, 1) := by decide +kernel
theorem db_pagesOf_1 : decode kb_pagesOf 1 = .ok (.lstore_n 2, 1) := by decide +kernel
theorem db_pagesOf_2 : decode kb_pagesOf 2 = .ok (.aload_n 0, 1) := by decide +kernel
theorem db_pagesOf_3 : decode kb_pagesOf 3 = .ok (.iload_n 1, 1) := by decide +kernel
theorem db_pagesOf_4 : decode kb_pagesOf 4 = .ok (.invokevirtual 96, 3) := by decide +kernel
theorem db_pagesOf_7 : decode kb_pagesOf 7 = .ok (.istore 4, 2) := by decide +kernel
theorem db_pagesOf_9 : decode kb_pagesOf 9 = .ok (.iconst 0, 1) := by decide +kernel
theorem db_pagesOf_10 : decode kb_pagesOf 10 = .ok (.istore 5, 2) := by decide +kernel
theorem db_pagesOf_12 : decode kb_pagesOf 12 = .ok (.iload 5, 2) := by decide +kernel
theorem db_pagesOf_14 : decode kb_pagesOf 14 = .ok (.iload 4, 2) := by decide +kernel
theorem db_pagesOf_16 : decode kb_pagesOf 16 = .ok (.if_icmp .ge 21, 3) := by decide +kernel
theorem db_pagesOf_19 : decode kb_pagesOf 19 = .ok (.lload_n 2, 1) := by decide +kernel
theorem db_pagesOf_20 : decode kb_pagesOf 20 = .ok (.lconst 1, 1) := by decide +kernel
theorem db_pagesOf_21 : decode kb_pagesOf 21 = .ok (.aload_n 0, 1) := by decide +kernel
theorem db_pagesOf_22 : decode kb_pagesOf 22 = .ok (.iload_n 1, 1) := by decide +kernel
theorem db_pagesOf_23 : decode kb_pagesOf 23 = .ok (.iload 5, 2) := by decide +kernel
theorem db_pagesOf_25 : decode kb_pagesOf 25 = .ok (.invokevirtual 206, 3) := by decide +kernel
theorem db_pagesOf_28 : decode kb_pagesOf 28 = .ok (.lshl, 1) := by decide +kernel
theorem db_pagesOf_29 : decode kb_pagesOf 29 = .ok (.lor, 1) := by decide +kernel
theorem db_pagesOf_30 : decode kb_pagesOf 30 = .ok (.lstore_n 2, 1) := by decide +kernel
theorem db_pagesOf_31 : decode kb_pagesOf 31 = .ok (.iinc 5 1, 3) := by decide +kernel
theorem db_pagesOf_34 : decode kb_pagesOf 34 = .ok (.goto (-22), 3) := by decide +kernel
theorem db_pagesOf_37 : decode kb_pagesOf 37 = .ok (.lload_n 2, 1) := by decide +kernel
theorem db_pagesOf_38 : decode kb_pagesOf 38 = .ok (.lreturn, 1) := by decide +kernel
theorem db_isIn_0 : decode kb_isIn 0 = .ok (.lload_n 0, 1) := by decide +kernel
theorem db_isIn_1 : decode kb_isIn 1 = .ok (.iload_n 2, 1) := by decide +kernel
theorem db_isIn_2 : decode kb_isIn 2 = .ok (.lushr, 1) := by decide +kernel
theorem db_isIn_3 : decode kb_isIn 3 = .ok (.lconst 1, 1) := by decide +kernel
theorem db_isIn_4 : decode kb_isIn 4 = .ok (.land, 1) := by decide +kernel
theorem db_isIn_5 : decode kb_isIn 5 = .ok (.lconst 0, 1) := by decide +kernel
theorem db_isIn_6 : decode kb_isIn 6 = .ok (.lcmp, 1) := by decide +kernel
theorem db_isIn_7 : decode kb_isIn 7 = .ok (.ifCond .eq 7, 3) := by decide +kernel
theorem db_isIn_10 : decode kb_isIn 10 = .ok (.iconst 1, 1) := by decide +kernel
theorem db_isIn_11 : decode kb_isIn 11 = .ok (.goto 4, 3) := by decide +kernel
theorem db_isIn_14 : decode kb_isIn 14 = .ok (.iconst 0, 1) := by decide +kernel
theorem db_isIn_15 : decode kb_isIn 15 = .ok (.ireturn, 1) := by decide +kernel
theorem db_greatestWhole_0 : decode kb_greatestWhole 0 = .ok (.ldc2_w 190, 3) := by decide +kernel
theorem db_greatestWhole_3 : decode kb_greatestWhole 3 = .ok (.lstore_n 1, 1) := by decide +kernel
theorem db_greatestWhole_4 : decode kb_greatestWhole 4 = .ok (.iconst 0, 1) := by decide +kernel
theorem db_greatestWhole_5 : decode kb_greatestWhole 5 = .ok (.istore_n 3, 1) := by decide +kernel
theorem db_greatestWhole_6 : decode kb_greatestWhole 6 = .ok (.iload_n 3, 1) := by decide +kernel
theorem db_greatestWhole_7 : decode kb_greatestWhole 7 = .ok (.bipush 8, 2) := by decide +kernel
theorem db_greatestWhole_9 : decode kb_greatestWhole 9 = .ok (.if_icmp .ge 69, 3) := by decide +kernel
theorem db_greatestWhole_12 : decode kb_greatestWhole 12 = .ok (.aload_n 0, 1) := by decide +kernel
theorem db_greatestWhole_13 : decode kb_greatestWhole 13 = .ok (.getfield 26, 3) := by decide +kernel
theorem db_greatestWhole_16 : decode kb_greatestWhole 16 = .ok (.iload_n 3, 1) := by decide +kernel
theorem db_greatestWhole_17 : decode kb_greatestWhole 17 = .ok (.bipush 20, 2) := by decide +kernel
theorem db_greatestWhole_19 : decode kb_greatestWhole 19 = .ok (.imul, 1) := by decide +kernel
theorem db_greatestWhole_20 : decode kb_greatestWhole 20 = .ok (.laload, 1) := by decide +kernel
theorem db_greatestWhole_21 : decode kb_greatestWhole 21 = .ok (.lstore 4, 2) := by decide +kernel
theorem db_greatestWhole_23 : decode kb_greatestWhole 23 = .ok (.lload 4, 2) := by decide +kernel
theorem db_greatestWhole_25 : decode kb_greatestWhole 25 = .ok (.lload_n 1, 1) := by decide +kernel
theorem db_greatestWhole_26 : decode kb_greatestWhole 26 = .ok (.lcmp, 1) := by decide +kernel
theorem db_greatestWhole_27 : decode kb_greatestWhole 27 = .ok (.ifCond .le 16, 3) := by decide +kernel
theorem db_greatestWhole_30 : decode kb_greatestWhole 30 = .ok (.lload 4, 2) := by decide +kernel
theorem db_greatestWhole_32 : decode kb_greatestWhole 32 = .ok (.ldc2_w 225, 3) := by decide +kernel
theorem db_greatestWhole_35 : decode kb_greatestWhole 35 = .ok (.lcmp, 1) := by decide +kernel
theorem db_greatestWhole_36 : decode kb_greatestWhole 36 = .ok (.ifCond .gt 7, 3) := by decide +kernel
theorem db_greatestWhole_39 : decode kb_greatestWhole 39 = .ok (.iconst 1, 1) := by decide +kernel
theorem db_greatestWhole_40 : decode kb_greatestWhole 40 = .ok (.goto 4, 3) := by decide +kernel
theorem db_greatestWhole_43 : decode kb_greatestWhole 43 = .ok (.iconst 0, 1) := by decide +kernel
theorem db_greatestWhole_44 : decode kb_greatestWhole 44 = .ok (.istore 6, 2) := by decide +kernel
theorem db_greatestWhole_46 : decode kb_greatestWhole 46 = .ok (.iload 6, 2) := by decide +kernel
theorem db_greatestWhole_48 : decode kb_greatestWhole 48 = .ok (.ifCond .eq 24, 3) := by decide +kernel
theorem db_greatestWhole_51 : decode kb_greatestWhole 51 = .ok (.lload 4, 2) := by decide +kernel
theorem db_greatestWhole_53 : decode kb_greatestWhole 53 = .ok (.l2i, 1) := by decide +kernel
theorem db_greatestWhole_54 : decode kb_greatestWhole 54 = .ok (.invokestatic 55, 3) := by decide +kernel
theorem db_greatestWhole_57 : decode kb_greatestWhole 57 = .ok (.iload_n 3, 1) := by decide +kernel
theorem db_greatestWhole_58 : decode kb_greatestWhole 58 = .ok (.if_icmp .ne 14, 3) := by decide +kernel
theorem db_greatestWhole_61 : decode kb_greatestWhole 61 = .ok (.aload_n 0, 1) := by decide +kernel
theorem db_greatestWhole_62 : decode kb_greatestWhole 62 = .ok (.iload_n 3, 1) := by decide +kernel
theorem db_greatestWhole_63 : decode kb_greatestWhole 63 = .ok (.invokevirtual 219, 3) := by decide +kernel
theorem db_greatestWhole_66 : decode kb_greatestWhole 66 = .ok (.ifCond .eq 6, 3) := by decide +kernel
theorem db_greatestWhole_69 : decode kb_greatestWhole 69 = .ok (.lload 4, 2) := by decide +kernel
theorem db_greatestWhole_71 : decode kb_greatestWhole 71 = .ok (.lstore_n 1, 1) := by decide +kernel
theorem db_greatestWhole_72 : decode kb_greatestWhole 72 = .ok (.iinc 3 1, 3) := by decide +kernel
theorem db_greatestWhole_75 : decode kb_greatestWhole 75 = .ok (.goto (-69), 3) := by decide +kernel
theorem db_greatestWhole_78 : decode kb_greatestWhole 78 = .ok (.lload_n 1, 1) := by decide +kernel
theorem db_greatestWhole_79 : decode kb_greatestWhole 79 = .ok (.l2i, 1) := by decide +kernel
theorem db_greatestWhole_80 : decode kb_greatestWhole 80 = .ok (.ireturn, 1) := by decide +kernel
theorem db_rootOf_0 : decode kb_rootOf 0 = .ok (.iload_n 0, 1) := by decide +kernel
theorem db_rootOf_1 : decode kb_rootOf 1 = .ok (.bipush 8, 2) := by decide +kernel
theorem db_rootOf_3 : decode kb_rootOf 3 = .ok (.invokestatic 227, 3) := by decide +kernel
theorem db_rootOf_6 : decode kb_rootOf 6 = .ok (.ireturn, 1) := by decide +kernel
theorem db_leavesOf_0 : decode kb_leavesOf 0 = .ok (.aload_n 0, 1) := by decide +kernel
theorem db_leavesOf_1 : decode kb_leavesOf 1 = .ok (.getfield 26, 3) := by decide +kernel
theorem db_leavesOf_4 : decode kb_leavesOf 4 = .ok (.iload_n 1, 1) := by decide +kernel
theorem db_leavesOf_5 : decode kb_leavesOf 5 = .ok (.bipush 20, 2) := by decide +kernel
theorem db_leavesOf_7 : decode kb_leavesOf 7 = .ok (.imul, 1) := by decide +kernel
theorem db_leavesOf_8 : decode kb_leavesOf 8 = .ok (.iconst 1, 1) := by decide +kernel
theorem db_leavesOf_9 : decode kb_leavesOf 9 = .ok (.iadd, 1) := by decide +kernel
theorem db_leavesOf_10 : decode kb_leavesOf 10 = .ok (.laload, 1) := by decide +kernel
theorem db_leavesOf_11 : decode kb_leavesOf 11 = .ok (.l2i, 1) := by decide +kernel
theorem db_leavesOf_12 : decode kb_leavesOf 12 = .ok (.ireturn, 1) := by decide +kernel
theorem db_pageOf_0 : decode kb_pageOf 0 = .ok (.aload_n 0, 1) := by decide +kernel
theorem db_pageOf_1 : decode kb_pageOf 1 = .ok (.getfield 26, 3) := by decide +kernel
theorem db_pageOf_4 : decode kb_pageOf 4 = .ok (.iload_n 1, 1) := by decide +kernel
theorem db_pageOf_5 : decode kb_pageOf 5 = .ok (.bipush 20, 2) := by decide +kernel
theorem db_pageOf_7 : decode kb_pageOf 7 = .ok (.imul, 1) := by decide +kernel
theorem db_pageOf_8 : decode kb_pageOf 8 = .ok (.iconst 2, 1) := by decide +kernel
theorem db_pageOf_9 : decode kb_pageOf 9 = .ok (.iadd, 1) := by decide +kernel
theorem db_pageOf_10 : decode kb_pageOf 10 = .ok (.iload_n 2, 1) := by decide +kernel
theorem db_pageOf_11 : decode kb_pageOf 11 = .ok (.iadd, 1) := by decide +kernel
theorem db_pageOf_12 : decode kb_pageOf 12 = .ok (.laload, 1) := by decide +kernel
theorem db_pageOf_13 : decode kb_pageOf 13 = .ok (.l2i, 1) := by decide +kernel
theorem db_pageOf_14 : decode kb_pageOf 14 = .ok (.ireturn, 1) := by decide +kernel
theorem db_entriesOfRoot_0 : decode kb_entriesOfRoot 0 = .ok (.aload_n 0, 1) := by decide +kernel
theorem db_entriesOfRoot_1 : decode kb_entriesOfRoot 1 = .ok (.getfield 26, 3) := by decide +kernel
theorem db_entriesOfRoot_4 : decode kb_entriesOfRoot 4 = .ok (.iload_n 1, 1) := by decide +kernel
theorem db_entriesOfRoot_5 : decode kb_entriesOfRoot 5 = .ok (.bipush 20, 2) := by decide +kernel
theorem db_entriesOfRoot_7 : decode kb_entriesOfRoot 7 = .ok (.imul, 1) := by decide +kernel
theorem db_entriesOfRoot_8 : decode kb_entriesOfRoot 8 = .ok (.bipush 18, 2) := by decide +kernel
theorem db_entriesOfRoot_10 : decode kb_entriesOfRoot 10 = .ok (.iadd, 1) := by decide +kernel
theorem db_entriesOfRoot_11 : decode kb_entriesOfRoot 11 = .ok (.laload, 1) := by decide +kernel
theorem db_entriesOfRoot_12 : decode kb_entriesOfRoot 12 = .ok (.l2i, 1) := by decide +kernel
theorem db_entriesOfRoot_13 : decode kb_entriesOfRoot 13 = .ok (.ireturn, 1) := by decide +kernel
theorem db_entriesOf_0 : decode kb_entriesOf 0 = .ok (.aload_n 0, 1) := by decide +kernel
theorem db_entriesOf_1 : decode kb_entriesOf 1 = .ok (.getfield 22, 3) := by decide +kernel
theorem db_entriesOf_4 : decode kb_entriesOf 4 = .ok (.iload_n 1, 1) := by decide +kernel
theorem db_entriesOf_5 : decode kb_entriesOf 5 = .ok (.bipush 16, 2) := by decide +kernel
theorem db_entriesOf_7 : decode kb_entriesOf 7 = .ok (.imul, 1) := by decide +kernel
theorem db_entriesOf_8 : decode kb_entriesOf 8 = .ok (.laload, 1) := by decide +kernel
theorem db_entriesOf_9 : decode kb_entriesOf 9 = .ok (.l2i, 1) := by decide +kernel
theorem db_entriesOf_10 : decode kb_entriesOf 10 = .ok (.ireturn, 1) := by decide +kernel
theorem db_entryAt_0 : decode kb_entryAt 0 = .ok (.iload_n 0, 1) := by decide +kernel
theorem db_entryAt_1 : decode kb_entryAt 1 = .ok (.bipush 16, 2) := by decide +kernel
theorem db_entryAt_3 : decode kb_entryAt 3 = .ok (.imul, 1) := by decide +kernel
theorem db_entryAt_4 : decode kb_entryAt 4 = .ok (.iconst 1, 1) := by decide +kernel
theorem db_entryAt_5 : decode kb_entryAt 5 = .ok (.iadd, 1) := by decide +kernel
theorem db_entryAt_6 : decode kb_entryAt 6 = .ok (.iconst 2, 1) := by decide +kernel
theorem db_entryAt_7 : decode kb_entryAt 7 = .ok (.iload_n 1, 1) := by decide +kernel
theorem db_entryAt_8 : decode kb_entryAt 8 = .ok (.imul, 1) := by decide +kernel
theorem db_entryAt_9 : decode kb_entryAt 9 = .ok (.iadd, 1) := by decide +kernel
theorem db_entryAt_10 : decode kb_entryAt 10 = .ok (.ireturn, 1) := by decide +kernel
theorem db_firstKey_0 : decode kb_firstKey 0 = .ok (.aload_n 0, 1) := by decide +kernel
theorem db_firstKey_1 : decode kb_firstKey 1 = .ok (.getfield 22, 3) := by decide +kernel
theorem db_firstKey_4 : decode kb_firstKey 4 = .ok (.iload_n 1, 1) := by decide +kernel
theorem db_firstKey_5 : decode kb_firstKey 5 = .ok (.iconst 0, 1) := by decide +kernel
theorem db_firstKey_6 : decode kb_firstKey 6 = .ok (.invokestatic 230, 3) := by decide +kernel
theorem db_firstKey_9 : decode kb_firstKey 9 = .ok (.laload, 1) := by decide +kernel
theorem db_firstKey_10 : decode kb_firstKey 10 = .ok (.lreturn, 1) := by decide +kernel
theorem db_lastKey_0 : decode kb_lastKey 0 = .ok (.aload_n 0, 1) := by decide +kernel
theorem db_lastKey_1 : decode kb_lastKey 1 = .ok (.getfield 22, 3) := by decide +kernel
theorem db_lastKey_4 : decode kb_lastKey 4 = .ok (.iload_n 1, 1) := by decide +kernel
theorem db_lastKey_5 : decode kb_lastKey 5 = .ok (.aload_n 0, 1) := by decide +kernel
theorem db_lastKey_6 : decode kb_lastKey 6 = .ok (.iload_n 1, 1) := by decide +kernel
theorem db_lastKey_7 : decode kb_lastKey 7 = .ok (.invokevirtual 209, 3) := by decide +kernel
theorem db_lastKey_10 : decode kb_lastKey 10 = .ok (.iconst 1, 1) := by decide +kernel
theorem db_lastKey_11 : decode kb_lastKey 11 = .ok (.isub, 1) := by decide +kernel
theorem db_lastKey_12 : decode kb_lastKey 12 = .ok (.invokestatic 230, 3) := by decide +kernel
theorem db_lastKey_15 : decode kb_lastKey 15 = .ok (.laload, 1) := by decide +kernel
theorem db_lastKey_16 : decode kb_lastKey 16 = .ok (.lreturn, 1) := by decide +kernel
theorem db_leafFor_0 : decode kb_leafFor 0 = .ok (.aload_n 0, 1) := by decide +kernel
theorem db_leafFor_1 : decode kb_leafFor 1 = .ok (.iload_n 1, 1) := by decide +kernel
theorem db_leafFor_2 : decode kb_leafFor 2 = .ok (.invokevirtual 96, 3) := by decide +kernel
theorem db_leafFor_5 : decode kb_leafFor 5 = .ok (.istore_n 3, 1) := by decide +kernel
theorem db_leafFor_6 : decode kb_leafFor 6 = .ok (.iload_n 3, 1) := by decide +kernel
theorem db_leafFor_7 : decode kb_leafFor 7 = .ok (.ifCond .ne 5, 3) := by decide +kernel
theorem db_leafFor_10 : decode kb_leafFor 10 = .ok (.iconst (-1), 1) := by decide +kernel
theorem db_leafFor_11 : decode kb_leafFor 11 = .ok (.ireturn, 1) := by decide +kernel
theorem db_leafFor_12 : decode kb_leafFor 12 = .ok (.iconst 0, 1) := by decide +kernel
theorem db_leafFor_13 : decode kb_leafFor 13 = .ok (.istore 4, 2) := by decide +kernel
theorem db_leafFor_15 : decode kb_leafFor 15 = .ok (.iconst 1, 1) := by decide +kernel
theorem db_leafFor_16 : decode kb_leafFor 16 = .ok (.istore 5, 2) := by decide +kernel
theorem db_leafFor_18 : decode kb_leafFor 18 = .ok (.iload 5, 2) := by decide +kernel
theorem db_leafFor_20 : decode kb_leafFor 20 = .ok (.iload_n 3, 1) := by decide +kernel
theorem db_leafFor_21 : decode kb_leafFor 21 = .ok (.if_icmp .ge 30, 3) := by decide +kernel
theorem db_leafFor_24 : decode kb_leafFor 24 = .ok (.aload_n 0, 1) := by decide +kernel
theorem db_leafFor_25 : decode kb_leafFor 25 = .ok (.aload_n 0, 1) := by decide +kernel
theorem db_leafFor_26 : decode kb_leafFor 26 = .ok (.iload_n 1, 1) := by decide +kernel
theorem db_leafFor_27 : decode kb_leafFor 27 = .ok (.iload 5, 2) := by decide +kernel
theorem db_leafFor_29 : decode kb_leafFor 29 = .ok (.invokevirtual 206, 3) := by decide +kernel
theorem db_leafFor_32 : decode kb_leafFor 32 = .ok (.invokevirtual 212, 3) := by decide +kernel
theorem db_leafFor_35 : decode kb_leafFor 35 = .ok (.iload_n 2, 1) := by decide +kernel
theorem db_leafFor_36 : decode kb_leafFor 36 = .ok (.i2l, 1) := by decide +kernel
theorem db_leafFor_37 : decode kb_leafFor 37 = .ok (.lcmp, 1) := by decide +kernel
theorem db_leafFor_38 : decode kb_leafFor 38 = .ok (.ifCond .gt 7, 3) := by decide +kernel
theorem db_leafFor_41 : decode kb_leafFor 41 = .ok (.iload 5, 2) := by decide +kernel
theorem db_leafFor_43 : decode kb_leafFor 43 = .ok (.istore 4, 2) := by decide +kernel
theorem db_leafFor_45 : decode kb_leafFor 45 = .ok (.iinc 5 1, 3) := by decide +kernel
theorem db_leafFor_48 : decode kb_leafFor 48 = .ok (.goto (-30), 3) := by decide +kernel
theorem db_leafFor_51 : decode kb_leafFor 51 = .ok (.iload 4, 2) := by decide +kernel
theorem db_leafFor_53 : decode kb_leafFor 53 = .ok (.ireturn, 1) := by decide +kernel
theorem db_entryWithKey_0 : decode kb_entryWithKey 0 = .ok (.aload_n 0, 1) := by decide +kernel
theorem db_entryWithKey_1 : decode kb_entryWithKey 1 = .ok (.iload_n 1, 1) := by decide +kernel
theorem db_entryWithKey_2 : decode kb_entryWithKey 2 = .ok (.iload_n 2, 1) := by decide +kernel
theorem db_entryWithKey_3 : decode kb_entryWithKey 3 = .ok (.invokevirtual 59, 3) := by decide +kernel
theorem db_entryWithKey_6 : decode kb_entryWithKey 6 = .ok (.istore_n 3, 1) := by decide +kernel
theorem db_entryWithKey_7 : decode kb_entryWithKey 7 = .ok (.iload_n 3, 1) := by decide +kernel
theorem db_entryWithKey_8 : decode kb_entryWithKey 8 = .ok (.iconst (-1), 1) := by decide +kernel
theorem db_entryWithKey_9 : decode kb_entryWithKey 9 = .ok (.if_icmp .ne 5, 3) := by decide +kernel
theorem db_entryWithKey_12 : decode kb_entryWithKey 12 = .ok (.iconst (-1), 1) := by decide +kernel
theorem db_entryWithKey_13 : decode kb_entryWithKey 13 = .ok (.ireturn, 1) := by decide +kernel
theorem db_entryWithKey_14 : decode kb_entryWithKey 14 = .ok (.aload_n 0, 1) := by decide +kernel
theorem db_entryWithKey_15 : decode kb_entryWithKey 15 = .ok (.iload_n 1, 1) := by decide +kernel
theorem db_entryWithKey_16 : decode kb_entryWithKey 16 = .ok (.iload_n 3, 1) := by decide +kernel
theorem db_entryWithKey_17 : decode kb_entryWithKey 17 = .ok (.invokevirtual 206, 3) := by decide +kernel
theorem db_entryWithKey_20 : decode kb_entryWithKey 20 = .ok (.istore 4, 2) := by decide +kernel
theorem db_entryWithKey_22 : decode kb_entryWithKey 22 = .ok (.aload_n 0, 1) := by decide +kernel
theorem db_entryWithKey_23 : decode kb_entryWithKey 23 = .ok (.iload 4, 2) := by decide +kernel
theorem db_entryWithKey_25 : decode kb_entryWithKey 25 = .ok (.invokevirtual 209, 3) := by decide +kernel
theorem db_entryWithKey_28 : decode kb_entryWithKey 28 = .ok (.istore 5, 2) := by decide +kernel
theorem db_entryWithKey_30 : decode kb_entryWithKey 30 = .ok (.iconst 0, 1) := by decide +kernel
theorem db_entryWithKey_31 : decode kb_entryWithKey 31 = .ok (.istore 6, 2) := by decide +kernel
theorem db_entryWithKey_33 : decode kb_entryWithKey 33 = .ok (.iload 6, 2) := by decide +kernel
theorem db_entryWithKey_35 : decode kb_entryWithKey 35 = .ok (.iload 5, 2) := by decide +kernel
theorem db_entryWithKey_37 : decode kb_entryWithKey 37 = .ok (.if_icmp .ge 35, 3) := by decide +kernel
theorem db_entryWithKey_40 : decode kb_entryWithKey 40 = .ok (.aload_n 0, 1) := by decide +kernel
theorem db_entryWithKey_41 : decode kb_entryWithKey 41 = .ok (.getfield 22, 3) := by decide +kernel
theorem db_entryWithKey_44 : decode kb_entryWithKey 44 = .ok (.iload 4, 2) := by decide +kernel
theorem db_entryWithKey_46 : decode kb_entryWithKey 46 = .ok (.iload 6, 2) := by decide +kernel
theorem db_entryWithKey_48 : decode kb_entryWithKey 48 = .ok (.invokestatic 230, 3) := by decide +kernel
theorem db_entryWithKey_51 : decode kb_entryWithKey 51 = .ok (.laload, 1) := by decide +kernel
theorem db_entryWithKey_52 : decode kb_entryWithKey 52 = .ok (.iload_n 2, 1) := by decide +kernel
theorem db_entryWithKey_53 : decode kb_entryWithKey 53 = .ok (.i2l, 1) := by decide +kernel
theorem db_entryWithKey_54 : decode kb_entryWithKey 54 = .ok (.lcmp, 1) := by decide +kernel
theorem db_entryWithKey_55 : decode kb_entryWithKey 55 = .ok (.ifCond .ne 11, 3) := by decide +kernel
theorem db_entryWithKey_58 : decode kb_entryWithKey 58 = .ok (.iload 4, 2) := by decide +kernel
theorem db_entryWithKey_60 : decode kb_entryWithKey 60 = .ok (.iload 6, 2) := by decide +kernel
theorem db_entryWithKey_62 : decode kb_entryWithKey 62 = .ok (.invokestatic 230, 3) := by decide +kernel
theorem db_entryWithKey_65 : decode kb_entryWithKey 65 = .ok (.ireturn, 1) := by decide +kernel
theorem db_entryWithKey_66 : decode kb_entryWithKey 66 = .ok (.iinc 6 1, 3) := by decide +kernel
theorem db_entryWithKey_69 : decode kb_entryWithKey 69 = .ok (.goto (-36), 3) := by decide +kernel
theorem db_entryWithKey_72 : decode kb_entryWithKey 72 = .ok (.iconst (-1), 1) := by decide +kernel
theorem db_entryWithKey_73 : decode kb_entryWithKey 73 = .ok (.ireturn, 1) := by decide +kernel
theorem db_entryByNumber_0 : decode kb_entryByNumber 0 = .ok (.iload_n 2, 1) := by decide +kernel
theorem db_entryByNumber_1 : decode kb_entryByNumber 1 = .ok (.ifCond .ge 5, 3) := by decide +kernel
theorem db_entryByNumber_4 : decode kb_entryByNumber 4 = .ok (.iconst (-1), 1) := by decide +kernel
theorem db_entryByNumber_5 : decode kb_entryByNumber 5 = .ok (.ireturn, 1) := by decide +kernel
theorem db_entryByNumber_6 : decode kb_entryByNumber 6 = .ok (.iload_n 2, 1) := by decide +kernel
theorem db_entryByNumber_7 : decode kb_entryByNumber 7 = .ok (.istore_n 3, 1) := by decide +kernel
theorem db_entryByNumber_8 : decode kb_entryByNumber 8 = .ok (.aload_n 0, 1) := by decide +kernel
theorem db_entryByNumber_9 : decode kb_entryByNumber 9 = .ok (.iload_n 1, 1) := by decide +kernel
theorem db_entryByNumber_10 : decode kb_entryByNumber 10 = .ok (.invokevirtual 96, 3) := by decide +kernel
theorem db_entryByNumber_13 : decode kb_entryByNumber 13 = .ok (.istore 4, 2) := by decide +kernel
theorem db_entryByNumber_15 : decode kb_entryByNumber 15 = .ok (.iconst 0, 1) := by decide +kernel
theorem db_entryByNumber_16 : decode kb_entryByNumber 16 = .ok (.istore 5, 2) := by decide +kernel
theorem db_entryByNumber_18 : decode kb_entryByNumber 18 = .ok (.iload 5, 2) := by decide +kernel
theorem db_entryByNumber_20 : decode kb_entryByNumber 20 = .ok (.iload 4, 2) := by decide +kernel
theorem db_entryByNumber_22 : decode kb_entryByNumber 22 = .ok (.if_icmp .ge 44, 3) := by decide +kernel
theorem db_entryByNumber_25 : decode kb_entryByNumber 25 = .ok (.aload_n 0, 1) := by decide +kernel
theorem db_entryByNumber_26 : decode kb_entryByNumber 26 = .ok (.iload_n 1, 1) := by decide +kernel
theorem db_entryByNumber_27 : decode kb_entryByNumber 27 = .ok (.iload 5, 2) := by decide +kernel
theorem db_entryByNumber_29 : decode kb_entryByNumber 29 = .ok (.invokevirtual 206, 3) := by decide +kernel
theorem db_entryByNumber_32 : decode kb_entryByNumber 32 = .ok (.istore 6, 2) := by decide +kernel
theorem db_entryByNumber_34 : decode kb_entryByNumber 34 = .ok (.aload_n 0, 1) := by decide +kernel
theorem db_entryByNumber_35 : decode kb_entryByNumber 35 = .ok (.iload 6, 2) := by decide +kernel
theorem db_entryByNumber_37 : decode kb_entryByNumber 37 = .ok (.invokevirtual 209, 3) := by decide +kernel
theorem db_entryByNumber_40 : decode kb_entryByNumber 40 = .ok (.istore 7, 2) := by decide +kernel
theorem db_entryByNumber_42 : decode kb_entryByNumber 42 = .ok (.iload_n 3, 1) := by decide +kernel
theorem db_entryByNumber_43 : decode kb_entryByNumber 43 = .ok (.iload 7, 2) := by decide +kernel
theorem db_entryByNumber_45 : decode kb_entryByNumber 45 = .ok (.if_icmp .ge 10, 3) := by decide +kernel
theorem db_entryByNumber_48 : decode kb_entryByNumber 48 = .ok (.iload 6, 2) := by decide +kernel
theorem db_entryByNumber_50 : decode kb_entryByNumber 50 = .ok (.iload_n 3, 1) := by decide +kernel
theorem db_entryByNumber_51 : decode kb_entryByNumber 51 = .ok (.invokestatic 230, 3) := by decide +kernel
theorem db_entryByNumber_54 : decode kb_entryByNumber 54 = .ok (.ireturn, 1) := by decide +kernel
theorem db_entryByNumber_55 : decode kb_entryByNumber 55 = .ok (.iload_n 3, 1) := by decide +kernel
theorem db_entryByNumber_56 : decode kb_entryByNumber 56 = .ok (.iload 7, 2) := by decide +kernel
theorem db_entryByNumber_58 : decode kb_entryByNumber 58 = .ok (.isub, 1) := by decide +kernel
theorem db_entryByNumber_59 : decode kb_entryByNumber 59 = .ok (.istore_n 3, 1) := by decide +kernel
theorem db_entryByNumber_60 : decode kb_entryByNumber 60 = .ok (.iinc 5 1, 3) := by decide +kernel
theorem db_entryByNumber_63 : decode kb_entryByNumber 63 = .ok (.goto (-45), 3) := by decide +kernel
theorem db_entryByNumber_66 : decode kb_entryByNumber 66 = .ok (.iconst (-1), 1) := by decide +kernel
theorem db_entryByNumber_67 : decode kb_entryByNumber 67 = .ok (.ireturn, 1) := by decide +kernel
theorem db_haveSameEntries_0 : decode kb_haveSameEntries 0 = .ok (.aload_n 0, 1) := by decide +kernel
theorem db_haveSameEntries_1 : decode kb_haveSameEntries 1 = .ok (.iload_n 1, 1) := by decide +kernel
theorem db_haveSameEntries_2 : decode kb_haveSameEntries 2 = .ok (.invokevirtual 93, 3) := by decide +kernel
theorem db_haveSameEntries_5 : decode kb_haveSameEntries 5 = .ok (.istore_n 3, 1) := by decide +kernel
theorem db_haveSameEntries_6 : decode kb_haveSameEntries 6 = .ok (.iload_n 3, 1) := by decide +kernel
theorem db_haveSameEntries_7 : decode kb_haveSameEntries 7 = .ok (.aload_n 0, 1) := by decide +kernel
theorem db_haveSameEntries_8 : decode kb_haveSameEntries 8 = .ok (.iload_n 2, 1) := by decide +kernel
theorem db_haveSameEntries_9 : decode kb_haveSameEntries 9 = .ok (.invokevirtual 93, 3) := by decide +kernel
theorem db_haveSameEntries_12 : decode kb_haveSameEntries 12 = .ok (.if_icmp .eq 5, 3) := by decide +kernel
theorem db_haveSameEntries_15 : decode kb_haveSameEntries 15 = .ok (.iconst 0, 1) := by decide +kernel
theorem db_haveSameEntries_16 : decode kb_haveSameEntries 16 = .ok (.ireturn, 1) := by decide +kernel
theorem db_haveSameEntries_17 : decode kb_haveSameEntries 17 = .ok (.iconst 0, 1) := by decide +kernel
theorem db_haveSameEntries_18 : decode kb_haveSameEntries 18 = .ok (.istore 4, 2) := by decide +kernel
theorem db_haveSameEntries_20 : decode kb_haveSameEntries 20 = .ok (.iload 4, 2) := by decide +kernel
theorem db_haveSameEntries_22 : decode kb_haveSameEntries 22 = .ok (.iload_n 3, 1) := by decide +kernel
theorem db_haveSameEntries_23 : decode kb_haveSameEntries 23 = .ok (.if_icmp .ge 81, 3) := by decide +kernel
theorem db_haveSameEntries_26 : decode kb_haveSameEntries 26 = .ok (.aload_n 0, 1) := by decide +kernel
theorem db_haveSameEntries_27 : decode kb_haveSameEntries 27 = .ok (.iload_n 1, 1) := by decide +kernel
theorem db_haveSameEntries_28 : decode kb_haveSameEntries 28 = .ok (.iload 4, 2) := by decide +kernel
theorem db_haveSameEntries_30 : decode kb_haveSameEntries 30 = .ok (.invokevirtual 99, 3) := by decide +kernel
theorem db_haveSameEntries_33 : decode kb_haveSameEntries 33 = .ok (.istore 5, 2) := by decide +kernel
theorem db_haveSameEntries_35 : decode kb_haveSameEntries 35 = .ok (.aload_n 0, 1) := by decide +kernel
theorem db_haveSameEntries_36 : decode kb_haveSameEntries 36 = .ok (.iload_n 2, 1) := by decide +kernel
theorem db_haveSameEntries_37 : decode kb_haveSameEntries 37 = .ok (.iload 4, 2) := by decide +kernel
theorem db_haveSameEntries_39 : decode kb_haveSameEntries 39 = .ok (.invokevirtual 99, 3) := by decide +kernel
theorem db_haveSameEntries_42 : decode kb_haveSameEntries 42 = .ok (.istore 6, 2) := by decide +kernel
theorem db_haveSameEntries_44 : decode kb_haveSameEntries 44 = .ok (.iload 5, 2) := by decide +kernel
theorem db_haveSameEntries_46 : decode kb_haveSameEntries 46 = .ok (.iconst (-1), 1) := by decide +kernel
theorem db_haveSameEntries_47 : decode kb_haveSameEntries 47 = .ok (.if_icmp .eq 49, 3) := by decide +kernel
theorem db_haveSameEntries_50 : decode kb_haveSameEntries 50 = .ok (.iload 6, 2) := by decide +kernel
theorem db_haveSameEntries_52 : decode kb_haveSameEntries 52 = .ok (.iconst (-1), 1) := by decide +kernel
theorem db_haveSameEntries_53 : decode kb_haveSameEntries 53 = .ok (.if_icmp .eq 43, 3) := by decide +kernel
theorem db_haveSameEntries_56 : decode kb_haveSameEntries 56 = .ok (.aload_n 0, 1) := by decide +kernel
theorem db_haveSameEntries_57 : decode kb_haveSameEntries 57 = .ok (.getfield 22, 3) := by decide +kernel
theorem db_haveSameEntries_60 : decode kb_haveSameEntries 60 = .ok (.iload 5, 2) := by decide +kernel
theorem db_haveSameEntries_62 : decode kb_haveSameEntries 62 = .ok (.laload, 1) := by decide +kernel
theorem db_haveSameEntries_63 : decode kb_haveSameEntries 63 = .ok (.aload_n 0, 1) := by decide +kernel
theorem db_haveSameEntries_64 : decode kb_haveSameEntries 64 = .ok (.getfield 22, 3) := by decide +kernel
theorem db_haveSameEntries_67 : decode kb_haveSameEntries 67 = .ok (.iload 6, 2) := by decide +kernel
theorem db_haveSameEntries_69 : decode kb_haveSameEntries 69 = .ok (.laload, 1) := by decide +kernel
theorem db_haveSameEntries_70 : decode kb_haveSameEntries 70 = .ok (.lcmp, 1) := by decide +kernel
theorem db_haveSameEntries_71 : decode kb_haveSameEntries 71 = .ok (.ifCond .ne 25, 3) := by decide +kernel
theorem db_haveSameEntries_74 : decode kb_haveSameEntries 74 = .ok (.aload_n 0, 1) := by decide +kernel
theorem db_haveSameEntries_75 : decode kb_haveSameEntries 75 = .ok (.getfield 22, 3) := by decide +kernel
theorem db_haveSameEntries_78 : decode kb_haveSameEntries 78 = .ok (.iload 5, 2) := by decide +kernel
theorem db_haveSameEntries_80 : decode kb_haveSameEntries 80 = .ok (.iconst 1, 1) := by decide +kernel
theorem db_haveSameEntries_81 : decode kb_haveSameEntries 81 = .ok (.iadd, 1) := by decide +kernel
theorem db_haveSameEntries_82 : decode kb_haveSameEntries 82 = .ok (.laload, 1) := by decide +kernel
theorem db_haveSameEntries_83 : decode kb_haveSameEntries 83 = .ok (.aload_n 0, 1) := by decide +kernel
theorem db_haveSameEntries_84 : decode kb_haveSameEntries 84 = .ok (.getfield 22, 3) := by decide +kernel
theorem db_haveSameEntries_87 : decode kb_haveSameEntries 87 = .ok (.iload 6, 2) := by decide +kernel
theorem db_haveSameEntries_89 : decode kb_haveSameEntries 89 = .ok (.iconst 1, 1) := by decide +kernel
theorem db_haveSameEntries_90 : decode kb_haveSameEntries 90 = .ok (.iadd, 1) := by decide +kernel
theorem db_haveSameEntries_91 : decode kb_haveSameEntries 91 = .ok (.laload, 1) := by decide +kernel
theorem db_haveSameEntries_92 : decode kb_haveSameEntries 92 = .ok (.lcmp, 1) := by decide +kernel
theorem db_haveSameEntries_93 : decode kb_haveSameEntries 93 = .ok (.ifCond .eq 5, 3) := by decide +kernel
theorem db_haveSameEntries_96 : decode kb_haveSameEntries 96 = .ok (.iconst 0, 1) := by decide +kernel
theorem db_haveSameEntries_97 : decode kb_haveSameEntries 97 = .ok (.ireturn, 1) := by decide +kernel
theorem db_haveSameEntries_98 : decode kb_haveSameEntries 98 = .ok (.iinc 4 1, 3) := by decide +kernel
theorem db_haveSameEntries_101 : decode kb_haveSameEntries 101 = .ok (.goto (-81), 3) := by decide +kernel
theorem db_haveSameEntries_104 : decode kb_haveSameEntries 104 = .ok (.iconst 1, 1) := by decide +kernel
theorem db_haveSameEntries_105 : decode kb_haveSameEntries 105 = .ok (.ireturn, 1) := by decide +kernel
theorem db_loadDraft_0 : decode kb_loadDraft 0 = .ok (.aload_n 0, 1) := by decide +kernel
theorem db_loadDraft_1 : decode kb_loadDraft 1 = .ok (.iconst 0, 1) := by decide +kernel
theorem db_loadDraft_2 : decode kb_loadDraft 2 = .ok (.putfield 233, 3) := by decide +kernel
theorem db_loadDraft_5 : decode kb_loadDraft 5 = .ok (.iload_n 2, 1) := by decide +kernel
theorem db_loadDraft_6 : decode kb_loadDraft 6 = .ok (.iconst (-1), 1) := by decide +kernel
theorem db_loadDraft_7 : decode kb_loadDraft 7 = .ok (.if_icmp .ne 4, 3) := by decide +kernel
theorem db_loadDraft_10 : decode kb_loadDraft 10 = .ok (.return_, 1) := by decide +kernel
theorem db_loadDraft_11 : decode kb_loadDraft 11 = .ok (.aload_n 0, 1) := by decide +kernel
theorem db_loadDraft_12 : decode kb_loadDraft 12 = .ok (.iload_n 1, 1) := by decide +kernel
theorem db_loadDraft_13 : decode kb_loadDraft 13 = .ok (.iload_n 2, 1) := by decide +kernel
theorem db_loadDraft_14 : decode kb_loadDraft 14 = .ok (.invokevirtual 206, 3) := by decide +kernel
theorem db_loadDraft_17 : decode kb_loadDraft 17 = .ok (.istore_n 3, 1) := by decide +kernel
theorem db_loadDraft_18 : decode kb_loadDraft 18 = .ok (.aload_n 0, 1) := by decide +kernel
theorem db_loadDraft_19 : decode kb_loadDraft 19 = .ok (.iload_n 3, 1) := by decide +kernel
theorem db_loadDraft_20 : decode kb_loadDraft 20 = .ok (.invokevirtual 209, 3) := by decide +kernel
theorem db_loadDraft_23 : decode kb_loadDraft 23 = .ok (.istore 4, 2) := by decide +kernel
theorem db_loadDraft_25 : decode kb_loadDraft 25 = .ok (.iconst 0, 1) := by decide +kernel
theorem db_loadDraft_26 : decode kb_loadDraft 26 = .ok (.istore 5, 2) := by decide +kernel
theorem db_loadDraft_28 : decode kb_loadDraft 28 = .ok (.iload 5, 2) := by decide +kernel
theorem db_loadDraft_30 : decode kb_loadDraft 30 = .ok (.iload 4, 2) := by decide +kernel
theorem db_loadDraft_32 : decode kb_loadDraft 32 = .ok (.if_icmp .ge 47, 3) := by decide +kernel
theorem db_loadDraft_35 : decode kb_loadDraft 35 = .ok (.aload_n 0, 1) := by decide +kernel
theorem db_loadDraft_36 : decode kb_loadDraft 36 = .ok (.getfield 36, 3) := by decide +kernel
theorem db_loadDraft_39 : decode kb_loadDraft 39 = .ok (.iload 5, 2) := by decide +kernel
theorem db_loadDraft_41 : decode kb_loadDraft 41 = .ok (.aload_n 0, 1) := by decide +kernel
theorem db_loadDraft_42 : decode kb_loadDraft 42 = .ok (.getfield 22, 3) := by decide +kernel
theorem db_loadDraft_45 : decode kb_loadDraft 45 = .ok (.iload_n 3, 1) := by decide +kernel
theorem db_loadDraft_46 : decode kb_loadDraft 46 = .ok (.iload 5, 2) := by decide +kernel
theorem db_loadDraft_48 : decode kb_loadDraft 48 = .ok (.invokestatic 230, 3) := by decide +kernel
theorem db_loadDraft_51 : decode kb_loadDraft 51 = .ok (.laload, 1) := by decide +kernel
theorem db_loadDraft_52 : decode kb_loadDraft 52 = .ok (.lastore, 1) := by decide +kernel
theorem db_loadDraft_53 : decode kb_loadDraft 53 = .ok (.aload_n 0, 1) := by decide +kernel
theorem db_loadDraft_54 : decode kb_loadDraft 54 = .ok (.getfield 39, 3) := by decide +kernel
theorem db_loadDraft_57 : decode kb_loadDraft 57 = .ok (.iload 5, 2) := by decide +kernel
theorem db_loadDraft_59 : decode kb_loadDraft 59 = .ok (.aload_n 0, 1) := by decide +kernel
theorem db_loadDraft_60 : decode kb_loadDraft 60 = .ok (.getfield 22, 3) := by decide +kernel
theorem db_loadDraft_63 : decode kb_loadDraft 63 = .ok (.iload_n 3, 1) := by decide +kernel
theorem db_loadDraft_64 : decode kb_loadDraft 64 = .ok (.iload 5, 2) := by decide +kernel
theorem db_loadDraft_66 : decode kb_loadDraft 66 = .ok (.invokestatic 230, 3) := by decide +kernel
theorem db_loadDraft_69 : decode kb_loadDraft 69 = .ok (.iconst 1, 1) := by decide +kernel
theorem db_loadDraft_70 : decode kb_loadDraft 70 = .ok (.iadd, 1) := by decide +kernel
theorem db_loadDraft_71 : decode kb_loadDraft 71 = .ok (.laload, 1) := by decide +kernel
theorem db_loadDraft_72 : decode kb_loadDraft 72 = .ok (.lastore, 1) := by decide +kernel
theorem db_loadDraft_73 : decode kb_loadDraft 73 = .ok (.iinc 5 1, 3) := by decide +kernel
theorem db_loadDraft_76 : decode kb_loadDraft 76 = .ok (.goto (-48), 3) := by decide +kernel
theorem db_loadDraft_79 : decode kb_loadDraft 79 = .ok (.aload_n 0, 1) := by decide +kernel
theorem db_loadDraft_80 : decode kb_loadDraft 80 = .ok (.iload 4, 2) := by decide +kernel
theorem db_loadDraft_82 : decode kb_loadDraft 82 = .ok (.putfield 233, 3) := by decide +kernel
theorem db_loadDraft_85 : decode kb_loadDraft 85 = .ok (.return_, 1) := by decide +kernel
theorem db_placeInDraft_0 : decode kb_placeInDraft 0 = .ok (.iconst 0, 1) := by decide +kernel
theorem db_placeInDraft_1 : decode kb_placeInDraft 1 = .ok (.istore_n 2, 1) := by decide +kernel
theorem db_placeInDraft_2 : decode kb_placeInDraft 2 = .ok (.iload_n 2, 1) := by decide +kernel
theorem db_placeInDraft_3 : decode kb_placeInDraft 3 = .ok (.aload_n 0, 1) := by decide +kernel
theorem db_placeInDraft_4 : decode kb_placeInDraft 4 = .ok (.getfield 233, 3) := by decide +kernel
theorem db_placeInDraft_7 : decode kb_placeInDraft 7 = .ok (.if_icmp .ge 21, 3) := by decide +kernel
theorem db_placeInDraft_10 : decode kb_placeInDraft 10 = .ok (.aload_n 0, 1) := by decide +kernel
theorem db_placeInDraft_11 : decode kb_placeInDraft 11 = .ok (.getfield 36, 3) := by decide +kernel
theorem db_placeInDraft_14 : decode kb_placeInDraft 14 = .ok (.iload_n 2, 1) := by decide +kernel
theorem db_placeInDraft_15 : decode kb_placeInDraft 15 = .ok (.laload, 1) := by decide +kernel
theorem db_placeInDraft_16 : decode kb_placeInDraft 16 = .ok (.iload_n 1, 1) := by decide +kernel
theorem db_placeInDraft_17 : decode kb_placeInDraft 17 = .ok (.i2l, 1) := by decide +kernel
theorem db_placeInDraft_18 : decode kb_placeInDraft 18 = .ok (.lcmp, 1) := by decide +kernel
theorem db_placeInDraft_19 : decode kb_placeInDraft 19 = .ok (.ifCond .ge 9, 3) := by decide +kernel
theorem db_placeInDraft_22 : decode kb_placeInDraft 22 = .ok (.iinc 2 1, 3) := by decide +kernel
theorem db_placeInDraft_25 : decode kb_placeInDraft 25 = .ok (.goto (-23), 3) := by decide +kernel
theorem db_placeInDraft_28 : decode kb_placeInDraft 28 = .ok (.iload_n 2, 1) := by decide +kernel
theorem db_placeInDraft_29 : decode kb_placeInDraft 29 = .ok (.ireturn, 1) := by decide +kernel
theorem db_draftHasAt_0 : decode kb_draftHasAt 0 = .ok (.iload_n 1, 1) := by decide +kernel
theorem db_draftHasAt_1 : decode kb_draftHasAt 1 = .ok (.aload_n 0, 1) := by decide +kernel
theorem db_draftHasAt_2 : decode kb_draftHasAt 2 = .ok (.getfield 233, 3) := by decide +kernel
theorem db_draftHasAt_5 : decode kb_draftHasAt 5 = .ok (.if_icmp .ge 19, 3) := by decide +kernel
theorem db_draftHasAt_8 : decode kb_draftHasAt 8 = .ok (.aload_n 0, 1) := by decide +kernel
theorem db_draftHasAt_9 : decode kb_draftHasAt 9 = .ok (.getfield 36, 3) := by decide +kernel
theorem db_draftHasAt_12 : decode kb_draftHasAt 12 = .ok (.iload_n 1, 1) := by decide +kernel
theorem db_draftHasAt_13 : decode kb_draftHasAt 13 = .ok (.laload, 1) := by decide +kernel
theorem db_draftHasAt_14 : decode kb_draftHasAt 14 = .ok (.iload_n 2, 1) := by decide +kernel
theorem db_draftHasAt_15 : decode kb_draftHasAt 15 = .ok (.i2l, 1) := by decide +kernel
theorem db_draftHasAt_16 : decode kb_draftHasAt 16 = .ok (.lcmp, 1) := by decide +kernel
theorem db_draftHasAt_17 : decode kb_draftHasAt 17 = .ok (.ifCond .ne 7, 3) := by decide +kernel
theorem db_draftHasAt_20 : decode kb_draftHasAt 20 = .ok (.iconst 1, 1) := by decide +kernel
theorem db_draftHasAt_21 : decode kb_draftHasAt 21 = .ok (.goto 4, 3) := by decide +kernel
theorem db_draftHasAt_24 : decode kb_draftHasAt 24 = .ok (.iconst 0, 1) := by decide +kernel
theorem db_draftHasAt_25 : decode kb_draftHasAt 25 = .ok (.ireturn, 1) := by decide +kernel
theorem db_putInDraft_0 : decode kb_putInDraft 0 = .ok (.aload_n 0, 1) := by decide +kernel
theorem db_putInDraft_1 : decode kb_putInDraft 1 = .ok (.iload_n 1, 1) := by decide +kernel
theorem db_putInDraft_2 : decode kb_putInDraft 2 = .ok (.invokevirtual 236, 3) := by decide +kernel
theorem db_putInDraft_5 : decode kb_putInDraft 5 = .ok (.istore 4, 2) := by decide +kernel
theorem db_putInDraft_7 : decode kb_putInDraft 7 = .ok (.aload_n 0, 1) := by decide +kernel
theorem db_putInDraft_8 : decode kb_putInDraft 8 = .ok (.iload 4, 2) := by decide +kernel
theorem db_putInDraft_10 : decode kb_putInDraft 10 = .ok (.iload_n 1, 1) := by decide +kernel
theorem db_putInDraft_11 : decode kb_putInDraft 11 = .ok (.invokevirtual 239, 3) := by decide +kernel
theorem db_putInDraft_14 : decode kb_putInDraft 14 = .ok (.ifCond .ne 64, 3) := by decide +kernel
theorem db_putInDraft_17 : decode kb_putInDraft 17 = .ok (.aload_n 0, 1) := by decide +kernel
theorem db_putInDraft_18 : decode kb_putInDraft 18 = .ok (.getfield 233, 3) := by decide +kernel
theorem db_putInDraft_21 : decode kb_putInDraft 21 = .ok (.istore 5, 2) := by decide +kernel
theorem db_putInDraft_23 : decode kb_putInDraft 23 = .ok (.iload 5, 2) := by decide +kernel
theorem db_putInDraft_25 : decode kb_putInDraft 25 = .ok (.iload 4, 2) := by decide +kernel
theorem db_putInDraft_27 : decode kb_putInDraft 27 = .ok (.if_icmp .le 41, 3) := by decide +kernel
theorem db_putInDraft_30 : decode kb_putInDraft 30 = .ok (.aload_n 0, 1) := by decide +kernel
theorem db_putInDraft_31 : decode kb_putInDraft 31 = .ok (.getfield 36, 3) := by decide +kernel
theorem db_putInDraft_34 : decode kb_putInDraft 34 = .ok (.iload 5, 2) := by decide +kernel
theorem db_putInDraft_36 : decode kb_putInDraft 36 = .ok (.aload_n 0, 1) := by decide +kernel
theorem db_putInDraft_37 : decode kb_putInDraft 37 = .ok (.getfield 36, 3) := by decide +kernel
theorem db_putInDraft_40 : decode kb_putInDraft 40 = .ok (.iload 5, 2) := by decide +kernel
theorem db_putInDraft_42 : decode kb_putInDraft 42 = .ok (.iconst 1, 1) := by decide +kernel
theorem db_putInDraft_43 : decode kb_putInDraft 43 = .ok (.isub, 1) := by decide +kernel
theorem db_putInDraft_44 : decode kb_putInDraft 44 = .ok (.laload, 1) := by decide +kernel
theorem db_putInDraft_45 : decode kb_putInDraft 45 = .ok (.lastore, 1) := by decide +kernel
theorem db_putInDraft_46 : decode kb_putInDraft 46 = .ok (.aload_n 0, 1) := by decide +kernel
theorem db_putInDraft_47 : decode kb_putInDraft 47 = .ok (.getfield 39, 3) := by decide +kernel
theorem db_putInDraft_50 : decode kb_putInDraft 50 = .ok (.iload 5, 2) := by decide +kernel
theorem db_putInDraft_52 : decode kb_putInDraft 52 = .ok (.aload_n 0, 1) := by decide +kernel
theorem db_putInDraft_53 : decode kb_putInDraft 53 = .ok (.getfield 39, 3) := by decide +kernel
theorem db_putInDraft_56 : decode kb_putInDraft 56 = .ok (.iload 5, 2) := by decide +kernel
theorem db_putInDraft_58 : decode kb_putInDraft 58 = .ok (.iconst 1, 1) := by decide +kernel
theorem db_putInDraft_59 : decode kb_putInDraft 59 = .ok (.isub, 1) := by decide +kernel
theorem db_putInDraft_60 : decode kb_putInDraft 60 = .ok (.laload, 1) := by decide +kernel
theorem db_putInDraft_61 : decode kb_putInDraft 61 = .ok (.lastore, 1) := by decide +kernel
theorem db_putInDraft_62 : decode kb_putInDraft 62 = .ok (.iinc 5 (-1), 3) := by decide +kernel
theorem db_putInDraft_65 : decode kb_putInDraft 65 = .ok (.goto (-42), 3) := by decide +kernel
theorem db_putInDraft_68 : decode kb_putInDraft 68 = .ok (.aload_n 0, 1) := by decide +kernel
theorem db_putInDraft_69 : decode kb_putInDraft 69 = .ok (.dup, 1) := by decide +kernel
theorem db_putInDraft_70 : decode kb_putInDraft 70 = .ok (.getfield 233, 3) := by decide +kernel
theorem db_putInDraft_73 : decode kb_putInDraft 73 = .ok (.iconst 1, 1) := by decide +kernel
theorem db_putInDraft_74 : decode kb_putInDraft 74 = .ok (.iadd, 1) := by decide +kernel
theorem db_putInDraft_75 : decode kb_putInDraft 75 = .ok (.putfield 233, 3) := by decide +kernel
theorem db_putInDraft_78 : decode kb_putInDraft 78 = .ok (.aload_n 0, 1) := by decide +kernel
theorem db_putInDraft_79 : decode kb_putInDraft 79 = .ok (.getfield 36, 3) := by decide +kernel
theorem db_putInDraft_82 : decode kb_putInDraft 82 = .ok (.iload 4, 2) := by decide +kernel
theorem db_putInDraft_84 : decode kb_putInDraft 84 = .ok (.iload_n 1, 1) := by decide +kernel
theorem db_putInDraft_85 : decode kb_putInDraft 85 = .ok (.i2l, 1) := by decide +kernel
theorem db_putInDraft_86 : decode kb_putInDraft 86 = .ok (.lastore, 1) := by decide +kernel
theorem db_putInDraft_87 : decode kb_putInDraft 87 = .ok (.aload_n 0, 1) := by decide +kernel
theorem db_putInDraft_88 : decode kb_putInDraft 88 = .ok (.getfield 39, 3) := by decide +kernel
theorem db_putInDraft_91 : decode kb_putInDraft 91 = .ok (.iload 4, 2) := by decide +kernel
theorem db_putInDraft_93 : decode kb_putInDraft 93 = .ok (.lload_n 2, 1) := by decide +kernel
theorem db_putInDraft_94 : decode kb_putInDraft 94 = .ok (.lastore, 1) := by decide +kernel
theorem db_putInDraft_95 : decode kb_putInDraft 95 = .ok (.return_, 1) := by decide +kernel
theorem db_dropFromDraft_0 : decode kb_dropFromDraft 0 = .ok (.aload_n 0, 1) := by decide +kernel
theorem db_dropFromDraft_1 : decode kb_dropFromDraft 1 = .ok (.iload_n 1, 1) := by decide +kernel
theorem db_dropFromDraft_2 : decode kb_dropFromDraft 2 = .ok (.invokevirtual 236, 3) := by decide +kernel
theorem db_dropFromDraft_5 : decode kb_dropFromDraft 5 = .ok (.istore_n 2, 1) := by decide +kernel
theorem db_dropFromDraft_6 : decode kb_dropFromDraft 6 = .ok (.aload_n 0, 1) := by decide +kernel
theorem db_dropFromDraft_7 : decode kb_dropFromDraft 7 = .ok (.iload_n 2, 1) := by decide +kernel
theorem db_dropFromDraft_8 : decode kb_dropFromDraft 8 = .ok (.iload_n 1, 1) := by decide +kernel
theorem db_dropFromDraft_9 : decode kb_dropFromDraft 9 = .ok (.invokevirtual 239, 3) := by decide +kernel
theorem db_dropFromDraft_12 : decode kb_dropFromDraft 12 = .ok (.ifCond .ne 5, 3) := by decide +kernel
theorem db_dropFromDraft_15 : decode kb_dropFromDraft 15 = .ok (.iconst 0, 1) := by decide +kernel
theorem db_dropFromDraft_16 : decode kb_dropFromDraft 16 = .ok (.ireturn, 1) := by decide +kernel
theorem db_dropFromDraft_17 : decode kb_dropFromDraft 17 = .ok (.aload_n 0, 1) := by decide +kernel
theorem db_dropFromDraft_18 : decode kb_dropFromDraft 18 = .ok (.dup, 1) := by decide +kernel
theorem db_dropFromDraft_19 : decode kb_dropFromDraft 19 = .ok (.getfield 233, 3) := by decide +kernel
theorem db_dropFromDraft_22 : decode kb_dropFromDraft 22 = .ok (.iconst 1, 1) := by decide +kernel
theorem db_dropFromDraft_23 : decode kb_dropFromDraft 23 = .ok (.isub, 1) := by decide +kernel
theorem db_dropFromDraft_24 : decode kb_dropFromDraft 24 = .ok (.putfield 233, 3) := by decide +kernel
theorem db_dropFromDraft_27 : decode kb_dropFromDraft 27 = .ok (.iload_n 2, 1) := by decide +kernel
theorem db_dropFromDraft_28 : decode kb_dropFromDraft 28 = .ok (.istore_n 3, 1) := by decide +kernel
theorem db_dropFromDraft_29 : decode kb_dropFromDraft 29 = .ok (.iload_n 3, 1) := by decide +kernel
theorem db_dropFromDraft_30 : decode kb_dropFromDraft 30 = .ok (.aload_n 0, 1) := by decide +kernel
theorem db_dropFromDraft_31 : decode kb_dropFromDraft 31 = .ok (.getfield 233, 3) := by decide +kernel
theorem db_dropFromDraft_34 : decode kb_dropFromDraft 34 = .ok (.if_icmp .ge 37, 3) := by decide +kernel
theorem db_dropFromDraft_37 : decode kb_dropFromDraft 37 = .ok (.aload_n 0, 1) := by decide +kernel
theorem db_dropFromDraft_38 : decode kb_dropFromDraft 38 = .ok (.getfield 36, 3) := by decide +kernel
theorem db_dropFromDraft_41 : decode kb_dropFromDraft 41 = .ok (.iload_n 3, 1) := by decide +kernel
theorem db_dropFromDraft_42 : decode kb_dropFromDraft 42 = .ok (.aload_n 0, 1) := by decide +kernel
theorem db_dropFromDraft_43 : decode kb_dropFromDraft 43 = .ok (.getfield 36, 3) := by decide +kernel
theorem db_dropFromDraft_46 : decode kb_dropFromDraft 46 = .ok (.iload_n 3, 1) := by decide +kernel
theorem db_dropFromDraft_47 : decode kb_dropFromDraft 47 = .ok (.iconst 1, 1) := by decide +kernel
theorem db_dropFromDraft_48 : decode kb_dropFromDraft 48 = .ok (.iadd, 1) := by decide +kernel
theorem db_dropFromDraft_49 : decode kb_dropFromDraft 49 = .ok (.laload, 1) := by decide +kernel
theorem db_dropFromDraft_50 : decode kb_dropFromDraft 50 = .ok (.lastore, 1) := by decide +kernel
theorem db_dropFromDraft_51 : decode kb_dropFromDraft 51 = .ok (.aload_n 0, 1) := by decide +kernel
theorem db_dropFromDraft_52 : decode kb_dropFromDraft 52 = .ok (.getfield 39, 3) := by decide +kernel
theorem db_dropFromDraft_55 : decode kb_dropFromDraft 55 = .ok (.iload_n 3, 1) := by decide +kernel
theorem db_dropFromDraft_56 : decode kb_dropFromDraft 56 = .ok (.aload_n 0, 1) := by decide +kernel
theorem db_dropFromDraft_57 : decode kb_dropFromDraft 57 = .ok (.getfield 39, 3) := by decide +kernel
theorem db_dropFromDraft_60 : decode kb_dropFromDraft 60 = .ok (.iload_n 3, 1) := by decide +kernel
theorem db_dropFromDraft_61 : decode kb_dropFromDraft 61 = .ok (.iconst 1, 1) := by decide +kernel
theorem db_dropFromDraft_62 : decode kb_dropFromDraft 62 = .ok (.iadd, 1) := by decide +kernel
theorem db_dropFromDraft_63 : decode kb_dropFromDraft 63 = .ok (.laload, 1) := by decide +kernel
theorem db_dropFromDraft_64 : decode kb_dropFromDraft 64 = .ok (.lastore, 1) := by decide +kernel
theorem db_dropFromDraft_65 : decode kb_dropFromDraft 65 = .ok (.iinc 3 1, 3) := by decide +kernel
theorem db_dropFromDraft_68 : decode kb_dropFromDraft 68 = .ok (.goto (-39), 3) := by decide +kernel
theorem db_dropFromDraft_71 : decode kb_dropFromDraft 71 = .ok (.iconst 1, 1) := by decide +kernel
theorem db_dropFromDraft_72 : decode kb_dropFromDraft 72 = .ok (.ireturn, 1) := by decide +kernel
theorem db_act_0 : decode kb_act 0 = .ok (.aload_n 0, 1) := by decide +kernel
theorem db_act_1 : decode kb_act 1 = .ok (.getfield 233, 3) := by decide +kernel
theorem db_act_4 : decode kb_act 4 = .ok (.bipush 7, 2) := by decide +kernel
theorem db_act_6 : decode kb_act 6 = .ok (.if_icmp .le 7, 3) := by decide +kernel
theorem db_act_9 : decode kb_act 9 = .ok (.iconst 2, 1) := by decide +kernel
theorem db_act_10 : decode kb_act 10 = .ok (.goto 15, 3) := by decide +kernel
theorem db_act_13 : decode kb_act 13 = .ok (.aload_n 0, 1) := by decide +kernel
theorem db_act_14 : decode kb_act 14 = .ok (.getfield 233, 3) := by decide +kernel
theorem db_act_17 : decode kb_act 17 = .ok (.ifCond .le 7, 3) := by decide +kernel
theorem db_act_20 : decode kb_act 20 = .ok (.iconst 1, 1) := by decide +kernel
theorem db_act_21 : decode kb_act 21 = .ok (.goto 4, 3) := by decide +kernel
theorem db_act_24 : decode kb_act 24 = .ok (.iconst 0, 1) := by decide +kernel
theorem db_act_25 : decode kb_act 25 = .ok (.istore_n 3, 1) := by decide +kernel
theorem db_act_26 : decode kb_act 26 = .ok (.iload_n 2, 1) := by decide +kernel
theorem db_act_27 : decode kb_act 27 = .ok (.iconst (-1), 1) := by decide +kernel
theorem db_act_28 : decode kb_act 28 = .ok (.if_icmp .ne 7, 3) := by decide +kernel
theorem db_act_31 : decode kb_act 31 = .ok (.iconst 0, 1) := by decide +kernel
theorem db_act_32 : decode kb_act 32 = .ok (.goto 4, 3) := by decide +kernel
theorem db_act_35 : decode kb_act 35 = .ok (.iconst 1, 1) := by decide +kernel
theorem db_act_36 : decode kb_act 36 = .ok (.istore 4, 2) := by decide +kernel
theorem db_act_38 : decode kb_act 38 = .ok (.aload_n 0, 1) := by decide +kernel
theorem db_act_39 : decode kb_act 39 = .ok (.iload_n 1, 1) := by decide +kernel
theorem db_act_40 : decode kb_act 40 = .ok (.invokevirtual 96, 3) := by decide +kernel
theorem db_act_43 : decode kb_act 43 = .ok (.iload 4, 2) := by decide +kernel
theorem db_act_45 : decode kb_act 45 = .ok (.isub, 1) := by decide +kernel
theorem db_act_46 : decode kb_act 46 = .ok (.iload_n 3, 1) := by decide +kernel
theorem db_act_47 : decode kb_act 47 = .ok (.iadd, 1) := by decide +kernel
theorem db_act_48 : decode kb_act 48 = .ok (.bipush 16, 2) := by decide +kernel
theorem db_act_50 : decode kb_act 50 = .ok (.if_icmp .le 13, 3) := by decide +kernel
theorem db_act_53 : decode kb_act 53 = .ok (.new 125, 3) := by decide +kernel
theorem db_act_56 : decode kb_act 56 = .ok (.dup, 1) := by decide +kernel
theorem db_act_57 : decode kb_act 57 = .ok (.ldc 242, 2) := by decide +kernel
theorem db_act_59 : decode kb_act 59 = .ok (.invokespecial 129, 3) := by decide +kernel
theorem db_act_62 : decode kb_act 62 = .ok (.athrow, 1) := by decide +kernel
theorem db_act_63 : decode kb_act 63 = .ok (.aload_n 0, 1) := by decide +kernel
theorem db_act_64 : decode kb_act 64 = .ok (.invokevirtual 111, 3) := by decide +kernel
theorem db_act_67 : decode kb_act 67 = .ok (.lstore 5, 2) := by decide +kernel
theorem db_act_69 : decode kb_act 69 = .ok (.iload_n 3, 1) := by decide +kernel
theorem db_act_70 : decode kb_act 70 = .ok (.ifCond .le 13, 3) := by decide +kernel
theorem db_act_73 : decode kb_act 73 = .ok (.aload_n 0, 1) := by decide +kernel
theorem db_act_74 : decode kb_act 74 = .ok (.lload 5, 2) := by decide +kernel
theorem db_act_76 : decode kb_act 76 = .ok (.iconst 0, 1) := by decide +kernel
theorem db_act_77 : decode kb_act 77 = .ok (.invokevirtual 244, 3) := by decide +kernel
theorem db_act_80 : decode kb_act 80 = .ok (.goto 4, 3) := by decide +kernel
theorem db_act_83 : decode kb_act 83 = .ok (.iconst 0, 1) := by decide +kernel
theorem db_act_84 : decode kb_act 84 = .ok (.istore 7, 2) := by decide +kernel
theorem db_act_86 : decode kb_act 86 = .ok (.iload_n 3, 1) := by decide +kernel
theorem db_act_87 : decode kb_act 87 = .ok (.iconst 1, 1) := by decide +kernel
theorem db_act_88 : decode kb_act 88 = .ok (.if_icmp .le 22, 3) := by decide +kernel
theorem db_act_91 : decode kb_act 91 = .ok (.iload 7, 2) := by decide +kernel
theorem db_act_93 : decode kb_act 93 = .ok (.iconst (-1), 1) := by decide +kernel
theorem db_act_94 : decode kb_act 94 = .ok (.if_icmp .eq 16, 3) := by decide +kernel
theorem db_act_97 : decode kb_act 97 = .ok (.aload_n 0, 1) := by decide +kernel
theorem db_act_98 : decode kb_act 98 = .ok (.lload 5, 2) := by decide +kernel
theorem db_act_100 : decode kb_act 100 = .ok (.iload 7, 2) := by decide +kernel
theorem db_act_102 : decode kb_act 102 = .ok (.iconst 1, 1) := by decide +kernel
theorem db_act_103 : decode kb_act 103 = .ok (.iadd, 1) := by decide +kernel
theorem db_act_104 : decode kb_act 104 = .ok (.invokevirtual 244, 3) := by decide +kernel
theorem db_act_107 : decode kb_act 107 = .ok (.goto 4, 3) := by decide +kernel
theorem db_act_110 : decode kb_act 110 = .ok (.iconst 0, 1) := by decide +kernel
theorem db_act_111 : decode kb_act 111 = .ok (.istore 8, 2) := by decide +kernel
theorem db_act_113 : decode kb_act 113 = .ok (.iload 7, 2) := by decide +kernel
theorem db_act_115 : decode kb_act 115 = .ok (.iconst (-1), 1) := by decide +kernel
theorem db_act_116 : decode kb_act 116 = .ok (.if_icmp .eq 9, 3) := by decide +kernel
theorem db_act_119 : decode kb_act 119 = .ok (.iload 8, 2) := by decide +kernel
theorem db_act_121 : decode kb_act 121 = .ok (.iconst (-1), 1) := by decide +kernel
theorem db_act_122 : decode kb_act 122 = .ok (.if_icmp .ne 13, 3) := by decide +kernel
theorem db_act_125 : decode kb_act 125 = .ok (.new 125, 3) := by decide +kernel
theorem db_act_128 : decode kb_act 128 = .ok (.dup, 1) := by decide +kernel
theorem db_act_129 : decode kb_act 129 = .ok (.ldc 248, 2) := by decide +kernel
theorem db_act_131 : decode kb_act 131 = .ok (.invokespecial 129, 3) := by decide +kernel
theorem db_act_134 : decode kb_act 134 = .ok (.athrow, 1) := by decide +kernel
theorem db_act_135 : decode kb_act 135 = .ok (.aload_n 0, 1) := by decide +kernel
theorem db_act_136 : decode kb_act 136 = .ok (.getfield 29, 3) := by decide +kernel
theorem db_act_139 : decode kb_act 139 = .ok (.iconst 0, 1) := by decide +kernel
theorem db_act_140 : decode kb_act 140 = .ok (.iload 7, 2) := by decide +kernel
theorem db_act_142 : decode kb_act 142 = .ok (.iastore, 1) := by decide +kernel
theorem db_act_143 : decode kb_act 143 = .ok (.aload_n 0, 1) := by decide +kernel
theorem db_act_144 : decode kb_act 144 = .ok (.getfield 29, 3) := by decide +kernel
theorem db_act_147 : decode kb_act 147 = .ok (.iconst 1, 1) := by decide +kernel
theorem db_act_148 : decode kb_act 148 = .ok (.iload 8, 2) := by decide +kernel
theorem db_act_150 : decode kb_act 150 = .ok (.iastore, 1) := by decide +kernel
theorem db_act_151 : decode kb_act 151 = .ok (.aload_n 0, 1) := by decide +kernel
theorem db_act_152 : decode kb_act 152 = .ok (.iload_n 3, 1) := by decide +kernel
theorem db_act_153 : decode kb_act 153 = .ok (.putfield 250, 3) := by decide +kernel
theorem db_act_156 : decode kb_act 156 = .ok (.aload_n 0, 1) := by decide +kernel
theorem db_act_157 : decode kb_act 157 = .ok (.aload_n 0, 1) := by decide +kernel
theorem db_act_158 : decode kb_act 158 = .ok (.getfield 52, 3) := by decide +kernel
theorem db_act_161 : decode kb_act 161 = .ok (.iconst 1, 1) := by decide +kernel
theorem db_act_162 : decode kb_act 162 = .ok (.iadd, 1) := by decide +kernel
theorem db_act_163 : decode kb_act 163 = .ok (.invokestatic 55, 3) := by decide +kernel
theorem db_act_166 : decode kb_act 166 = .ok (.putfield 253, 3) := by decide +kernel
theorem db_act_169 : decode kb_act 169 = .ok (.aload_n 0, 1) := by decide +kernel
theorem db_act_170 : decode kb_act 170 = .ok (.invokevirtual 256, 3) := by decide +kernel
theorem db_act_173 : decode kb_act 173 = .ok (.aload_n 0, 1) := by decide +kernel
theorem db_act_174 : decode kb_act 174 = .ok (.invokevirtual 259, 3) := by decide +kernel
theorem db_act_177 : decode kb_act 177 = .ok (.aload_n 0, 1) := by decide +kernel
theorem db_act_178 : decode kb_act 178 = .ok (.iload_n 1, 1) := by decide +kernel
theorem db_act_179 : decode kb_act 179 = .ok (.iload_n 2, 1) := by decide +kernel
theorem db_act_180 : decode kb_act 180 = .ok (.invokevirtual 262, 3) := by decide +kernel
theorem db_act_183 : decode kb_act 183 = .ok (.aload_n 0, 1) := by decide +kernel
theorem db_act_184 : decode kb_act 184 = .ok (.dup, 1) := by decide +kernel
theorem db_act_185 : decode kb_act 185 = .ok (.getfield 52, 3) := by decide +kernel
theorem db_act_188 : decode kb_act 188 = .ok (.iconst 1, 1) := by decide +kernel
theorem db_act_189 : decode kb_act 189 = .ok (.iadd, 1) := by decide +kernel
theorem db_act_190 : decode kb_act 190 = .ok (.putfield 52, 3) := by decide +kernel
theorem db_act_193 : decode kb_act 193 = .ok (.aload_n 0, 1) := by decide +kernel
theorem db_act_194 : decode kb_act 194 = .ok (.iconst 1, 1) := by decide +kernel
theorem db_act_195 : decode kb_act 195 = .ok (.putfield 121, 3) := by decide +kernel
theorem db_act_198 : decode kb_act 198 = .ok (.aload_n 0, 1) := by decide +kernel
theorem db_act_199 : decode kb_act 199 = .ok (.getfield 52, 3) := by decide +kernel
theorem db_act_202 : decode kb_act 202 = .ok (.ireturn, 1) := by decide +kernel
theorem db_pageNotIn_0 : decode kb_pageNotIn 0 = .ok (.iload_n 3, 1) := by decide +kernel
theorem db_pageNotIn_1 : decode kb_pageNotIn 1 = .ok (.istore 4, 2) := by decide +kernel
theorem db_pageNotIn_3 : decode kb_pageNotIn 3 = .ok (.iload 4, 2) := by decide +kernel
theorem db_pageNotIn_5 : decode kb_pageNotIn 5 = .ok (.aload_n 0, 1) := by decide +kernel
theorem db_pageNotIn_6 : decode kb_pageNotIn 6 = .ok (.getfield 18, 3) := by decide +kernel
theorem db_pageNotIn_9 : decode kb_pageNotIn 9 = .ok (.if_icmp .ge 21, 3) := by decide +kernel
theorem db_pageNotIn_12 : decode kb_pageNotIn 12 = .ok (.lload_n 1, 1) := by decide +kernel
theorem db_pageNotIn_13 : decode kb_pageNotIn 13 = .ok (.iload 4, 2) := by decide +kernel
theorem db_pageNotIn_15 : decode kb_pageNotIn 15 = .ok (.invokestatic 155, 3) := by decide +kernel
theorem db_pageNotIn_18 : decode kb_pageNotIn 18 = .ok (.ifCond .ne 6, 3) := by decide +kernel
theorem db_pageNotIn_21 : decode kb_pageNotIn 21 = .ok (.iload 4, 2) := by decide +kernel
theorem db_pageNotIn_23 : decode kb_pageNotIn 23 = .ok (.ireturn, 1) := by decide +kernel
theorem db_pageNotIn_24 : decode kb_pageNotIn 24 = .ok (.iinc 4 1, 3) := by decide +kernel
theorem db_pageNotIn_27 : decode kb_pageNotIn 27 = .ok (.goto (-24), 3) := by decide +kernel
theorem db_pageNotIn_30 : decode kb_pageNotIn 30 = .ok (.iconst (-1), 1) := by decide +kernel
theorem db_pageNotIn_31 : decode kb_pageNotIn 31 = .ok (.ireturn, 1) := by decide +kernel
theorem db_writeLeaves_0 : decode kb_writeLeaves 0 = .ok (.aload_n 0, 1) := by decide +kernel
theorem db_writeLeaves_1 : decode kb_writeLeaves 1 = .ok (.getfield 250, 3) := by decide +kernel
theorem db_writeLeaves_4 : decode kb_writeLeaves 4 = .ok (.iconst 1, 1) := by decide +kernel
theorem db_writeLeaves_5 : decode kb_writeLeaves 5 = .ok (.if_icmp .ne 18, 3) := by decide +kernel
theorem db_writeLeaves_8 : decode kb_writeLeaves 8 = .ok (.aload_n 0, 1) := by decide +kernel
theorem db_writeLeaves_9 : decode kb_writeLeaves 9 = .ok (.aload_n 0, 1) := by decide +kernel
theorem db_writeLeaves_10 : decode kb_writeLeaves 10 = .ok (.getfield 29, 3) := by decide +kernel
theorem db_writeLeaves_13 : decode kb_writeLeaves 13 = .ok (.iconst 0, 1) := by decide +kernel
theorem db_writeLeaves_14 : decode kb_writeLeaves 14 = .ok (.iaload, 1) := by decide +kernel
theorem db_writeLeaves_15 : decode kb_writeLeaves 15 = .ok (.iconst 0, 1) := by decide +kernel
theorem db_writeLeaves_16 : decode kb_writeLeaves 16 = .ok (.aload_n 0, 1) := by decide +kernel
theorem db_writeLeaves_17 : decode kb_writeLeaves 17 = .ok (.getfield 233, 3) := by decide +kernel
theorem db_writeLeaves_20 : decode kb_writeLeaves 20 = .ok (.invokevirtual 265, 3) := by decide +kernel
theorem db_writeLeaves_23 : decode kb_writeLeaves 23 = .ok (.aload_n 0, 1) := by decide +kernel
theorem db_writeLeaves_24 : decode kb_writeLeaves 24 = .ok (.getfield 250, 3) := by decide +kernel
theorem db_writeLeaves_27 : decode kb_writeLeaves 27 = .ok (.iconst 2, 1) := by decide +kernel
theorem db_writeLeaves_28 : decode kb_writeLeaves 28 = .ok (.if_icmp .ne 30, 3) := by decide +kernel
theorem db_writeLeaves_31 : decode kb_writeLeaves 31 = .ok (.aload_n 0, 1) := by decide +kernel
theorem db_writeLeaves_32 : decode kb_writeLeaves 32 = .ok (.aload_n 0, 1) := by decide +kernel
theorem db_writeLeaves_33 : decode kb_writeLeaves 33 = .ok (.getfield 29, 3) := by decide +kernel
theorem db_writeLeaves_36 : decode kb_writeLeaves 36 = .ok (.iconst 0, 1) := by decide +kernel
theorem db_writeLeaves_37 : decode kb_writeLeaves 37 = .ok (.iaload, 1) := by decide +kernel
theorem db_writeLeaves_38 : decode kb_writeLeaves 38 = .ok (.iconst 0, 1) := by decide +kernel
theorem db_writeLeaves_39 : decode kb_writeLeaves 39 = .ok (.iconst 4, 1) := by decide +kernel
theorem db_writeLeaves_40 : decode kb_writeLeaves 40 = .ok (.invokevirtual 265, 3) := by decide +kernel
theorem db_writeLeaves_43 : decode kb_writeLeaves 43 = .ok (.aload_n 0, 1) := by decide +kernel
theorem db_writeLeaves_44 : decode kb_writeLeaves 44 = .ok (.aload_n 0, 1) := by decide +kernel
theorem db_writeLeaves_45 : decode kb_writeLeaves 45 = .ok (.getfield 29, 3) := by decide +kernel
theorem db_writeLeaves_48 : decode kb_writeLeaves 48 = .ok (.iconst 1, 1) := by decide +kernel
theorem db_writeLeaves_49 : decode kb_writeLeaves 49 = .ok (.iaload, 1) := by decide +kernel
theorem db_writeLeaves_50 : decode kb_writeLeaves 50 = .ok (.iconst 4, 1) := by decide +kernel
theorem db_writeLeaves_51 : decode kb_writeLeaves 51 = .ok (.aload_n 0, 1) := by decide +kernel
theorem db_writeLeaves_52 : decode kb_writeLeaves 52 = .ok (.getfield 233, 3) := by decide +kernel
theorem db_writeLeaves_55 : decode kb_writeLeaves 55 = .ok (.invokevirtual 265, 3) := by decide +kernel
theorem db_writeLeaves_58 : decode kb_writeLeaves 58 = .ok (.return_, 1) := by decide +kernel
theorem db_writeLeaf_0 : decode kb_writeLeaf 0 = .ok (.iload_n 1, 1) := by decide +kernel
theorem db_writeLeaf_1 : decode kb_writeLeaf 1 = .ok (.bipush 16, 2) := by decide +kernel
theorem db_writeLeaf_3 : decode kb_writeLeaf 3 = .ok (.imul, 1) := by decide +kernel
theorem db_writeLeaf_4 : decode kb_writeLeaf 4 = .ok (.istore 4, 2) := by decide +kernel
theorem db_writeLeaf_6 : decode kb_writeLeaf 6 = .ok (.iconst 0, 1) := by decide +kernel
theorem db_writeLeaf_7 : decode kb_writeLeaf 7 = .ok (.istore 5, 2) := by decide +kernel
theorem db_writeLeaf_9 : decode kb_writeLeaf 9 = .ok (.iload 5, 2) := by decide +kernel
theorem db_writeLeaf_11 : decode kb_writeLeaf 11 = .ok (.bipush 16, 2) := by decide +kernel
theorem db_writeLeaf_13 : decode kb_writeLeaf 13 = .ok (.if_icmp .ge 20, 3) := by decide +kernel
theorem db_writeLeaf_16 : decode kb_writeLeaf 16 = .ok (.aload_n 0, 1) := by decide +kernel
theorem db_writeLeaf_17 : decode kb_writeLeaf 17 = .ok (.getfield 22, 3) := by decide +kernel
theorem db_writeLeaf_20 : decode kb_writeLeaf 20 = .ok (.iload 4, 2) := by decide +kernel
theorem db_writeLeaf_22 : decode kb_writeLeaf 22 = .ok (.iload 5, 2) := by decide +kernel
theorem db_writeLeaf_24 : decode kb_writeLeaf 24 = .ok (.iadd, 1) := by decide +kernel
theorem db_writeLeaf_25 : decode kb_writeLeaf 25 = .ok (.lconst 0, 1) := by decide +kernel
theorem db_writeLeaf_26 : decode kb_writeLeaf 26 = .ok (.lastore, 1) := by decide +kernel
theorem db_writeLeaf_27 : decode kb_writeLeaf 27 = .ok (.iinc 5 1, 3) := by decide +kernel
theorem db_writeLeaf_30 : decode kb_writeLeaf 30 = .ok (.goto (-21), 3) := by decide +kernel
theorem db_writeLeaf_33 : decode kb_writeLeaf 33 = .ok (.aload_n 0, 1) := by decide +kernel
theorem db_writeLeaf_34 : decode kb_writeLeaf 34 = .ok (.getfield 22, 3) := by decide +kernel
theorem db_writeLeaf_37 : decode kb_writeLeaf 37 = .ok (.iload 4, 2) := by decide +kernel
theorem db_writeLeaf_39 : decode kb_writeLeaf 39 = .ok (.iload_n 3, 1) := by decide +kernel
theorem db_writeLeaf_40 : decode kb_writeLeaf 40 = .ok (.iload_n 2, 1) := by decide +kernel
theorem db_writeLeaf_41 : decode kb_writeLeaf 41 = .ok (.isub, 1) := by decide +kernel
theorem db_writeLeaf_42 : decode kb_writeLeaf 42 = .ok (.i2l, 1) := by decide +kernel
theorem db_writeLeaf_43 : decode kb_writeLeaf 43 = .ok (.lastore, 1) := by decide +kernel
theorem db_writeLeaf_44 : decode kb_writeLeaf 44 = .ok (.iload_n 2, 1) := by decide +kernel
theorem db_writeLeaf_45 : decode kb_writeLeaf 45 = .ok (.istore 5, 2) := by decide +kernel
theorem db_writeLeaf_47 : decode kb_writeLeaf 47 = .ok (.iload 5, 2) := by decide +kernel
theorem db_writeLeaf_49 : decode kb_writeLeaf 49 = .ok (.iload_n 3, 1) := by decide +kernel
theorem db_writeLeaf_50 : decode kb_writeLeaf 50 = .ok (.if_icmp .ge 51, 3) := by decide +kernel
theorem db_writeLeaf_53 : decode kb_writeLeaf 53 = .ok (.aload_n 0, 1) := by decide +kernel
theorem db_writeLeaf_54 : decode kb_writeLeaf 54 = .ok (.getfield 22, 3) := by decide +kernel
theorem db_writeLeaf_57 : decode kb_writeLeaf 57 = .ok (.iload_n 1, 1) := by decide +kernel
theorem db_writeLeaf_58 : decode kb_writeLeaf 58 = .ok (.iload 5, 2) := by decide +kernel
theorem db_writeLeaf_60 : decode kb_writeLeaf 60 = .ok (.iload_n 2, 1) := by decide +kernel
theorem db_writeLeaf_61 : decode kb_writeLeaf 61 = .ok (.isub, 1) := by decide +kernel
theorem db_writeLeaf_62 : decode kb_writeLeaf 62 = .ok (.invokestatic 230, 3) := by decide +kernel
theorem db_writeLeaf_65 : decode kb_writeLeaf 65 = .ok (.aload_n 0, 1) := by decide +kernel
theorem db_writeLeaf_66 : decode kb_writeLeaf 66 = .ok (.getfield 36, 3) := by decide +kernel
theorem db_writeLeaf_69 : decode kb_writeLeaf 69 = .ok (.iload 5, 2) := by decide +kernel
theorem db_writeLeaf_71 : decode kb_writeLeaf 71 = .ok (.laload, 1) := by decide +kernel
theorem db_writeLeaf_72 : decode kb_writeLeaf 72 = .ok (.lastore, 1) := by decide +kernel
theorem db_writeLeaf_73 : decode kb_writeLeaf 73 = .ok (.aload_n 0, 1) := by decide +kernel
theorem db_writeLeaf_74 : decode kb_writeLeaf 74 = .ok (.getfield 22, 3) := by decide +kernel
theorem db_writeLeaf_77 : decode kb_writeLeaf 77 = .ok (.iload_n 1, 1) := by decide +kernel
theorem db_writeLeaf_78 : decode kb_writeLeaf 78 = .ok (.iload 5, 2) := by decide +kernel
theorem db_writeLeaf_80 : decode kb_writeLeaf 80 = .ok (.iload_n 2, 1) := by decide +kernel
theorem db_writeLeaf_81 : decode kb_writeLeaf 81 = .ok (.isub, 1) := by decide +kernel
theorem db_writeLeaf_82 : decode kb_writeLeaf 82 = .ok (.invokestatic 230, 3) := by decide +kernel
theorem db_writeLeaf_85 : decode kb_writeLeaf 85 = .ok (.iconst 1, 1) := by decide +kernel
theorem db_writeLeaf_86 : decode kb_writeLeaf 86 = .ok (.iadd, 1) := by decide +kernel
theorem db_writeLeaf_87 : decode kb_writeLeaf 87 = .ok (.aload_n 0, 1) := by decide +kernel
theorem db_writeLeaf_88 : decode kb_writeLeaf 88 = .ok (.getfield 39, 3) := by decide +kernel
theorem db_writeLeaf_91 : decode kb_writeLeaf 91 = .ok (.iload 5, 2) := by decide +kernel
theorem db_writeLeaf_93 : decode kb_writeLeaf 93 = .ok (.laload, 1) := by decide +kernel
theorem db_writeLeaf_94 : decode kb_writeLeaf 94 = .ok (.lastore, 1) := by decide +kernel
theorem db_writeLeaf_95 : decode kb_writeLeaf 95 = .ok (.iinc 5 1, 3) := by decide +kernel
theorem db_writeLeaf_98 : decode kb_writeLeaf 98 = .ok (.goto (-51), 3) := by decide +kernel
theorem db_writeLeaf_101 : decode kb_writeLeaf 101 = .ok (.aload_n 0, 1) := by decide +kernel
theorem db_writeLeaf_102 : decode kb_writeLeaf 102 = .ok (.getfield 22, 3) := by decide +kernel
theorem db_writeLeaf_105 : decode kb_writeLeaf 105 = .ok (.iload 4, 2) := by decide +kernel
theorem db_writeLeaf_107 : decode kb_writeLeaf 107 = .ok (.bipush 15, 2) := by decide +kernel
theorem db_writeLeaf_109 : decode kb_writeLeaf 109 = .ok (.iadd, 1) := by decide +kernel
theorem db_writeLeaf_110 : decode kb_writeLeaf 110 = .ok (.aload_n 0, 1) := by decide +kernel
theorem db_writeLeaf_111 : decode kb_writeLeaf 111 = .ok (.getfield 22, 3) := by decide +kernel
theorem db_writeLeaf_114 : decode kb_writeLeaf 114 = .ok (.iload 4, 2) := by decide +kernel
theorem db_writeLeaf_116 : decode kb_writeLeaf 116 = .ok (.bipush 15, 2) := by decide +kernel
theorem db_writeLeaf_118 : decode kb_writeLeaf 118 = .ok (.invokestatic 194, 3) := by decide +kernel
theorem db_writeLeaf_121 : decode kb_writeLeaf 121 = .ok (.lastore, 1) := by decide +kernel
theorem db_writeLeaf_122 : decode kb_writeLeaf 122 = .ok (.return_, 1) := by decide +kernel
theorem db_writeRoot_0 : decode kb_writeRoot 0 = .ok (.aload_n 0, 1) := by decide +kernel
theorem db_writeRoot_1 : decode kb_writeRoot 1 = .ok (.getfield 253, 3) := by decide +kernel
theorem db_writeRoot_4 : decode kb_writeRoot 4 = .ok (.bipush 20, 2) := by decide +kernel
theorem db_writeRoot_6 : decode kb_writeRoot 6 = .ok (.imul, 1) := by decide +kernel
theorem db_writeRoot_7 : decode kb_writeRoot 7 = .ok (.istore_n 3, 1) := by decide +kernel
theorem db_writeRoot_8 : decode kb_writeRoot 8 = .ok (.iload_n 2, 1) := by decide +kernel
theorem db_writeRoot_9 : decode kb_writeRoot 9 = .ok (.iconst (-1), 1) := by decide +kernel
theorem db_writeRoot_10 : decode kb_writeRoot 10 = .ok (.if_icmp .ne 7, 3) := by decide +kernel
theorem db_writeRoot_13 : decode kb_writeRoot 13 = .ok (.iconst 0, 1) := by decide +kernel
theorem db_writeRoot_14 : decode kb_writeRoot 14 = .ok (.goto 13, 3) := by decide +kernel
theorem db_writeRoot_17 : decode kb_writeRoot 17 = .ok (.aload_n 0, 1) := by decide +kernel
theorem db_writeRoot_18 : decode kb_writeRoot 18 = .ok (.aload_n 0, 1) := by decide +kernel
theorem db_writeRoot_19 : decode kb_writeRoot 19 = .ok (.iload_n 1, 1) := by decide +kernel
theorem db_writeRoot_20 : decode kb_writeRoot 20 = .ok (.iload_n 2, 1) := by decide +kernel
theorem db_writeRoot_21 : decode kb_writeRoot 21 = .ok (.invokevirtual 206, 3) := by decide +kernel
theorem db_writeRoot_24 : decode kb_writeRoot 24 = .ok (.invokevirtual 209, 3) := by decide +kernel
theorem db_writeRoot_27 : decode kb_writeRoot 27 = .ok (.istore 4, 2) := by decide +kernel
theorem db_writeRoot_29 : decode kb_writeRoot 29 = .ok (.iload_n 2, 1) := by decide +kernel
theorem db_writeRoot_30 : decode kb_writeRoot 30 = .ok (.iconst (-1), 1) := by decide +kernel
theorem db_writeRoot_31 : decode kb_writeRoot 31 = .ok (.if_icmp .ne 7, 3) := by decide +kernel
theorem db_writeRoot_34 : decode kb_writeRoot 34 = .ok (.iconst 0, 1) := by decide +kernel
theorem db_writeRoot_35 : decode kb_writeRoot 35 = .ok (.goto 4, 3) := by decide +kernel
theorem db_writeRoot_38 : decode kb_writeRoot 38 = .ok (.iload_n 2, 1) := by decide +kernel
theorem db_writeRoot_39 : decode kb_writeRoot 39 = .ok (.istore 5, 2) := by decide +kernel
theorem db_writeRoot_41 : decode kb_writeRoot 41 = .ok (.aload_n 0, 1) := by decide +kernel
theorem db_writeRoot_42 : decode kb_writeRoot 42 = .ok (.iload_n 1, 1) := by decide +kernel
theorem db_writeRoot_43 : decode kb_writeRoot 43 = .ok (.invokevirtual 96, 3) := by decide +kernel
theorem db_writeRoot_46 : decode kb_writeRoot 46 = .ok (.istore 6, 2) := by decide +kernel
theorem db_writeRoot_48 : decode kb_writeRoot 48 = .ok (.aload_n 0, 1) := by decide +kernel
theorem db_writeRoot_49 : decode kb_writeRoot 49 = .ok (.aload_n 0, 1) := by decide +kernel
theorem db_writeRoot_50 : decode kb_writeRoot 50 = .ok (.getfield 253, 3) := by decide +kernel
theorem db_writeRoot_53 : decode kb_writeRoot 53 = .ok (.invokevirtual 269, 3) := by decide +kernel
theorem db_writeRoot_56 : decode kb_writeRoot 56 = .ok (.iconst 0, 1) := by decide +kernel
theorem db_writeRoot_57 : decode kb_writeRoot 57 = .ok (.istore 7, 2) := by decide +kernel
theorem db_writeRoot_59 : decode kb_writeRoot 59 = .ok (.iconst 0, 1) := by decide +kernel
theorem db_writeRoot_60 : decode kb_writeRoot 60 = .ok (.istore 8, 2) := by decide +kernel
theorem db_writeRoot_62 : decode kb_writeRoot 62 = .ok (.iload 8, 2) := by decide +kernel
theorem db_writeRoot_64 : decode kb_writeRoot 64 = .ok (.iload 5, 2) := by decide +kernel
theorem db_writeRoot_66 : decode kb_writeRoot 66 = .ok (.if_icmp .ge 31, 3) := by decide +kernel
theorem db_writeRoot_69 : decode kb_writeRoot 69 = .ok (.aload_n 0, 1) := by decide +kernel
theorem db_writeRoot_70 : decode kb_writeRoot 70 = .ok (.getfield 26, 3) := by decide +kernel
theorem db_writeRoot_73 : decode kb_writeRoot 73 = .ok (.iload_n 3, 1) := by decide +kernel
theorem db_writeRoot_74 : decode kb_writeRoot 74 = .ok (.iconst 2, 1) := by decide +kernel
theorem db_writeRoot_75 : decode kb_writeRoot 75 = .ok (.iadd, 1) := by decide +kernel
theorem db_writeRoot_76 : decode kb_writeRoot 76 = .ok (.iload 7, 2) := by decide +kernel
theorem db_writeRoot_78 : decode kb_writeRoot 78 = .ok (.iadd, 1) := by decide +kernel
theorem db_writeRoot_79 : decode kb_writeRoot 79 = .ok (.aload_n 0, 1) := by decide +kernel
theorem db_writeRoot_80 : decode kb_writeRoot 80 = .ok (.iload_n 1, 1) := by decide +kernel
theorem db_writeRoot_81 : decode kb_writeRoot 81 = .ok (.iload 8, 2) := by decide +kernel
theorem db_writeRoot_83 : decode kb_writeRoot 83 = .ok (.invokevirtual 206, 3) := by decide +kernel
theorem db_writeRoot_86 : decode kb_writeRoot 86 = .ok (.i2l, 1) := by decide +kernel
theorem db_writeRoot_87 : decode kb_writeRoot 87 = .ok (.lastore, 1) := by decide +kernel
theorem db_writeRoot_88 : decode kb_writeRoot 88 = .ok (.iinc 7 1, 3) := by decide +kernel
theorem db_writeRoot_91 : decode kb_writeRoot 91 = .ok (.iinc 8 1, 3) := by decide +kernel
theorem db_writeRoot_94 : decode kb_writeRoot 94 = .ok (.goto (-32), 3) := by decide +kernel
theorem db_writeRoot_97 : decode kb_writeRoot 97 = .ok (.iconst 0, 1) := by decide +kernel
theorem db_writeRoot_98 : decode kb_writeRoot 98 = .ok (.istore 8, 2) := by decide +kernel
theorem db_writeRoot_100 : decode kb_writeRoot 100 = .ok (.iload 8, 2) := by decide +kernel
theorem db_writeRoot_102 : decode kb_writeRoot 102 = .ok (.aload_n 0, 1) := by decide +kernel
theorem db_writeRoot_103 : decode kb_writeRoot 103 = .ok (.getfield 250, 3) := by decide +kernel
theorem db_writeRoot_106 : decode kb_writeRoot 106 = .ok (.if_icmp .ge 31, 3) := by decide +kernel
theorem db_writeRoot_109 : decode kb_writeRoot 109 = .ok (.aload_n 0, 1) := by decide +kernel
theorem db_writeRoot_110 : decode kb_writeRoot 110 = .ok (.getfield 26, 3) := by decide +kernel
theorem db_writeRoot_113 : decode kb_writeRoot 113 = .ok (.iload_n 3, 1) := by decide +kernel
theorem db_writeRoot_114 : decode kb_writeRoot 114 = .ok (.iconst 2, 1) := by decide +kernel
theorem db_writeRoot_115 : decode kb_writeRoot 115 = .ok (.iadd, 1) := by decide +kernel
theorem db_writeRoot_116 : decode kb_writeRoot 116 = .ok (.iload 7, 2) := by decide +kernel
theorem db_writeRoot_118 : decode kb_writeRoot 118 = .ok (.iadd, 1) := by decide +kernel
theorem db_writeRoot_119 : decode kb_writeRoot 119 = .ok (.aload_n 0, 1) := by decide +kernel
theorem db_writeRoot_120 : decode kb_writeRoot 120 = .ok (.getfield 29, 3) := by decide +kernel
theorem db_writeRoot_123 : decode kb_writeRoot 123 = .ok (.iload 8, 2) := by decide +kernel
theorem db_writeRoot_125 : decode kb_writeRoot 125 = .ok (.iaload, 1) := by decide +kernel
theorem db_writeRoot_126 : decode kb_writeRoot 126 = .ok (.i2l, 1) := by decide +kernel
theorem db_writeRoot_127 : decode kb_writeRoot 127 = .ok (.lastore, 1) := by decide +kernel
theorem db_writeRoot_128 : decode kb_writeRoot 128 = .ok (.iinc 7 1, 3) := by decide +kernel
theorem db_writeRoot_131 : decode kb_writeRoot 131 = .ok (.iinc 8 1, 3) := by decide +kernel
theorem db_writeRoot_134 : decode kb_writeRoot 134 = .ok (.goto (-34), 3) := by decide +kernel
theorem db_writeRoot_137 : decode kb_writeRoot 137 = .ok (.iload 5, 2) := by decide +kernel
theorem db_writeRoot_139 : decode kb_writeRoot 139 = .ok (.iconst 1, 1) := by decide +kernel
theorem db_writeRoot_140 : decode kb_writeRoot 140 = .ok (.iadd, 1) := by decide +kernel
theorem db_writeRoot_141 : decode kb_writeRoot 141 = .ok (.istore 8, 2) := by decide +kernel
theorem db_writeRoot_143 : decode kb_writeRoot 143 = .ok (.iload 8, 2) := by decide +kernel
theorem db_writeRoot_145 : decode kb_writeRoot 145 = .ok (.iload 6, 2) := by decide +kernel
theorem db_writeRoot_147 : decode kb_writeRoot 147 = .ok (.if_icmp .ge 31, 3) := by decide +kernel
theorem db_writeRoot_150 : decode kb_writeRoot 150 = .ok (.aload_n 0, 1) := by decide +kernel
theorem db_writeRoot_151 : decode kb_writeRoot 151 = .ok (.getfield 26, 3) := by decide +kernel
theorem db_writeRoot_154 : decode kb_writeRoot 154 = .ok (.iload_n 3, 1) := by decide +kernel
theorem db_writeRoot_155 : decode kb_writeRoot 155 = .ok (.iconst 2, 1) := by decide +kernel
theorem db_writeRoot_156 : decode kb_writeRoot 156 = .ok (.iadd, 1) := by decide +kernel
theorem db_writeRoot_157 : decode kb_writeRoot 157 = .ok (.iload 7, 2) := by decide +kernel
theorem db_writeRoot_159 : decode kb_writeRoot 159 = .ok (.iadd, 1) := by decide +kernel
theorem db_writeRoot_160 : decode kb_writeRoot 160 = .ok (.aload_n 0, 1) := by decide +kernel
theorem db_writeRoot_161 : decode kb_writeRoot 161 = .ok (.iload_n 1, 1) := by decide +kernel
theorem db_writeRoot_162 : decode kb_writeRoot 162 = .ok (.iload 8, 2) := by decide +kernel
theorem db_writeRoot_164 : decode kb_writeRoot 164 = .ok (.invokevirtual 206, 3) := by decide +kernel
theorem db_writeRoot_167 : decode kb_writeRoot 167 = .ok (.i2l, 1) := by decide +kernel
theorem db_writeRoot_168 : decode kb_writeRoot 168 = .ok (.lastore, 1) := by decide +kernel
theorem db_writeRoot_169 : decode kb_writeRoot 169 = .ok (.iinc 7 1, 3) := by decide +kernel
theorem db_writeRoot_172 : decode kb_writeRoot 172 = .ok (.iinc 8 1, 3) := by decide +kernel
theorem db_writeRoot_175 : decode kb_writeRoot 175 = .ok (.goto (-32), 3) := by decide +kernel
theorem db_writeRoot_178 : decode kb_writeRoot 178 = .ok (.aload_n 0, 1) := by decide +kernel
theorem db_writeRoot_179 : decode kb_writeRoot 179 = .ok (.getfield 26, 3) := by decide +kernel
theorem db_writeRoot_182 : decode kb_writeRoot 182 = .ok (.iload_n 3, 1) := by decide +kernel
theorem db_writeRoot_183 : decode kb_writeRoot 183 = .ok (.aload_n 0, 1) := by decide +kernel
theorem db_writeRoot_184 : decode kb_writeRoot 184 = .ok (.getfield 52, 3) := by decide +kernel
theorem db_writeRoot_187 : decode kb_writeRoot 187 = .ok (.iconst 1, 1) := by decide +kernel
theorem db_writeRoot_188 : decode kb_writeRoot 188 = .ok (.iadd, 1) := by decide +kernel
theorem db_writeRoot_189 : decode kb_writeRoot 189 = .ok (.i2l, 1) := by decide +kernel
theorem db_writeRoot_190 : decode kb_writeRoot 190 = .ok (.lastore, 1) := by decide +kernel
theorem db_writeRoot_191 : decode kb_writeRoot 191 = .ok (.aload_n 0, 1) := by decide +kernel
theorem db_writeRoot_192 : decode kb_writeRoot 192 = .ok (.getfield 26, 3) := by decide +kernel
theorem db_writeRoot_195 : decode kb_writeRoot 195 = .ok (.iload_n 3, 1) := by decide +kernel
theorem db_writeRoot_196 : decode kb_writeRoot 196 = .ok (.iconst 1, 1) := by decide +kernel
theorem db_writeRoot_197 : decode kb_writeRoot 197 = .ok (.iadd, 1) := by decide +kernel
theorem db_writeRoot_198 : decode kb_writeRoot 198 = .ok (.iload 7, 2) := by decide +kernel
theorem db_writeRoot_200 : decode kb_writeRoot 200 = .ok (.i2l, 1) := by decide +kernel
theorem db_writeRoot_201 : decode kb_writeRoot 201 = .ok (.lastore, 1) := by decide +kernel
theorem db_writeRoot_202 : decode kb_writeRoot 202 = .ok (.aload_n 0, 1) := by decide +kernel
theorem db_writeRoot_203 : decode kb_writeRoot 203 = .ok (.getfield 26, 3) := by decide +kernel
theorem db_writeRoot_206 : decode kb_writeRoot 206 = .ok (.iload_n 3, 1) := by decide +kernel
theorem db_writeRoot_207 : decode kb_writeRoot 207 = .ok (.bipush 18, 2) := by decide +kernel
theorem db_writeRoot_209 : decode kb_writeRoot 209 = .ok (.iadd, 1) := by decide +kernel
theorem db_writeRoot_210 : decode kb_writeRoot 210 = .ok (.aload_n 0, 1) := by decide +kernel
theorem db_writeRoot_211 : decode kb_writeRoot 211 = .ok (.iload_n 1, 1) := by decide +kernel
theorem db_writeRoot_212 : decode kb_writeRoot 212 = .ok (.invokevirtual 93, 3) := by decide +kernel
theorem db_writeRoot_215 : decode kb_writeRoot 215 = .ok (.iload 4, 2) := by decide +kernel
theorem db_writeRoot_217 : decode kb_writeRoot 217 = .ok (.isub, 1) := by decide +kernel
theorem db_writeRoot_218 : decode kb_writeRoot 218 = .ok (.aload_n 0, 1) := by decide +kernel
theorem db_writeRoot_219 : decode kb_writeRoot 219 = .ok (.getfield 233, 3) := by decide +kernel
theorem db_writeRoot_222 : decode kb_writeRoot 222 = .ok (.iadd, 1) := by decide +kernel
theorem db_writeRoot_223 : decode kb_writeRoot 223 = .ok (.i2l, 1) := by decide +kernel
theorem db_writeRoot_224 : decode kb_writeRoot 224 = .ok (.lastore, 1) := by decide +kernel
theorem db_writeRoot_225 : decode kb_writeRoot 225 = .ok (.aload_n 0, 1) := by decide +kernel
theorem db_writeRoot_226 : decode kb_writeRoot 226 = .ok (.getfield 26, 3) := by decide +kernel
theorem db_writeRoot_229 : decode kb_writeRoot 229 = .ok (.iload_n 3, 1) := by decide +kernel
theorem db_writeRoot_230 : decode kb_writeRoot 230 = .ok (.bipush 19, 2) := by decide +kernel
theorem db_writeRoot_232 : decode kb_writeRoot 232 = .ok (.iadd, 1) := by decide +kernel
theorem db_writeRoot_233 : decode kb_writeRoot 233 = .ok (.aload_n 0, 1) := by decide +kernel
theorem db_writeRoot_234 : decode kb_writeRoot 234 = .ok (.getfield 26, 3) := by decide +kernel
theorem db_writeRoot_237 : decode kb_writeRoot 237 = .ok (.iload_n 3, 1) := by decide +kernel
theorem db_writeRoot_238 : decode kb_writeRoot 238 = .ok (.bipush 19, 2) := by decide +kernel
theorem db_writeRoot_240 : decode kb_writeRoot 240 = .ok (.invokestatic 194, 3) := by decide +kernel
theorem db_writeRoot_243 : decode kb_writeRoot 243 = .ok (.lastore, 1) := by decide +kernel
theorem db_writeRoot_244 : decode kb_writeRoot 244 = .ok (.return_, 1) := by decide +kernel
theorem db_clearRoot_0 : decode kb_clearRoot 0 = .ok (.iload_n 1, 1) := by decide +kernel
theorem db_clearRoot_1 : decode kb_clearRoot 1 = .ok (.bipush 20, 2) := by decide +kernel
theorem db_clearRoot_3 : decode kb_clearRoot 3 = .ok (.imul, 1) := by decide +kernel
theorem db_clearRoot_4 : decode kb_clearRoot 4 = .ok (.istore_n 2, 1) := by decide +kernel
theorem db_clearRoot_5 : decode kb_clearRoot 5 = .ok (.iconst 0, 1) := by decide +kernel
theorem db_clearRoot_6 : decode kb_clearRoot 6 = .ok (.istore_n 3, 1) := by decide +kernel
theorem db_clearRoot_7 : decode kb_clearRoot 7 = .ok (.iload_n 3, 1) := by decide +kernel
theorem db_clearRoot_8 : decode kb_clearRoot 8 = .ok (.bipush 20, 2) := by decide +kernel
theorem db_clearRoot_10 : decode kb_clearRoot 10 = .ok (.if_icmp .ge 18, 3) := by decide +kernel
theorem db_clearRoot_13 : decode kb_clearRoot 13 = .ok (.aload_n 0, 1) := by decide +kernel
theorem db_clearRoot_14 : decode kb_clearRoot 14 = .ok (.getfield 26, 3) := by decide +kernel
theorem db_clearRoot_17 : decode kb_clearRoot 17 = .ok (.iload_n 2, 1) := by decide +kernel
theorem db_clearRoot_18 : decode kb_clearRoot 18 = .ok (.iload_n 3, 1) := by decide +kernel
theorem db_clearRoot_19 : decode kb_clearRoot 19 = .ok (.iadd, 1) := by decide +kernel
theorem db_clearRoot_20 : decode kb_clearRoot 20 = .ok (.lconst 0, 1) := by decide +kernel
theorem db_clearRoot_21 : decode kb_clearRoot 21 = .ok (.lastore, 1) := by decide +kernel
theorem db_clearRoot_22 : decode kb_clearRoot 22 = .ok (.iinc 3 1, 3) := by decide +kernel
theorem db_clearRoot_25 : decode kb_clearRoot 25 = .ok (.goto (-18), 3) := by decide +kernel
theorem db_clearRoot_28 : decode kb_clearRoot 28 = .ok (.return_, 1) := by decide +kernel
theorem db_makeRootZeroAnew_0 : decode kb_makeRootZeroAnew 0 = .ok (.aload_n 0, 1) := by decide +kernel
theorem db_makeRootZeroAnew_1 : decode kb_makeRootZeroAnew 1 = .ok (.iconst 0, 1) := by decide +kernel
theorem db_makeRootZeroAnew_2 : decode kb_makeRootZeroAnew 2 = .ok (.invokevirtual 269, 3) := by decide +kernel
theorem db_makeRootZeroAnew_5 : decode kb_makeRootZeroAnew 5 = .ok (.aload_n 0, 1) := by decide +kernel
theorem db_makeRootZeroAnew_6 : decode kb_makeRootZeroAnew 6 = .ok (.getfield 26, 3) := by decide +kernel
theorem db_makeRootZeroAnew_9 : decode kb_makeRootZeroAnew 9 = .ok (.bipush 19, 2) := by decide +kernel
theorem db_makeRootZeroAnew_11 : decode kb_makeRootZeroAnew 11 = .ok (.aload_n 0, 1) := by decide +kernel
theorem db_makeRootZeroAnew_12 : decode kb_makeRootZeroAnew 12 = .ok (.getfield 26, 3) := by decide +kernel
theorem db_makeRootZeroAnew_15 : decode kb_makeRootZeroAnew 15 = .ok (.iconst 0, 1) := by decide +kernel
theorem db_makeRootZeroAnew_16 : decode kb_makeRootZeroAnew 16 = .ok (.bipush 19, 2) := by decide +kernel
theorem db_makeRootZeroAnew_18 : decode kb_makeRootZeroAnew 18 = .ok (.invokestatic 194, 3) := by decide +kernel
theorem db_makeRootZeroAnew_21 : decode kb_makeRootZeroAnew 21 = .ok (.lastore, 1) := by decide +kernel
theorem db_makeRootZeroAnew_22 : decode kb_makeRootZeroAnew 22 = .ok (.return_, 1) := by decide +kernel
theorem db_writtenWords_0 : decode kb_writtenWords 0 = .ok (.aload_n 0, 1) := by decide +kernel
theorem db_writtenWords_1 : decode kb_writtenWords 1 = .ok (.getfield 250, 3) := by decide +kernel
theorem db_writtenWords_4 : decode kb_writtenWords 4 = .ok (.bipush 16, 2) := by decide +kernel
theorem db_writtenWords_6 : decode kb_writtenWords 6 = .ok (.imul, 1) := by decide +kernel
theorem db_writtenWords_7 : decode kb_writtenWords 7 = .ok (.bipush 20, 2) := by decide +kernel
theorem db_writtenWords_9 : decode kb_writtenWords 9 = .ok (.iadd, 1) := by decide +kernel
theorem db_writtenWords_10 : decode kb_writtenWords 10 = .ok (.ireturn, 1) := by decide +kernel
theorem db_saveWordsBefore_0 : decode kb_saveWordsBefore 0 = .ok (.iconst 0, 1) := by decide +kernel
theorem db_saveWordsBefore_1 : decode kb_saveWordsBefore 1 = .ok (.istore_n 1, 1) := by decide +kernel
theorem db_saveWordsBefore_2 : decode kb_saveWordsBefore 2 = .ok (.iload_n 1, 1) := by decide +kernel
theorem db_saveWordsBefore_3 : decode kb_saveWordsBefore 3 = .ok (.aload_n 0, 1) := by decide +kernel
theorem db_saveWordsBefore_4 : decode kb_saveWordsBefore 4 = .ok (.getfield 250, 3) := by decide +kernel
theorem db_saveWordsBefore_7 : decode kb_saveWordsBefore 7 = .ok (.if_icmp .ge 35, 3) := by decide +kernel
theorem db_saveWordsBefore_10 : decode kb_saveWordsBefore 10 = .ok (.aload_n 0, 1) := by decide +kernel
theorem db_saveWordsBefore_11 : decode kb_saveWordsBefore 11 = .ok (.getfield 22, 3) := by decide +kernel
theorem db_saveWordsBefore_14 : decode kb_saveWordsBefore 14 = .ok (.aload_n 0, 1) := by decide +kernel
theorem db_saveWordsBefore_15 : decode kb_saveWordsBefore 15 = .ok (.getfield 29, 3) := by decide +kernel
theorem db_saveWordsBefore_18 : decode kb_saveWordsBefore 18 = .ok (.iload_n 1, 1) := by decide +kernel
theorem db_saveWordsBefore_19 : decode kb_saveWordsBefore 19 = .ok (.iaload, 1) := by decide +kernel
theorem db_saveWordsBefore_20 : decode kb_saveWordsBefore 20 = .ok (.bipush 16, 2) := by decide +kernel
theorem db_saveWordsBefore_22 : decode kb_saveWordsBefore 22 = .ok (.imul, 1) := by decide +kernel
theorem db_saveWordsBefore_23 : decode kb_saveWordsBefore 23 = .ok (.aload_n 0, 1) := by decide +kernel
theorem db_saveWordsBefore_24 : decode kb_saveWordsBefore 24 = .ok (.getfield 33, 3) := by decide +kernel
theorem db_saveWordsBefore_27 : decode kb_saveWordsBefore 27 = .ok (.iload_n 1, 1) := by decide +kernel
theorem db_saveWordsBefore_28 : decode kb_saveWordsBefore 28 = .ok (.bipush 16, 2) := by decide +kernel
theorem db_saveWordsBefore_30 : decode kb_saveWordsBefore 30 = .ok (.imul, 1) := by decide +kernel
theorem db_saveWordsBefore_31 : decode kb_saveWordsBefore 31 = .ok (.bipush 16, 2) := by decide +kernel
theorem db_saveWordsBefore_33 : decode kb_saveWordsBefore 33 = .ok (.invokestatic 272, 3) := by decide +kernel
theorem db_saveWordsBefore_36 : decode kb_saveWordsBefore 36 = .ok (.iinc 1 1, 3) := by decide +kernel
theorem db_saveWordsBefore_39 : decode kb_saveWordsBefore 39 = .ok (.goto (-37), 3) := by decide +kernel
theorem db_saveWordsBefore_42 : decode kb_saveWordsBefore 42 = .ok (.aload_n 0, 1) := by decide +kernel
theorem db_saveWordsBefore_43 : decode kb_saveWordsBefore 43 = .ok (.getfield 26, 3) := by decide +kernel
theorem db_saveWordsBefore_46 : decode kb_saveWordsBefore 46 = .ok (.aload_n 0, 1) := by decide +kernel
theorem db_saveWordsBefore_47 : decode kb_saveWordsBefore 47 = .ok (.getfield 253, 3) := by decide +kernel
theorem db_saveWordsBefore_50 : decode kb_saveWordsBefore 50 = .ok (.bipush 20, 2) := by decide +kernel
theorem db_saveWordsBefore_52 : decode kb_saveWordsBefore 52 = .ok (.imul, 1) := by decide +kernel
theorem db_saveWordsBefore_53 : decode kb_saveWordsBefore 53 = .ok (.aload_n 0, 1) := by decide +kernel
theorem db_saveWordsBefore_54 : decode kb_saveWordsBefore 54 = .ok (.getfield 33, 3) := by decide +kernel
theorem db_saveWordsBefore_57 : decode kb_saveWordsBefore 57 = .ok (.aload_n 0, 1) := by decide +kernel
theorem db_saveWordsBefore_58 : decode kb_saveWordsBefore 58 = .ok (.getfield 250, 3) := by decide +kernel
theorem db_saveWordsBefore_61 : decode kb_saveWordsBefore 61 = .ok (.bipush 16, 2) := by decide +kernel
theorem db_saveWordsBefore_63 : decode kb_saveWordsBefore 63 = .ok (.imul, 1) := by decide +kernel
theorem db_saveWordsBefore_64 : decode kb_saveWordsBefore 64 = .ok (.bipush 20, 2) := by decide +kernel
theorem db_saveWordsBefore_66 : decode kb_saveWordsBefore 66 = .ok (.invokestatic 272, 3) := by decide +kernel
theorem db_saveWordsBefore_69 : decode kb_saveWordsBefore 69 = .ok (.return_, 1) := by decide +kernel
theorem db_restoreFrom_0 : decode kb_restoreFrom 0 = .ok (.aload_n 0, 1) := by decide +kernel
theorem db_restoreFrom_1 : decode kb_restoreFrom 1 = .ok (.getfield 250, 3) := by decide +kernel
theorem db_restoreFrom_4 : decode kb_restoreFrom 4 = .ok (.bipush 16, 2) := by decide +kernel
theorem db_restoreFrom_6 : decode kb_restoreFrom 6 = .ok (.imul, 1) := by decide +kernel
theorem db_restoreFrom_7 : decode kb_restoreFrom 7 = .ok (.istore_n 2, 1) := by decide +kernel
theorem db_restoreFrom_8 : decode kb_restoreFrom 8 = .ok (.aload_n 0, 1) := by decide +kernel
theorem db_restoreFrom_9 : decode kb_restoreFrom 9 = .ok (.invokevirtual 138, 3) := by decide +kernel
theorem db_restoreFrom_12 : decode kb_restoreFrom 12 = .ok (.istore_n 3, 1) := by decide +kernel
theorem db_restoreFrom_13 : decode kb_restoreFrom 13 = .ok (.iload_n 1, 1) := by decide +kernel
theorem db_restoreFrom_14 : decode kb_restoreFrom 14 = .ok (.istore 4, 2) := by decide +kernel
theorem db_restoreFrom_16 : decode kb_restoreFrom 16 = .ok (.iload 4, 2) := by decide +kernel
theorem db_restoreFrom_18 : decode kb_restoreFrom 18 = .ok (.iload_n 3, 1) := by decide +kernel
theorem db_restoreFrom_19 : decode kb_restoreFrom 19 = .ok (.if_icmp .ge 73, 3) := by decide +kernel
theorem db_restoreFrom_22 : decode kb_restoreFrom 22 = .ok (.iload 4, 2) := by decide +kernel
theorem db_restoreFrom_24 : decode kb_restoreFrom 24 = .ok (.iload_n 2, 1) := by decide +kernel
theorem db_restoreFrom_25 : decode kb_restoreFrom 25 = .ok (.if_icmp .ge 37, 3) := by decide +kernel
theorem db_restoreFrom_28 : decode kb_restoreFrom 28 = .ok (.aload_n 0, 1) := by decide +kernel
theorem db_restoreFrom_29 : decode kb_restoreFrom 29 = .ok (.getfield 22, 3) := by decide +kernel
theorem db_restoreFrom_32 : decode kb_restoreFrom 32 = .ok (.aload_n 0, 1) := by decide +kernel
theorem db_restoreFrom_33 : decode kb_restoreFrom 33 = .ok (.getfield 29, 3) := by decide +kernel
theorem db_restoreFrom_36 : decode kb_restoreFrom 36 = .ok (.iload 4, 2) := by decide +kernel
theorem db_restoreFrom_38 : decode kb_restoreFrom 38 = .ok (.bipush 16, 2) := by decide +kernel
theorem db_restoreFrom_40 : decode kb_restoreFrom 40 = .ok (.idiv, 1) := by decide +kernel
theorem db_restoreFrom_41 : decode kb_restoreFrom 41 = .ok (.iaload, 1) := by decide +kernel
theorem db_restoreFrom_42 : decode kb_restoreFrom 42 = .ok (.bipush 16, 2) := by decide +kernel
theorem db_restoreFrom_44 : decode kb_restoreFrom 44 = .ok (.imul, 1) := by decide +kernel
theorem db_restoreFrom_45 : decode kb_restoreFrom 45 = .ok (.iload 4, 2) := by decide +kernel
theorem db_restoreFrom_47 : decode kb_restoreFrom 47 = .ok (.bipush 16, 2) := by decide +kernel
theorem db_restoreFrom_49 : decode kb_restoreFrom 49 = .ok (.irem, 1) := by decide +kernel
theorem db_restoreFrom_50 : decode kb_restoreFrom 50 = .ok (.iadd, 1) := by decide +kernel
theorem db_restoreFrom_51 : decode kb_restoreFrom 51 = .ok (.aload_n 0, 1) := by decide +kernel
theorem db_restoreFrom_52 : decode kb_restoreFrom 52 = .ok (.getfield 33, 3) := by decide +kernel
theorem db_restoreFrom_55 : decode kb_restoreFrom 55 = .ok (.iload 4, 2) := by decide +kernel
theorem db_restoreFrom_57 : decode kb_restoreFrom 57 = .ok (.laload, 1) := by decide +kernel
theorem db_restoreFrom_58 : decode kb_restoreFrom 58 = .ok (.lastore, 1) := by decide +kernel
theorem db_restoreFrom_59 : decode kb_restoreFrom 59 = .ok (.goto 27, 3) := by decide +kernel
theorem db_restoreFrom_62 : decode kb_restoreFrom 62 = .ok (.aload_n 0, 1) := by decide +kernel
theorem db_restoreFrom_63 : decode kb_restoreFrom 63 = .ok (.getfield 26, 3) := by decide +kernel
theorem db_restoreFrom_66 : decode kb_restoreFrom 66 = .ok (.aload_n 0, 1) := by decide +kernel
theorem db_restoreFrom_67 : decode kb_restoreFrom 67 = .ok (.getfield 253, 3) := by decide +kernel
theorem db_restoreFrom_70 : decode kb_restoreFrom 70 = .ok (.bipush 20, 2) := by decide +kernel
theorem db_restoreFrom_72 : decode kb_restoreFrom 72 = .ok (.imul, 1) := by decide +kernel
theorem db_restoreFrom_73 : decode kb_restoreFrom 73 = .ok (.iload 4, 2) := by decide +kernel
theorem db_restoreFrom_75 : decode kb_restoreFrom 75 = .ok (.iadd, 1) := by decide +kernel
theorem db_restoreFrom_76 : decode kb_restoreFrom 76 = .ok (.iload_n 2, 1) := by decide +kernel
theorem db_restoreFrom_77 : decode kb_restoreFrom 77 = .ok (.isub, 1) := by decide +kernel
theorem db_restoreFrom_78 : decode kb_restoreFrom 78 = .ok (.aload_n 0, 1) := by decide +kernel
theorem db_restoreFrom_79 : decode kb_restoreFrom 79 = .ok (.getfield 33, 3) := by decide +kernel
theorem db_restoreFrom_82 : decode kb_restoreFrom 82 = .ok (.iload 4, 2) := by decide +kernel
theorem db_restoreFrom_84 : decode kb_restoreFrom 84 = .ok (.laload, 1) := by decide +kernel
theorem db_restoreFrom_85 : decode kb_restoreFrom 85 = .ok (.lastore, 1) := by decide +kernel
theorem db_restoreFrom_86 : decode kb_restoreFrom 86 = .ok (.iinc 4 1, 3) := by decide +kernel
theorem db_restoreFrom_89 : decode kb_restoreFrom 89 = .ok (.goto (-73), 3) := by decide +kernel
theorem db_restoreFrom_92 : decode kb_restoreFrom 92 = .ok (.return_, 1) := by decide +kernel
