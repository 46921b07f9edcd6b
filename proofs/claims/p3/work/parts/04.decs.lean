theorem db_put_0 : decode kb_put 0 = .ok (.aload_n 0, 1) := by decide +kernel
theorem db_put_1 : decode kb_put 1 = .ok (.invokevirtual 45, 3) := by decide +kernel
theorem db_put_4 : decode kb_put 4 = .ok (.aload_n 0, 1) := by decide +kernel
theorem db_put_5 : decode kb_put 5 = .ok (.iload_n 1, 1) := by decide +kernel
theorem db_put_6 : decode kb_put 6 = .ok (.invokevirtual 48, 3) := by decide +kernel
theorem db_put_9 : decode kb_put 9 = .ok (.aload_n 0, 1) := by decide +kernel
theorem db_put_10 : decode kb_put 10 = .ok (.getfield 52, 3) := by decide +kernel
theorem db_put_13 : decode kb_put 13 = .ok (.invokestatic 55, 3) := by decide +kernel
theorem db_put_16 : decode kb_put 16 = .ok (.istore 4, 2) := by decide +kernel
theorem db_put_18 : decode kb_put 18 = .ok (.aload_n 0, 1) := by decide +kernel
theorem db_put_19 : decode kb_put 19 = .ok (.iload 4, 2) := by decide +kernel
theorem db_put_21 : decode kb_put 21 = .ok (.iload_n 1, 1) := by decide +kernel
theorem db_put_22 : decode kb_put 22 = .ok (.invokevirtual 59, 3) := by decide +kernel
theorem db_put_25 : decode kb_put 25 = .ok (.istore 5, 2) := by decide +kernel
theorem db_put_27 : decode kb_put 27 = .ok (.aload_n 0, 1) := by decide +kernel
theorem db_put_28 : decode kb_put 28 = .ok (.iload 4, 2) := by decide +kernel
theorem db_put_30 : decode kb_put 30 = .ok (.iload 5, 2) := by decide +kernel
theorem db_put_32 : decode kb_put 32 = .ok (.invokevirtual 62, 3) := by decide +kernel
theorem db_put_35 : decode kb_put 35 = .ok (.aload_n 0, 1) := by decide +kernel
theorem db_put_36 : decode kb_put 36 = .ok (.iload_n 1, 1) := by decide +kernel
theorem db_put_37 : decode kb_put 37 = .ok (.lload_n 2, 1) := by decide +kernel
theorem db_put_38 : decode kb_put 38 = .ok (.invokevirtual 66, 3) := by decide +kernel
theorem db_put_41 : decode kb_put 41 = .ok (.aload_n 0, 1) := by decide +kernel
theorem db_put_42 : decode kb_put 42 = .ok (.iload 4, 2) := by decide +kernel
theorem db_put_44 : decode kb_put 44 = .ok (.iload 5, 2) := by decide +kernel
theorem db_put_46 : decode kb_put 46 = .ok (.invokevirtual 70, 3) := by decide +kernel
theorem db_put_49 : decode kb_put 49 = .ok (.ireturn, 1) := by decide +kernel
theorem db_drop_0 : decode kb_drop 0 = .ok (.aload_n 0, 1) := by decide +kernel
theorem db_drop_1 : decode kb_drop 1 = .ok (.invokevirtual 45, 3) := by decide +kernel
theorem db_drop_4 : decode kb_drop 4 = .ok (.aload_n 0, 1) := by decide +kernel
theorem db_drop_5 : decode kb_drop 5 = .ok (.iload_n 1, 1) := by decide +kernel
theorem db_drop_6 : decode kb_drop 6 = .ok (.invokevirtual 48, 3) := by decide +kernel
theorem db_drop_9 : decode kb_drop 9 = .ok (.aload_n 0, 1) := by decide +kernel
theorem db_drop_10 : decode kb_drop 10 = .ok (.getfield 52, 3) := by decide +kernel
theorem db_drop_13 : decode kb_drop 13 = .ok (.invokestatic 55, 3) := by decide +kernel
theorem db_drop_16 : decode kb_drop 16 = .ok (.istore_n 2, 1) := by decide +kernel
theorem db_drop_17 : decode kb_drop 17 = .ok (.aload_n 0, 1) := by decide +kernel
theorem db_drop_18 : decode kb_drop 18 = .ok (.iload_n 2, 1) := by decide +kernel
theorem db_drop_19 : decode kb_drop 19 = .ok (.iload_n 1, 1) := by decide +kernel
theorem db_drop_20 : decode kb_drop 20 = .ok (.invokevirtual 59, 3) := by decide +kernel
theorem db_drop_23 : decode kb_drop 23 = .ok (.istore_n 3, 1) := by decide +kernel
theorem db_drop_24 : decode kb_drop 24 = .ok (.aload_n 0, 1) := by decide +kernel
theorem db_drop_25 : decode kb_drop 25 = .ok (.iload_n 2, 1) := by decide +kernel
theorem db_drop_26 : decode kb_drop 26 = .ok (.iload_n 3, 1) := by decide +kernel
theorem db_drop_27 : decode kb_drop 27 = .ok (.invokevirtual 62, 3) := by decide +kernel
theorem db_drop_30 : decode kb_drop 30 = .ok (.aload_n 0, 1) := by decide +kernel
theorem db_drop_31 : decode kb_drop 31 = .ok (.iload_n 1, 1) := by decide +kernel
theorem db_drop_32 : decode kb_drop 32 = .ok (.invokevirtual 73, 3) := by decide +kernel
theorem db_drop_35 : decode kb_drop 35 = .ok (.ifCond .ne 5, 3) := by decide +kernel
theorem db_drop_38 : decode kb_drop 38 = .ok (.iconst 0, 1) := by decide +kernel
theorem db_drop_39 : decode kb_drop 39 = .ok (.ireturn, 1) := by decide +kernel
theorem db_drop_40 : decode kb_drop 40 = .ok (.aload_n 0, 1) := by decide +kernel
theorem db_drop_41 : decode kb_drop 41 = .ok (.iload_n 2, 1) := by decide +kernel
theorem db_drop_42 : decode kb_drop 42 = .ok (.iload_n 3, 1) := by decide +kernel
theorem db_drop_43 : decode kb_drop 43 = .ok (.invokevirtual 70, 3) := by decide +kernel
theorem db_drop_46 : decode kb_drop 46 = .ok (.ireturn, 1) := by decide +kernel
theorem db_version_0 : decode kb_version 0 = .ok (.aload_n 0, 1) := by decide +kernel
theorem db_version_1 : decode kb_version 1 = .ok (.invokevirtual 77, 3) := by decide +kernel
theorem db_version_4 : decode kb_version 4 = .ok (.aload_n 0, 1) := by decide +kernel
theorem db_version_5 : decode kb_version 5 = .ok (.getfield 52, 3) := by decide +kernel
theorem db_version_8 : decode kb_version 8 = .ok (.ireturn, 1) := by decide +kernel
theorem db_has_0 : decode kb_has 0 = .ok (.aload_n 0, 1) := by decide +kernel
theorem db_has_1 : decode kb_has 1 = .ok (.invokevirtual 77, 3) := by decide +kernel
theorem db_has_4 : decode kb_has 4 = .ok (.aload_n 0, 1) := by decide +kernel
theorem db_has_5 : decode kb_has 5 = .ok (.iload_n 1, 1) := by decide +kernel
theorem db_has_6 : decode kb_has 6 = .ok (.invokevirtual 80, 3) := by decide +kernel
theorem db_has_9 : decode kb_has 9 = .ok (.aload_n 0, 1) := by decide +kernel
theorem db_has_10 : decode kb_has 10 = .ok (.iload_n 1, 1) := by decide +kernel
theorem db_has_11 : decode kb_has 11 = .ok (.invokestatic 55, 3) := by decide +kernel
theorem db_has_14 : decode kb_has 14 = .ok (.iload_n 2, 1) := by decide +kernel
theorem db_has_15 : decode kb_has 15 = .ok (.invokevirtual 83, 3) := by decide +kernel
theorem db_has_18 : decode kb_has 18 = .ok (.iconst (-1), 1) := by decide +kernel
theorem db_has_19 : decode kb_has 19 = .ok (.if_icmp .eq 7, 3) := by decide +kernel
theorem db_has_22 : decode kb_has 22 = .ok (.iconst 1, 1) := by decide +kernel
theorem db_has_23 : decode kb_has 23 = .ok (.goto 4, 3) := by decide +kernel
theorem db_has_26 : decode kb_has 26 = .ok (.iconst 0, 1) := by decide +kernel
theorem db_has_27 : decode kb_has 27 = .ok (.ireturn, 1) := by decide +kernel
theorem db_find_0 : decode kb_find 0 = .ok (.aload_n 0, 1) := by decide +kernel
theorem db_find_1 : decode kb_find 1 = .ok (.invokevirtual 77, 3) := by decide +kernel
theorem db_find_4 : decode kb_find 4 = .ok (.aload_n 0, 1) := by decide +kernel
theorem db_find_5 : decode kb_find 5 = .ok (.iload_n 1, 1) := by decide +kernel
theorem db_find_6 : decode kb_find 6 = .ok (.invokevirtual 80, 3) := by decide +kernel
theorem db_find_9 : decode kb_find 9 = .ok (.aload_n 0, 1) := by decide +kernel
theorem db_find_10 : decode kb_find 10 = .ok (.iload_n 1, 1) := by decide +kernel
theorem db_find_11 : decode kb_find 11 = .ok (.invokestatic 55, 3) := by decide +kernel
theorem db_find_14 : decode kb_find 14 = .ok (.iload_n 2, 1) := by decide +kernel
theorem db_find_15 : decode kb_find 15 = .ok (.invokevirtual 83, 3) := by decide +kernel
theorem db_find_18 : decode kb_find 18 = .ok (.istore_n 3, 1) := by decide +kernel
theorem db_find_19 : decode kb_find 19 = .ok (.iload_n 3, 1) := by decide +kernel
theorem db_find_20 : decode kb_find 20 = .ok (.iconst (-1), 1) := by decide +kernel
theorem db_find_21 : decode kb_find 21 = .ok (.if_icmp .ne 7, 3) := by decide +kernel
theorem db_find_24 : decode kb_find 24 = .ok (.lconst 0, 1) := by decide +kernel
theorem db_find_25 : decode kb_find 25 = .ok (.goto 11, 3) := by decide +kernel
theorem db_find_28 : decode kb_find 28 = .ok (.aload_n 0, 1) := by decide +kernel
theorem db_find_29 : decode kb_find 29 = .ok (.getfield 22, 3) := by decide +kernel
theorem db_find_32 : decode kb_find 32 = .ok (.iload_n 3, 1) := by decide +kernel
theorem db_find_33 : decode kb_find 33 = .ok (.iconst 1, 1) := by decide +kernel
theorem db_find_34 : decode kb_find 34 = .ok (.iadd, 1) := by decide +kernel
theorem db_find_35 : decode kb_find 35 = .ok (.laload, 1) := by decide +kernel
theorem db_find_36 : decode kb_find 36 = .ok (.lreturn, 1) := by decide +kernel
theorem db_count_0 : decode kb_count 0 = .ok (.aload_n 0, 1) := by decide +kernel
theorem db_count_1 : decode kb_count 1 = .ok (.invokevirtual 77, 3) := by decide +kernel
theorem db_count_4 : decode kb_count 4 = .ok (.aload_n 0, 1) := by decide +kernel
theorem db_count_5 : decode kb_count 5 = .ok (.iload_n 1, 1) := by decide +kernel
theorem db_count_6 : decode kb_count 6 = .ok (.invokevirtual 80, 3) := by decide +kernel
theorem db_count_9 : decode kb_count 9 = .ok (.iload_n 2, 1) := by decide +kernel
theorem db_count_10 : decode kb_count 10 = .ok (.ifCond .eq 18, 3) := by decide +kernel
theorem db_count_13 : decode kb_count 13 = .ok (.iload_n 2, 1) := by decide +kernel
theorem db_count_14 : decode kb_count 14 = .ok (.iconst 1, 1) := by decide +kernel
theorem db_count_15 : decode kb_count 15 = .ok (.if_icmp .eq 13, 3) := by decide +kernel
theorem db_count_18 : decode kb_count 18 = .ok (.new 86, 3) := by decide +kernel
theorem db_count_21 : decode kb_count 21 = .ok (.dup, 1) := by decide +kernel
theorem db_count_22 : decode kb_count 22 = .ok (.ldc 88, 2) := by decide +kernel
theorem db_count_24 : decode kb_count 24 = .ok (.invokespecial 90, 3) := by decide +kernel
theorem db_count_27 : decode kb_count 27 = .ok (.athrow, 1) := by decide +kernel
theorem db_count_28 : decode kb_count 28 = .ok (.iload_n 1, 1) := by decide +kernel
theorem db_count_29 : decode kb_count 29 = .ok (.invokestatic 55, 3) := by decide +kernel
theorem db_count_32 : decode kb_count 32 = .ok (.istore_n 3, 1) := by decide +kernel
theorem db_count_33 : decode kb_count 33 = .ok (.iload_n 2, 1) := by decide +kernel
theorem db_count_34 : decode kb_count 34 = .ok (.ifCond .ne 11, 3) := by decide +kernel
theorem db_count_37 : decode kb_count 37 = .ok (.aload_n 0, 1) := by decide +kernel
theorem db_count_38 : decode kb_count 38 = .ok (.iload_n 3, 1) := by decide +kernel
theorem db_count_39 : decode kb_count 39 = .ok (.invokevirtual 93, 3) := by decide +kernel
theorem db_count_42 : decode kb_count 42 = .ok (.goto 8, 3) := by decide +kernel
theorem db_count_45 : decode kb_count 45 = .ok (.aload_n 0, 1) := by decide +kernel
theorem db_count_46 : decode kb_count 46 = .ok (.iload_n 3, 1) := by decide +kernel
theorem db_count_47 : decode kb_count 47 = .ok (.invokevirtual 96, 3) := by decide +kernel
theorem db_count_50 : decode kb_count 50 = .ok (.ireturn, 1) := by decide +kernel
theorem db_key_0 : decode kb_key 0 = .ok (.aload_n 0, 1) := by decide +kernel
theorem db_key_1 : decode kb_key 1 = .ok (.invokevirtual 77, 3) := by decide +kernel
theorem db_key_4 : decode kb_key 4 = .ok (.aload_n 0, 1) := by decide +kernel
theorem db_key_5 : decode kb_key 5 = .ok (.iload_n 1, 1) := by decide +kernel
theorem db_key_6 : decode kb_key 6 = .ok (.invokevirtual 80, 3) := by decide +kernel
theorem db_key_9 : decode kb_key 9 = .ok (.aload_n 0, 1) := by decide +kernel
theorem db_key_10 : decode kb_key 10 = .ok (.iload_n 1, 1) := by decide +kernel
theorem db_key_11 : decode kb_key 11 = .ok (.invokestatic 55, 3) := by decide +kernel
theorem db_key_14 : decode kb_key 14 = .ok (.iload_n 2, 1) := by decide +kernel
theorem db_key_15 : decode kb_key 15 = .ok (.invokevirtual 99, 3) := by decide +kernel
theorem db_key_18 : decode kb_key 18 = .ok (.istore_n 3, 1) := by decide +kernel
theorem db_key_19 : decode kb_key 19 = .ok (.iload_n 3, 1) := by decide +kernel
theorem db_key_20 : decode kb_key 20 = .ok (.iconst (-1), 1) := by decide +kernel
theorem db_key_21 : decode kb_key 21 = .ok (.if_icmp .ne 13, 3) := by decide +kernel
theorem db_key_24 : decode kb_key 24 = .ok (.new 102, 3) := by decide +kernel
theorem db_key_27 : decode kb_key 27 = .ok (.dup, 1) := by decide +kernel
theorem db_key_28 : decode kb_key 28 = .ok (.ldc 104, 2) := by decide +kernel
theorem db_key_30 : decode kb_key 30 = .ok (.invokespecial 106, 3) := by decide +kernel
theorem db_key_33 : decode kb_key 33 = .ok (.athrow, 1) := by decide +kernel
theorem db_key_34 : decode kb_key 34 = .ok (.aload_n 0, 1) := by decide +kernel
theorem db_key_35 : decode kb_key 35 = .ok (.getfield 22, 3) := by decide +kernel
theorem db_key_38 : decode kb_key 38 = .ok (.iload_n 3, 1) := by decide +kernel
theorem db_key_39 : decode kb_key 39 = .ok (.laload, 1) := by decide +kernel
theorem db_key_40 : decode kb_key 40 = .ok (.l2i, 1) := by decide +kernel
theorem db_key_41 : decode kb_key 41 = .ok (.ireturn, 1) := by decide +kernel
theorem db_same_0 : decode kb_same 0 = .ok (.aload_n 0, 1) := by decide +kernel
theorem db_same_1 : decode kb_same 1 = .ok (.invokevirtual 77, 3) := by decide +kernel
theorem db_same_4 : decode kb_same 4 = .ok (.aload_n 0, 1) := by decide +kernel
theorem db_same_5 : decode kb_same 5 = .ok (.iload_n 1, 1) := by decide +kernel
theorem db_same_6 : decode kb_same 6 = .ok (.invokevirtual 80, 3) := by decide +kernel
theorem db_same_9 : decode kb_same 9 = .ok (.aload_n 0, 1) := by decide +kernel
theorem db_same_10 : decode kb_same 10 = .ok (.iload_n 2, 1) := by decide +kernel
theorem db_same_11 : decode kb_same 11 = .ok (.invokevirtual 80, 3) := by decide +kernel
theorem db_same_14 : decode kb_same 14 = .ok (.aload_n 0, 1) := by decide +kernel
theorem db_same_15 : decode kb_same 15 = .ok (.iload_n 1, 1) := by decide +kernel
theorem db_same_16 : decode kb_same 16 = .ok (.invokestatic 55, 3) := by decide +kernel
theorem db_same_19 : decode kb_same 19 = .ok (.iload_n 2, 1) := by decide +kernel
theorem db_same_20 : decode kb_same 20 = .ok (.invokestatic 55, 3) := by decide +kernel
theorem db_same_23 : decode kb_same 23 = .ok (.invokevirtual 107, 3) := by decide +kernel
theorem db_same_26 : decode kb_same 26 = .ok (.ireturn, 1) := by decide +kernel
theorem db_free_0 : decode kb_free 0 = .ok (.aload_n 0, 1) := by decide +kernel
theorem db_free_1 : decode kb_free 1 = .ok (.invokevirtual 77, 3) := by decide +kernel
theorem db_free_4 : decode kb_free 4 = .ok (.aload_n 0, 1) := by decide +kernel
theorem db_free_5 : decode kb_free 5 = .ok (.getfield 18, 3) := by decide +kernel
theorem db_free_8 : decode kb_free 8 = .ok (.aload_n 0, 1) := by decide +kernel
theorem db_free_9 : decode kb_free 9 = .ok (.invokevirtual 111, 3) := by decide +kernel
theorem db_free_12 : decode kb_free 12 = .ok (.invokestatic 115, 3) := by decide +kernel
theorem db_free_15 : decode kb_free 15 = .ok (.isub, 1) := by decide +kernel
theorem db_free_16 : decode kb_free 16 = .ok (.ireturn, 1) := by decide +kernel
theorem db_crash_0 : decode kb_crash 0 = .ok (.aload_n 0, 1) := by decide +kernel
theorem db_crash_1 : decode kb_crash 1 = .ok (.invokevirtual 77, 3) := by decide +kernel
theorem db_crash_4 : decode kb_crash 4 = .ok (.aload_n 0, 1) := by decide +kernel
theorem db_crash_5 : decode kb_crash 5 = .ok (.getfield 121, 3) := by decide +kernel
theorem db_crash_8 : decode kb_crash 8 = .ok (.ifCond .ne 13, 3) := by decide +kernel
theorem db_crash_11 : decode kb_crash 11 = .ok (.new 125, 3) := by decide +kernel
theorem db_crash_14 : decode kb_crash 14 = .ok (.dup, 1) := by decide +kernel
theorem db_crash_15 : decode kb_crash 15 = .ok (.ldc 127, 2) := by decide +kernel
theorem db_crash_17 : decode kb_crash 17 = .ok (.invokespecial 129, 3) := by decide +kernel
theorem db_crash_20 : decode kb_crash 20 = .ok (.athrow, 1) := by decide +kernel
theorem db_crash_21 : decode kb_crash 21 = .ok (.iload_n 1, 1) := by decide +kernel
theorem db_crash_22 : decode kb_crash 22 = .ok (.ifCond .ge 13, 3) := by decide +kernel
theorem db_crash_25 : decode kb_crash 25 = .ok (.new 86, 3) := by decide +kernel
theorem db_crash_28 : decode kb_crash 28 = .ok (.dup, 1) := by decide +kernel
theorem db_crash_29 : decode kb_crash 29 = .ok (.ldc 130, 2) := by decide +kernel
theorem db_crash_31 : decode kb_crash 31 = .ok (.invokespecial 90, 3) := by decide +kernel
theorem db_crash_34 : decode kb_crash 34 = .ok (.athrow, 1) := by decide +kernel
theorem db_crash_35 : decode kb_crash 35 = .ok (.aload_n 0, 1) := by decide +kernel
theorem db_crash_36 : decode kb_crash 36 = .ok (.iload_n 1, 1) := by decide +kernel
theorem db_crash_37 : decode kb_crash 37 = .ok (.invokevirtual 132, 3) := by decide +kernel
theorem db_crash_40 : decode kb_crash 40 = .ok (.aload_n 0, 1) := by decide +kernel
theorem db_crash_41 : decode kb_crash 41 = .ok (.iconst 1, 1) := by decide +kernel
theorem db_crash_42 : decode kb_crash 42 = .ok (.putfield 135, 3) := by decide +kernel
theorem db_crash_45 : decode kb_crash 45 = .ok (.aload_n 0, 1) := by decide +kernel
theorem db_crash_46 : decode kb_crash 46 = .ok (.invokevirtual 138, 3) := by decide +kernel
theorem db_crash_49 : decode kb_crash 49 = .ok (.ireturn, 1) := by decide +kernel
theorem db_reopen_0 : decode kb_reopen 0 = .ok (.aload_n 0, 1) := by decide +kernel
theorem db_reopen_1 : decode kb_reopen 1 = .ok (.invokevirtual 142, 3) := by decide +kernel
theorem db_reopen_4 : decode kb_reopen 4 = .ok (.istore_n 1, 1) := by decide +kernel
theorem db_reopen_5 : decode kb_reopen 5 = .ok (.iload_n 1, 1) := by decide +kernel
theorem db_reopen_6 : decode kb_reopen 6 = .ok (.iconst (-1), 1) := by decide +kernel
theorem db_reopen_7 : decode kb_reopen 7 = .ok (.if_icmp .ne 9, 3) := by decide +kernel
theorem db_reopen_10 : decode kb_reopen 10 = .ok (.aload_n 0, 1) := by decide +kernel
theorem db_reopen_11 : decode kb_reopen 11 = .ok (.invokevirtual 42, 3) := by decide +kernel
theorem db_reopen_14 : decode kb_reopen 14 = .ok (.iconst 0, 1) := by decide +kernel
theorem db_reopen_15 : decode kb_reopen 15 = .ok (.istore_n 1, 1) := by decide +kernel
theorem db_reopen_16 : decode kb_reopen 16 = .ok (.aload_n 0, 1) := by decide +kernel
theorem db_reopen_17 : decode kb_reopen 17 = .ok (.iload_n 1, 1) := by decide +kernel
theorem db_reopen_18 : decode kb_reopen 18 = .ok (.putfield 52, 3) := by decide +kernel
theorem db_reopen_21 : decode kb_reopen 21 = .ok (.aload_n 0, 1) := by decide +kernel
theorem db_reopen_22 : decode kb_reopen 22 = .ok (.iconst 0, 1) := by decide +kernel
theorem db_reopen_23 : decode kb_reopen 23 = .ok (.putfield 135, 3) := by decide +kernel
theorem db_reopen_26 : decode kb_reopen 26 = .ok (.aload_n 0, 1) := by decide +kernel
theorem db_reopen_27 : decode kb_reopen 27 = .ok (.iconst 0, 1) := by decide +kernel
theorem db_reopen_28 : decode kb_reopen 28 = .ok (.putfield 121, 3) := by decide +kernel
theorem db_reopen_31 : decode kb_reopen 31 = .ok (.aload_n 0, 1) := by decide +kernel
theorem db_reopen_32 : decode kb_reopen 32 = .ok (.getfield 52, 3) := by decide +kernel
theorem db_reopen_35 : decode kb_reopen 35 = .ok (.ireturn, 1) := by decide +kernel
theorem db_wordAt_0 : decode kb_wordAt 0 = .ok (.aload_n 0, 1) := by decide +kernel
theorem db_wordAt_1 : decode kb_wordAt 1 = .ok (.iload_n 1, 1) := by decide +kernel
theorem db_wordAt_2 : decode kb_wordAt 2 = .ok (.iload_n 2, 1) := by decide +kernel
theorem db_wordAt_3 : decode kb_wordAt 3 = .ok (.invokevirtual 145, 3) := by decide +kernel
theorem db_wordAt_6 : decode kb_wordAt 6 = .ok (.aload_n 0, 1) := by decide +kernel
theorem db_wordAt_7 : decode kb_wordAt 7 = .ok (.getfield 22, 3) := by decide +kernel
theorem db_wordAt_10 : decode kb_wordAt 10 = .ok (.iload_n 1, 1) := by decide +kernel
theorem db_wordAt_11 : decode kb_wordAt 11 = .ok (.bipush 16, 2) := by decide +kernel
theorem db_wordAt_13 : decode kb_wordAt 13 = .ok (.imul, 1) := by decide +kernel
theorem db_wordAt_14 : decode kb_wordAt 14 = .ok (.iload_n 2, 1) := by decide +kernel
theorem db_wordAt_15 : decode kb_wordAt 15 = .ok (.iadd, 1) := by decide +kernel
theorem db_wordAt_16 : decode kb_wordAt 16 = .ok (.laload, 1) := by decide +kernel
theorem db_wordAt_17 : decode kb_wordAt 17 = .ok (.lreturn, 1) := by decide +kernel
theorem db_rootAt_0 : decode kb_rootAt 0 = .ok (.aload_n 0, 1) := by decide +kernel
theorem db_rootAt_1 : decode kb_rootAt 1 = .ok (.iload_n 1, 1) := by decide +kernel
theorem db_rootAt_2 : decode kb_rootAt 2 = .ok (.iload_n 2, 1) := by decide +kernel
theorem db_rootAt_3 : decode kb_rootAt 3 = .ok (.invokevirtual 148, 3) := by decide +kernel
theorem db_rootAt_6 : decode kb_rootAt 6 = .ok (.aload_n 0, 1) := by decide +kernel
theorem db_rootAt_7 : decode kb_rootAt 7 = .ok (.getfield 26, 3) := by decide +kernel
theorem db_rootAt_10 : decode kb_rootAt 10 = .ok (.iload_n 1, 1) := by decide +kernel
theorem db_rootAt_11 : decode kb_rootAt 11 = .ok (.bipush 20, 2) := by decide +kernel
theorem db_rootAt_13 : decode kb_rootAt 13 = .ok (.imul, 1) := by decide +kernel
theorem db_rootAt_14 : decode kb_rootAt 14 = .ok (.iload_n 2, 1) := by decide +kernel
theorem db_rootAt_15 : decode kb_rootAt 15 = .ok (.iadd, 1) := by decide +kernel
theorem db_rootAt_16 : decode kb_rootAt 16 = .ok (.laload, 1) := by decide +kernel
theorem db_rootAt_17 : decode kb_rootAt 17 = .ok (.lreturn, 1) := by decide +kernel
theorem db_poke_0 : decode kb_poke 0 = .ok (.aload_n 0, 1) := by decide +kernel
theorem db_poke_1 : decode kb_poke 1 = .ok (.iload_n 1, 1) := by decide +kernel
theorem db_poke_2 : decode kb_poke 2 = .ok (.iload_n 2, 1) := by decide +kernel
theorem db_poke_3 : decode kb_poke 3 = .ok (.invokevirtual 145, 3) := by decide +kernel
theorem db_poke_6 : decode kb_poke 6 = .ok (.aload_n 0, 1) := by decide +kernel
theorem db_poke_7 : decode kb_poke 7 = .ok (.lload_n 3, 1) := by decide +kernel
theorem db_poke_8 : decode kb_poke 8 = .ok (.invokevirtual 151, 3) := by decide +kernel
theorem db_poke_11 : decode kb_poke 11 = .ok (.aload_n 0, 1) := by decide +kernel
theorem db_poke_12 : decode kb_poke 12 = .ok (.getfield 22, 3) := by decide +kernel
theorem db_poke_15 : decode kb_poke 15 = .ok (.iload_n 1, 1) := by decide +kernel
theorem db_poke_16 : decode kb_poke 16 = .ok (.bipush 16, 2) := by decide +kernel
theorem db_poke_18 : decode kb_poke 18 = .ok (.imul, 1) := by decide +kernel
theorem db_poke_19 : decode kb_poke 19 = .ok (.iload_n 2, 1) := by decide +kernel
theorem db_poke_20 : decode kb_poke 20 = .ok (.iadd, 1) := by decide +kernel
theorem db_poke_21 : decode kb_poke 21 = .ok (.dup2, 1) := by decide +kernel
theorem db_poke_22 : decode kb_poke 22 = .ok (.laload, 1) := by decide +kernel
theorem db_poke_23 : decode kb_poke 23 = .ok (.lload_n 3, 1) := by decide +kernel
theorem db_poke_24 : decode kb_poke 24 = .ok (.lxor, 1) := by decide +kernel
theorem db_poke_25 : decode kb_poke 25 = .ok (.lastore, 1) := by decide +kernel
theorem db_poke_26 : decode kb_poke 26 = .ok (.aload_n 0, 1) := by decide +kernel
theorem db_poke_27 : decode kb_poke 27 = .ok (.iconst 0, 1) := by decide +kernel
theorem db_poke_28 : decode kb_poke 28 = .ok (.putfield 121, 3) := by decide +kernel
theorem db_poke_31 : decode kb_poke 31 = .ok (.return_, 1) := by decide +kernel
theorem db_pokeRoot_0 : decode kb_pokeRoot 0 = .ok (.aload_n 0, 1) := by decide +kernel
theorem db_pokeRoot_1 : decode kb_pokeRoot 1 = .ok (.iload_n 1, 1) := by decide +kernel
theorem db_pokeRoot_2 : decode kb_pokeRoot 2 = .ok (.iload_n 2, 1) := by decide +kernel
theorem db_pokeRoot_3 : decode kb_pokeRoot 3 = .ok (.invokevirtual 148, 3) := by decide +kernel
theorem db_pokeRoot_6 : decode kb_pokeRoot 6 = .ok (.aload_n 0, 1) := by decide +kernel
theorem db_pokeRoot_7 : decode kb_pokeRoot 7 = .ok (.lload_n 3, 1) := by decide +kernel
theorem db_pokeRoot_8 : decode kb_pokeRoot 8 = .ok (.invokevirtual 151, 3) := by decide +kernel
theorem db_pokeRoot_11 : decode kb_pokeRoot 11 = .ok (.aload_n 0, 1) := by decide +kernel
theorem db_pokeRoot_12 : decode kb_pokeRoot 12 = .ok (.getfield 26, 3) := by decide +kernel
theorem db_pokeRoot_15 : decode kb_pokeRoot 15 = .ok (.iload_n 1, 1) := by decide +kernel
theorem db_pokeRoot_16 : decode kb_pokeRoot 16 = .ok (.bipush 20, 2) := by decide +kernel
theorem db_pokeRoot_18 : decode kb_pokeRoot 18 = .ok (.imul, 1) := by decide +kernel
theorem db_pokeRoot_19 : decode kb_pokeRoot 19 = .ok (.iload_n 2, 1) := by decide +kernel
theorem db_pokeRoot_20 : decode kb_pokeRoot 20 = .ok (.iadd, 1) := by decide +kernel
theorem db_pokeRoot_21 : decode kb_pokeRoot 21 = .ok (.dup2, 1) := by decide +kernel
theorem db_pokeRoot_22 : decode kb_pokeRoot 22 = .ok (.laload, 1) := by decide +kernel
theorem db_pokeRoot_23 : decode kb_pokeRoot 23 = .ok (.lload_n 3, 1) := by decide +kernel
theorem db_pokeRoot_24 : decode kb_pokeRoot 24 = .ok (.lxor, 1) := by decide +kernel
theorem db_pokeRoot_25 : decode kb_pokeRoot 25 = .ok (.lastore, 1) := by decide +kernel
theorem db_pokeRoot_26 : decode kb_pokeRoot 26 = .ok (.aload_n 0, 1) := by decide +kernel
theorem db_pokeRoot_27 : decode kb_pokeRoot 27 = .ok (.iconst 0, 1) := by decide +kernel
theorem db_pokeRoot_28 : decode kb_pokeRoot 28 = .ok (.putfield 121, 3) := by decide +kernel
theorem db_pokeRoot_31 : decode kb_pokeRoot 31 = .ok (.return_, 1) := by decide +kernel
theorem db_badAt_0 : decode kb_badAt 0 = .ok (.aload_n 0, 1) := by decide +kernel
theorem db_badAt_1 : decode kb_badAt 1 = .ok (.invokevirtual 111, 3) := by decide +kernel
theorem db_badAt_4 : decode kb_badAt 4 = .ok (.lstore_n 1, 1) := by decide +kernel
theorem db_badAt_5 : decode kb_badAt 5 = .ok (.iconst 0, 1) := by decide +kernel
theorem db_badAt_6 : decode kb_badAt 6 = .ok (.istore_n 3, 1) := by decide +kernel
theorem db_badAt_7 : decode kb_badAt 7 = .ok (.iload_n 3, 1) := by decide +kernel
theorem db_badAt_8 : decode kb_badAt 8 = .ok (.aload_n 0, 1) := by decide +kernel
theorem db_badAt_9 : decode kb_badAt 9 = .ok (.getfield 18, 3) := by decide +kernel
theorem db_badAt_12 : decode kb_badAt 12 = .ok (.if_icmp .ge 27, 3) := by decide +kernel
theorem db_badAt_15 : decode kb_badAt 15 = .ok (.lload_n 1, 1) := by decide +kernel
theorem db_badAt_16 : decode kb_badAt 16 = .ok (.iload_n 3, 1) := by decide +kernel
theorem db_badAt_17 : decode kb_badAt 17 = .ok (.invokestatic 155, 3) := by decide +kernel
theorem db_badAt_20 : decode kb_badAt 20 = .ok (.ifCond .eq 13, 3) := by decide +kernel
theorem db_badAt_23 : decode kb_badAt 23 = .ok (.aload_n 0, 1) := by decide +kernel
theorem db_badAt_24 : decode kb_badAt 24 = .ok (.iload_n 3, 1) := by decide +kernel
theorem db_badAt_25 : decode kb_badAt 25 = .ok (.invokevirtual 159, 3) := by decide +kernel
theorem db_badAt_28 : decode kb_badAt 28 = .ok (.ifCond .ne 5, 3) := by decide +kernel
theorem db_badAt_31 : decode kb_badAt 31 = .ok (.iload_n 3, 1) := by decide +kernel
theorem db_badAt_32 : decode kb_badAt 32 = .ok (.ireturn, 1) := by decide +kernel
theorem db_badAt_33 : decode kb_badAt 33 = .ok (.iinc 3 1, 3) := by decide +kernel
theorem db_badAt_36 : decode kb_badAt 36 = .ok (.goto (-29), 3) := by decide +kernel
theorem db_badAt_39 : decode kb_badAt 39 = .ok (.iconst 0, 1) := by decide +kernel
theorem db_badAt_40 : decode kb_badAt 40 = .ok (.istore_n 3, 1) := by decide +kernel
theorem db_badAt_41 : decode kb_badAt 41 = .ok (.iload_n 3, 1) := by decide +kernel
theorem db_badAt_42 : decode kb_badAt 42 = .ok (.bipush 8, 2) := by decide +kernel
theorem db_badAt_44 : decode kb_badAt 44 = .ok (.if_icmp .ge 30, 3) := by decide +kernel
theorem db_badAt_47 : decode kb_badAt 47 = .ok (.aload_n 0, 1) := by decide +kernel
theorem db_badAt_48 : decode kb_badAt 48 = .ok (.iload_n 3, 1) := by decide +kernel
theorem db_badAt_49 : decode kb_badAt 49 = .ok (.invokevirtual 162, 3) := by decide +kernel
theorem db_badAt_52 : decode kb_badAt 52 = .ok (.ifCond .ne 16, 3) := by decide +kernel
theorem db_badAt_55 : decode kb_badAt 55 = .ok (.aload_n 0, 1) := by decide +kernel
theorem db_badAt_56 : decode kb_badAt 56 = .ok (.iload_n 3, 1) := by decide +kernel
theorem db_badAt_57 : decode kb_badAt 57 = .ok (.invokevirtual 165, 3) := by decide +kernel
theorem db_badAt_60 : decode kb_badAt 60 = .ok (.ifCond .ne 8, 3) := by decide +kernel
theorem db_badAt_63 : decode kb_badAt 63 = .ok (.bipush 100, 2) := by decide +kernel
theorem db_badAt_65 : decode kb_badAt 65 = .ok (.iload_n 3, 1) := by decide +kernel
theorem db_badAt_66 : decode kb_badAt 66 = .ok (.iadd, 1) := by decide +kernel
theorem db_badAt_67 : decode kb_badAt 67 = .ok (.ireturn, 1) := by decide +kernel
theorem db_badAt_68 : decode kb_badAt 68 = .ok (.iinc 3 1, 3) := by decide +kernel
theorem db_badAt_71 : decode kb_badAt 71 = .ok (.goto (-30), 3) := by decide +kernel
theorem db_badAt_74 : decode kb_badAt 74 = .ok (.iconst (-1), 1) := by decide +kernel
theorem db_badAt_75 : decode kb_badAt 75 = .ok (.ireturn, 1) := by decide +kernel
theorem db_requireOpen_0 : decode kb_requireOpen 0 = .ok (.aload_n 0, 1) := by decide +kernel
theorem db_requireOpen_1 : decode kb_requireOpen 1 = .ok (.getfield 135, 3) := by decide +kernel
theorem db_requireOpen_4 : decode kb_requireOpen 4 = .ok (.ifCond .eq 13, 3) := by decide +kernel
theorem db_requireOpen_7 : decode kb_requireOpen 7 = .ok (.new 125, 3) := by decide +kernel
theorem db_requireOpen_10 : decode kb_requireOpen 10 = .ok (.dup, 1) := by decide +kernel
theorem db_requireOpen_11 : decode kb_requireOpen 11 = .ok (.ldc 168, 2) := by decide +kernel
theorem db_requireOpen_13 : decode kb_requireOpen 13 = .ok (.invokespecial 129, 3) := by decide +kernel
theorem db_requireOpen_16 : decode kb_requireOpen 16 = .ok (.athrow, 1) := by decide +kernel
theorem db_requireOpen_17 : decode kb_requireOpen 17 = .ok (.return_, 1) := by decide +kernel
theorem db_requireWritable_0 : decode kb_requireWritable 0 = .ok (.aload_n 0, 1) := by decide +kernel
theorem db_requireWritable_1 : decode kb_requireWritable 1 = .ok (.invokevirtual 77, 3) := by decide +kernel
theorem db_requireWritable_4 : decode kb_requireWritable 4 = .ok (.aload_n 0, 1) := by decide +kernel
theorem db_requireWritable_5 : decode kb_requireWritable 5 = .ok (.aload_n 0, 1) := by decide +kernel
theorem db_requireWritable_6 : decode kb_requireWritable 6 = .ok (.getfield 52, 3) := by decide +kernel
theorem db_requireWritable_9 : decode kb_requireWritable 9 = .ok (.invokevirtual 170, 3) := by decide +kernel
theorem db_requireWritable_12 : decode kb_requireWritable 12 = .ok (.ifCond .ne 13, 3) := by decide +kernel
theorem db_requireWritable_15 : decode kb_requireWritable 15 = .ok (.new 125, 3) := by decide +kernel
theorem db_requireWritable_18 : decode kb_requireWritable 18 = .ok (.dup, 1) := by decide +kernel
theorem db_requireWritable_19 : decode kb_requireWritable 19 = .ok (.ldc 173, 2) := by decide +kernel
theorem db_requireWritable_21 : decode kb_requireWritable 21 = .ok (.invokespecial 129, 3) := by decide +kernel
theorem db_requireWritable_24 : decode kb_requireWritable 24 = .ok (.athrow, 1) := by decide +kernel
theorem db_requireWritable_25 : decode kb_requireWritable 25 = .ok (.return_, 1) := by decide +kernel
theorem db_requireKey_0 : decode kb_requireKey 0 = .ok (.iload_n 1, 1) := by decide +kernel
theorem db_requireKey_1 : decode kb_requireKey 1 = .ok (.ifCond .lt 9, 3) := by decide +kernel
theorem db_requireKey_4 : decode kb_requireKey 4 = .ok (.iload_n 1, 1) := by decide +kernel
theorem db_requireKey_5 : decode kb_requireKey 5 = .ok (.ldc 175, 2) := by decide +kernel
theorem db_requireKey_7 : decode kb_requireKey 7 = .ok (.if_icmp .le 13, 3) := by decide +kernel
theorem db_requireKey_10 : decode kb_requireKey 10 = .ok (.new 86, 3) := by decide +kernel
theorem db_requireKey_13 : decode kb_requireKey 13 = .ok (.dup, 1) := by decide +kernel
theorem db_requireKey_14 : decode kb_requireKey 14 = .ok (.ldc 176, 2) := by decide +kernel
theorem db_requireKey_16 : decode kb_requireKey 16 = .ok (.invokespecial 90, 3) := by decide +kernel
theorem db_requireKey_19 : decode kb_requireKey 19 = .ok (.athrow, 1) := by decide +kernel
theorem db_requireKey_20 : decode kb_requireKey 20 = .ok (.return_, 1) := by decide +kernel
theorem db_requireKept_0 : decode kb_requireKept 0 = .ok (.aload_n 0, 1) := by decide +kernel
theorem db_requireKept_1 : decode kb_requireKept 1 = .ok (.iload_n 1, 1) := by decide +kernel
theorem db_requireKept_2 : decode kb_requireKept 2 = .ok (.invokevirtual 170, 3) := by decide +kernel
theorem db_requireKept_5 : decode kb_requireKept 5 = .ok (.ifCond .ne 13, 3) := by decide +kernel
theorem db_requireKept_8 : decode kb_requireKept 8 = .ok (.new 102, 3) := by decide +kernel
theorem db_requireKept_11 : decode kb_requireKept 11 = .ok (.dup, 1) := by decide +kernel
theorem db_requireKept_12 : decode kb_requireKept 12 = .ok (.ldc 178, 2) := by decide +kernel
theorem db_requireKept_14 : decode kb_requireKept 14 = .ok (.invokespecial 106, 3) := by decide +kernel
theorem db_requireKept_17 : decode kb_requireKept 17 = .ok (.athrow, 1) := by decide +kernel
theorem db_requireKept_18 : decode kb_requireKept 18 = .ok (.return_, 1) := by decide +kernel
theorem db_requirePageWord_0 : decode kb_requirePageWord 0 = .ok (.iload_n 1, 1) := by decide +kernel
theorem db_requirePageWord_1 : decode kb_requirePageWord 1 = .ok (.ifCond .lt 21, 3) := by decide +kernel
theorem db_requirePageWord_4 : decode kb_requirePageWord 4 = .ok (.iload_n 1, 1) := by decide +kernel
theorem db_requirePageWord_5 : decode kb_requirePageWord 5 = .ok (.aload_n 0, 1) := by decide +kernel
theorem db_requirePageWord_6 : decode kb_requirePageWord 6 = .ok (.getfield 18, 3) := by decide +kernel
theorem db_requirePageWord_9 : decode kb_requirePageWord 9 = .ok (.if_icmp .ge 13, 3) := by decide +kernel
theorem db_requirePageWord_12 : decode kb_requirePageWord 12 = .ok (.iload_n 2, 1) := by decide +kernel
theorem db_requirePageWord_13 : decode kb_requirePageWord 13 = .ok (.ifCond .lt 9, 3) := by decide +kernel
theorem db_requirePageWord_16 : decode kb_requirePageWord 16 = .ok (.iload_n 2, 1) := by decide +kernel
theorem db_requirePageWord_17 : decode kb_requirePageWord 17 = .ok (.bipush 16, 2) := by decide +kernel
theorem db_requirePageWord_19 : decode kb_requirePageWord 19 = .ok (.if_icmp .lt 13, 3) := by decide +kernel
theorem db_requirePageWord_22 : decode kb_requirePageWord 22 = .ok (.new 102, 3) := by decide +kernel
theorem db_requirePageWord_25 : decode kb_requirePageWord 25 = .ok (.dup, 1) := by decide +kernel
theorem db_requirePageWord_26 : decode kb_requirePageWord 26 = .ok (.ldc 180, 2) := by decide +kernel
theorem db_requirePageWord_28 : decode kb_requirePageWord 28 = .ok (.invokespecial 106, 3) := by decide +kernel
theorem db_requirePageWord_31 : decode kb_requirePageWord 31 = .ok (.athrow, 1) := by decide +kernel
theorem db_requirePageWord_32 : decode kb_requirePageWord 32 = .ok (.return_, 1) := by decide +kernel
theorem db_requireRootWord_0 : decode kb_requireRootWord 0 = .ok (.iload_n 1, 1) := by decide +kernel
theorem db_requireRootWord_1 : decode kb_requireRootWord 1 = .ok (.ifCond .lt 19, 3) := by decide +kernel
theorem db_requireRootWord_4 : decode kb_requireRootWord 4 = .ok (.iload_n 1, 1) := by decide +kernel
theorem db_requireRootWord_5 : decode kb_requireRootWord 5 = .ok (.bipush 8, 2) := by decide +kernel
theorem db_requireRootWord_7 : decode kb_requireRootWord 7 = .ok (.if_icmp .ge 13, 3) := by decide +kernel
theorem db_requireRootWord_10 : decode kb_requireRootWord 10 = .ok (.iload_n 2, 1) := by decide +kernel
theorem db_requireRootWord_11 : decode kb_requireRootWord 11 = .ok (.ifCond .lt 9, 3) := by decide +kernel
theorem db_requireRootWord_14 : decode kb_requireRootWord 14 = .ok (.iload_n 2, 1) := by decide +kernel
theorem db_requireRootWord_15 : decode kb_requireRootWord 15 = .ok (.bipush 20, 2) := by decide +kernel
theorem db_requireRootWord_17 : decode kb_requireRootWord 17 = .ok (.if_icmp .lt 13, 3) := by decide +kernel
theorem db_requireRootWord_20 : decode kb_requireRootWord 20 = .ok (.new 102, 3) := by decide +kernel
theorem db_requireRootWord_23 : decode kb_requireRootWord 23 = .ok (.dup, 1) := by decide +kernel
theorem db_requireRootWord_24 : decode kb_requireRootWord 24 = .ok (.ldc 182, 2) := by decide +kernel
theorem db_requireRootWord_26 : decode kb_requireRootWord 26 = .ok (.invokespecial 106, 3) := by decide +kernel
theorem db_requireRootWord_29 : decode kb_requireRootWord 29 = .ok (.athrow, 1) := by decide +kernel
theorem db_requireRootWord_30 : decode kb_requireRootWord 30 = .ok (.return_, 1) := by decide +kernel
theorem db_requireMask_0 : decode kb_requireMask 0 = .ok (.lload_n 1, 1) := by decide +kernel
theorem db_requireMask_1 : decode kb_requireMask 1 = .ok (.lconst 0, 1) := by decide +kernel
theorem db_requireMask_2 : decode kb_requireMask 2 = .ok (.lcmp, 1) := by decide +kernel
theorem db_requireMask_3 : decode kb_requireMask 3 = .ok (.ifCond .ne 13, 3) := by decide +kernel
theorem db_requireMask_6 : decode kb_requireMask 6 = .ok (.new 86, 3) := by decide +kernel
theorem db_requireMask_9 : decode kb_requireMask 9 = .ok (.dup, 1) := by decide +kernel
theorem db_requireMask_10 : decode kb_requireMask 10 = .ok (.ldc 184, 2) := by decide +kernel
theorem db_requireMask_12 : decode kb_requireMask 12 = .ok (.invokespecial 90, 3) := by decide +kernel
theorem db_requireMask_15 : decode kb_requireMask 15 = .ok (.athrow, 1) := by decide +kernel
theorem db_requireMask_16 : decode kb_requireMask 16 = .ok (.return_, 1) := by decide +kernel
theorem db_sumOf_0 : decode kb_sumOf 0 = .ok (.lconst 0, 1) := by decide +kernel
theorem db_sumOf_1 : decode kb_sumOf 1 = .ok (.lstore_n 3, 1) := by decide +kernel
theorem db_sumOf_2 : decode kb_sumOf 2 = .ok (.iload_n 1, 1) := by decide +kernel
theorem db_sumOf_3 : decode kb_sumOf 3 = .ok (.istore 5, 2) := by decide +kernel
theorem db_sumOf_5 : decode kb_sumOf 5 = .ok (.iload 5, 2) := by decide +kernel
theorem db_sumOf_7 : decode kb_sumOf 7 = .ok (.iload_n 1, 1) := by decide +kernel
theorem db_sumOf_8 : decode kb_sumOf 8 = .ok (.iload_n 2, 1) := by decide +kernel
theorem db_sumOf_9 : decode kb_sumOf 9 = .ok (.iadd, 1) := by decide +kernel
theorem db_sumOf_10 : decode kb_sumOf 10 = .ok (.if_icmp .ge 32, 3) := by decide +kernel
theorem db_sumOf_13 : decode kb_sumOf 13 = .ok (.lload_n 3, 1) := by decide +kernel
theorem db_sumOf_14 : decode kb_sumOf 14 = .ok (.aload_n 0, 1) := by decide +kernel
theorem db_sumOf_15 : decode kb_sumOf 15 = .ok (.iload 5, 2) := by decide +kernel
theorem db_sumOf_17 : decode kb_sumOf 17 = .ok (.laload, 1) := by decide +kernel
theorem db_sumOf_18 : decode kb_sumOf 18 = .ok (.lxor, 1) := by decide +kernel
theorem db_sumOf_19 : decode kb_sumOf 19 = .ok (.lstore 6, 2) := by decide +kernel
theorem db_sumOf_21 : decode kb_sumOf 21 = .ok (.lload 6, 2) := by decide +kernel
theorem db_sumOf_23 : decode kb_sumOf 23 = .ok (.iconst 5, 1) := by decide +kernel
theorem db_sumOf_24 : decode kb_sumOf 24 = .ok (.lshl, 1) := by decide +kernel
theorem db_sumOf_25 : decode kb_sumOf 25 = .ok (.lload 6, 2) := by decide +kernel
theorem db_sumOf_27 : decode kb_sumOf 27 = .ok (.bipush 59, 2) := by decide +kernel
theorem db_sumOf_29 : decode kb_sumOf 29 = .ok (.lushr, 1) := by decide +kernel
theorem db_sumOf_30 : decode kb_sumOf 30 = .ok (.lor, 1) := by decide +kernel
theorem db_sumOf_31 : decode kb_sumOf 31 = .ok (.ldc2_w 186, 3) := by decide +kernel
theorem db_sumOf_34 : decode kb_sumOf 34 = .ok (.lmul, 1) := by decide +kernel
theorem db_sumOf_35 : decode kb_sumOf 35 = .ok (.lstore_n 3, 1) := by decide +kernel
theorem db_sumOf_36 : decode kb_sumOf 36 = .ok (.iinc 5 1, 3) := by decide +kernel
theorem db_sumOf_39 : decode kb_sumOf 39 = .ok (.goto (-34), 3) := by decide +kernel
theorem db_sumOf_42 : decode kb_sumOf 42 = .ok (.lload_n 3, 1) := by decide +kernel
theorem db_sumOf_43 : decode kb_sumOf 43 = .ok (.lconst 1, 1) := by decide +kernel
theorem db_sumOf_44 : decode kb_sumOf 44 = .ok (.lxor, 1) := by decide +kernel
theorem db_sumOf_45 : decode kb_sumOf 45 = .ok (.lreturn, 1) := by decide +kernel
theorem db_isRightPage_0 : decode kb_isRightPage 0 = .ok (.iload_n 1, 1) := by decide +kernel
theorem db_isRightPage_1 : decode kb_isRightPage 1 = .ok (.bipush 16, 2) := by decide +kernel
theorem db_isRightPage_3 : decode kb_isRightPage 3 = .ok (.imul, 1) := by decide +kernel
theorem db_isRightPage_4 : decode kb_isRightPage 4 = .ok (.istore_n 2, 1) := by decide +kernel
theorem db_isRightPage_5 : decode kb_isRightPage 5 = .ok (.aload_n 0, 1) := by decide +kernel
theorem db_isRightPage_6 : decode kb_isRightPage 6 = .ok (.getfield 22, 3) := by decide +kernel
theorem db_isRightPage_9 : decode kb_isRightPage 9 = .ok (.iload_n 2, 1) := by decide +kernel
theorem db_isRightPage_10 : decode kb_isRightPage 10 = .ok (.laload, 1) := by decide +kernel
theorem db_isRightPage_11 : decode kb_isRightPage 11 = .ok (.lstore_n 3, 1) := by decide +kernel
theorem db_isRightPage_12 : decode kb_isRightPage 12 = .ok (.lload_n 3, 1) := by decide +kernel
theorem db_isRightPage_13 : decode kb_isRightPage 13 = .ok (.lconst 0, 1) := by decide +kernel
theorem db_isRightPage_14 : decode kb_isRightPage 14 = .ok (.lcmp, 1) := by decide +kernel
theorem db_isRightPage_15 : decode kb_isRightPage 15 = .ok (.ifCond .lt 11, 3) := by decide +kernel
theorem db_isRightPage_18 : decode kb_isRightPage 18 = .ok (.lload_n 3, 1) := by decide +kernel
theorem db_isRightPage_19 : decode kb_isRightPage 19 = .ok (.ldc2_w 188, 3) := by decide +kernel
theorem db_isRightPage_22 : decode kb_isRightPage 22 = .ok (.lcmp, 1) := by decide +kernel
theorem db_isRightPage_23 : decode kb_isRightPage 23 = .ok (.ifCond .le 5, 3) := by decide +kernel
theorem db_isRightPage_26 : decode kb_isRightPage 26 = .ok (.iconst 0, 1) := by decide +kernel
theorem db_isRightPage_27 : decode kb_isRightPage 27 = .ok (.ireturn, 1) := by decide +kernel
theorem db_isRightPage_28 : decode kb_isRightPage 28 = .ok (.ldc2_w 190, 3) := by decide +kernel
theorem db_isRightPage_31 : decode kb_isRightPage 31 = .ok (.lstore 5, 2) := by decide +kernel
theorem db_isRightPage_33 : decode kb_isRightPage 33 = .ok (.iconst 0, 1) := by decide +kernel
theorem db_isRightPage_34 : decode kb_isRightPage 34 = .ok (.istore 7, 2) := by decide +kernel
theorem db_isRightPage_36 : decode kb_isRightPage 36 = .ok (.iload 7, 2) := by decide +kernel
theorem db_isRightPage_38 : decode kb_isRightPage 38 = .ok (.i2l, 1) := by decide +kernel
theorem db_isRightPage_39 : decode kb_isRightPage 39 = .ok (.lload_n 3, 1) := by decide +kernel
theorem db_isRightPage_40 : decode kb_isRightPage 40 = .ok (.lcmp, 1) := by decide +kernel
theorem db_isRightPage_41 : decode kb_isRightPage 41 = .ok (.ifCond .ge 47, 3) := by decide +kernel
theorem db_isRightPage_44 : decode kb_isRightPage 44 = .ok (.aload_n 0, 1) := by decide +kernel
theorem db_isRightPage_45 : decode kb_isRightPage 45 = .ok (.getfield 22, 3) := by decide +kernel
theorem db_isRightPage_48 : decode kb_isRightPage 48 = .ok (.iload_n 2, 1) := by decide +kernel
theorem db_isRightPage_49 : decode kb_isRightPage 49 = .ok (.iconst 1, 1) := by decide +kernel
theorem db_isRightPage_50 : decode kb_isRightPage 50 = .ok (.iadd, 1) := by decide +kernel
theorem db_isRightPage_51 : decode kb_isRightPage 51 = .ok (.iconst 2, 1) := by decide +kernel
theorem db_isRightPage_52 : decode kb_isRightPage 52 = .ok (.iload 7, 2) := by decide +kernel
theorem db_isRightPage_54 : decode kb_isRightPage 54 = .ok (.imul, 1) := by decide +kernel
theorem db_isRightPage_55 : decode kb_isRightPage 55 = .ok (.iadd, 1) := by decide +kernel
theorem db_isRightPage_56 : decode kb_isRightPage 56 = .ok (.laload, 1) := by decide +kernel
theorem db_isRightPage_57 : decode kb_isRightPage 57 = .ok (.lstore 8, 2) := by decide +kernel
theorem db_isRightPage_59 : decode kb_isRightPage 59 = .ok (.lload 8, 2) := by decide +kernel
theorem db_isRightPage_61 : decode kb_isRightPage 61 = .ok (.lload 5, 2) := by decide +kernel
theorem db_isRightPage_63 : decode kb_isRightPage 63 = .ok (.lcmp, 1) := by decide +kernel
theorem db_isRightPage_64 : decode kb_isRightPage 64 = .ok (.ifCond .le 12, 3) := by decide +kernel
theorem db_isRightPage_67 : decode kb_isRightPage 67 = .ok (.lload 8, 2) := by decide +kernel
theorem db_isRightPage_69 : decode kb_isRightPage 69 = .ok (.ldc2_w 192, 3) := by decide +kernel
theorem db_isRightPage_72 : decode kb_isRightPage 72 = .ok (.lcmp, 1) := by decide +kernel
theorem db_isRightPage_73 : decode kb_isRightPage 73 = .ok (.ifCond .le 5, 3) := by decide +kernel
theorem db_isRightPage_76 : decode kb_isRightPage 76 = .ok (.iconst 0, 1) := by decide +kernel
theorem db_isRightPage_77 : decode kb_isRightPage 77 = .ok (.ireturn, 1) := by decide +kernel
theorem db_isRightPage_78 : decode kb_isRightPage 78 = .ok (.lload 8, 2) := by decide +kernel
theorem db_isRightPage_80 : decode kb_isRightPage 80 = .ok (.lstore 5, 2) := by decide +kernel
theorem db_isRightPage_82 : decode kb_isRightPage 82 = .ok (.iinc 7 1, 3) := by decide +kernel
theorem db_isRightPage_85 : decode kb_isRightPage 85 = .ok (.goto (-49), 3) := by decide +kernel
theorem db_isRightPage_88 : decode kb_isRightPage 88 = .ok (.aload_n 0, 1) := by decide +kernel
theorem db_isRightPage_89 : decode kb_isRightPage 89 = .ok (.getfield 22, 3) := by decide +kernel
theorem db_isRightPage_92 : decode kb_isRightPage 92 = .ok (.iload_n 2, 1) := by decide +kernel
theorem db_isRightPage_93 : decode kb_isRightPage 93 = .ok (.bipush 15, 2) := by decide +kernel
theorem db_isRightPage_95 : decode kb_isRightPage 95 = .ok (.iadd, 1) := by decide +kernel
theorem db_isRightPage_96 : decode kb_isRightPage 96 = .ok (.laload, 1) := by decide +kernel
theorem db_isRightPage_97 : decode kb_isRightPage 97 = .ok (.aload_n 0, 1) := by decide +kernel
theorem db_isRightPage_98 : decode kb_isRightPage 98 = .ok (.getfield 22, 3) := by decide +kernel
theorem db_isRightPage_101 : decode kb_isRightPage 101 = .ok (.iload_n 2, 1) := by decide +kernel
theorem db_isRightPage_102 : decode kb_isRightPage 102 = .ok (.bipush 15, 2) := by decide +kernel
theorem db_isRightPage_104 : decode kb_isRightPage 104 = .ok (.invokestatic 194, 3) := by decide +kernel
theorem db_isRightPage_107 : decode kb_isRightPage 107 = .ok (.lcmp, 1) := by decide +kernel
theorem db_isRightPage_108 : decode kb_isRightPage 108 = .ok (.ifCond .ne 7, 3) := by decide +kernel
theorem db_isRightPage_111 : decode kb_isRightPage 111 = .ok (.iconst 1, 1) := by decide +kernel
theorem db_isRightPage_112 : decode kb_isRightPage 112 = .ok (.goto 4, 3) := by decide +kernel
theorem db_isRightPage_115 : decode kb_isRightPage 115 = .ok (.iconst 0, 1) := by decide +kernel
theorem db_isRightPage_116 : decode kb_isRightPage 116 = .ok (.ireturn, 1) := by decide +kernel
theorem db_hasRootSum_0 : decode kb_hasRootSum 0 = .ok (.iload_n 1, 1) := by decide +kernel
theorem db_hasRootSum_1 : decode kb_hasRootSum 1 = .ok (.bipush 20, 2) := by decide +kernel
theorem db_hasRootSum_3 : decode kb_hasRootSum 3 = .ok (.imul, 1) := by decide +kernel
theorem db_hasRootSum_4 : decode kb_hasRootSum 4 = .ok (.istore_n 2, 1) := by decide +kernel
theorem db_hasRootSum_5 : decode kb_hasRootSum 5 = .ok (.aload_n 0, 1) := by decide +kernel
theorem db_hasRootSum_6 : decode kb_hasRootSum 6 = .ok (.getfield 26, 3) := by decide +kernel
theorem db_hasRootSum_9 : decode kb_hasRootSum 9 = .ok (.iload_n 2, 1) := by decide +kernel
theorem db_hasRootSum_10 : decode kb_hasRootSum 10 = .ok (.bipush 19, 2) := by decide +kernel
theorem db_hasRootSum_12 : decode kb_hasRootSum 12 = .ok (.iadd, 1) := by decide +kernel
theorem db_hasRootSum_13 : decode kb_hasRootSum 13 = .ok (.laload, 1) := by decide +kernel
theorem db_hasRootSum_14 : decode kb_hasRootSum 14 = .ok (.aload_n 0, 1) := by decide +kernel
theorem db_hasRootSum_15 : decode kb_hasRootSum 15 = .ok (.getfield 26, 3) := by decide +kernel
theorem db_hasRootSum_18 : decode kb_hasRootSum 18 = .ok (.iload_n 2, 1) := by decide +kernel
theorem db_hasRootSum_19 : decode kb_hasRootSum 19 = .ok (.bipush 19, 2) := by decide +kernel
theorem db_hasRootSum_21 : decode kb_hasRootSum 21 = .ok (.invokestatic 194, 3) := by decide +kernel
theorem db_hasRootSum_24 : decode kb_hasRootSum 24 = .ok (.lcmp, 1) := by decide +kernel
theorem db_hasRootSum_25 : decode kb_hasRootSum 25 = .ok (.ifCond .ne 7, 3) := by decide +kernel
theorem db_hasRootSum_28 : decode kb_hasRootSum 28 = .ok (.iconst 1, 1) := by decide +kernel
theorem db_hasRootSum_29 : decode kb_hasRootSum 29 = .ok (.goto 4, 3) := by decide +kernel
theorem db_hasRootSum_32 : decode kb_hasRootSum 32 = .ok (.iconst 0, 1) := by decide +kernel
theorem db_hasRootSum_33 : decode kb_hasRootSum 33 = .ok (.ireturn, 1) := by decide +kernel
theorem db_isBlankRoot_0 : decode kb_isBlankRoot 0 = .ok (.iload_n 1, 1) := by decide +kernel
theorem db_isBlankRoot_1 : decode kb_isBlankRoot 1 = .ok (.bipush 20, 2) := by decide +kernel
theorem db_isBlankRoot_3 : decode kb_isBlankRoot 3 = .ok (.imul, 1) := by decide +kernel
theorem db_isBlankRoot_4 : decode kb_isBlankRoot 4 = .ok (.istore_n 2, 1) := by decide +kernel
theorem db_isBlankRoot_5 : decode kb_isBlankRoot 5 = .ok (.iconst 0, 1) := by decide +kernel
theorem db_isBlankRoot_6 : decode kb_isBlankRoot 6 = .ok (.istore_n 3, 1) := by decide +kernel
theorem db_isBlankRoot_7 : decode kb_isBlankRoot 7 = .ok (.iload_n 3, 1) := by decide +kernel
theorem db_isBlankRoot_8 : decode kb_isBlankRoot 8 = .ok (.bipush 19, 2) := by decide +kernel
theorem db_isBlankRoot_10 : decode kb_isBlankRoot 10 = .ok (.if_icmp .ge 24, 3) := by decide +kernel
theorem db_isBlankRoot_13 : decode kb_isBlankRoot 13 = .ok (.aload_n 0, 1) := by decide +kernel
theorem db_isBlankRoot_14 : decode kb_isBlankRoot 14 = .ok (.getfield 26, 3) := by decide +kernel
theorem db_isBlankRoot_17 : decode kb_isBlankRoot 17 = .ok (.iload_n 2, 1) := by decide +kernel
theorem db_isBlankRoot_18 : decode kb_isBlankRoot 18 = .ok (.iload_n 3, 1) := by decide +kernel
theorem db_isBlankRoot_19 : decode kb_isBlankRoot 19 = .ok (.iadd, 1) := by decide +kernel
theorem db_isBlankRoot_20 : decode kb_isBlankRoot 20 = .ok (.laload, 1) := by decide +kernel
theorem db_isBlankRoot_21 : decode kb_isBlankRoot 21 = .ok (.lconst 0, 1) := by decide +kernel
theorem db_isBlankRoot_22 : decode kb_isBlankRoot 22 = .ok (.lcmp, 1) := by decide +kernel
theorem db_isBlankRoot_23 : decode kb_isBlankRoot 23 = .ok (.ifCond .eq 5, 3) := by decide +kernel
theorem db_isBlankRoot_26 : decode kb_isBlankRoot 26 = .ok (.iconst 0, 1) := by decide +kernel
theorem db_isBlankRoot_27 : decode kb_isBlankRoot 27 = .ok (.ireturn, 1) := by decide +kernel
theorem db_isBlankRoot_28 : decode kb_isBlankRoot 28 = .ok (.iinc 3 1, 3) := by decide +kernel
theorem db_isBlankRoot_31 : decode kb_isBlankRoot 31 = .ok (.goto (-24), 3) := by decide +kernel
theorem db_isBlankRoot_34 : decode kb_isBlankRoot 34 = .ok (.iconst 1, 1) := by decide +kernel
theorem db_isBlankRoot_35 : decode kb_isBlankRoot 35 = .ok (.ireturn, 1) := by decide +kernel
theorem db_isSound_0 : decode kb_isSound 0 = .ok (.iload_n 1, 1) := by decide +kernel
theorem db_isSound_1 : decode kb_isSound 1 = .ok (.bipush 20, 2) := by decide +kernel
theorem db_isSound_3 : decode kb_isSound 3 = .ok (.imul, 1) := by decide +kernel
theorem db_isSound_4 : decode kb_isSound 4 = .ok (.istore_n 2, 1) := by decide +kernel
theorem db_isSound_5 : decode kb_isSound 5 = .ok (.aload_n 0, 1) := by decide +kernel
theorem db_isSound_6 : decode kb_isSound 6 = .ok (.getfield 26, 3) := by decide +kernel
theorem db_isSound_9 : decode kb_isSound 9 = .ok (.iload_n 2, 1) := by decide +kernel
theorem db_isSound_10 : decode kb_isSound 10 = .ok (.iconst 1, 1) := by decide +kernel
theorem db_isSound_11 : decode kb_isSound 11 = .ok (.iadd, 1) := by decide +kernel
theorem db_isSound_12 : decode kb_isSound 12 = .ok (.laload, 1) := by decide +kernel
theorem db_isSound_13 : decode kb_isSound 13 = .ok (.lstore_n 3, 1) := by decide +kernel
theorem db_isSound_14 : decode kb_isSound 14 = .ok (.lload_n 3, 1) := by decide +kernel
theorem db_isSound_15 : decode kb_isSound 15 = .ok (.lconst 0, 1) := by decide +kernel
theorem db_isSound_16 : decode kb_isSound 16 = .ok (.lcmp, 1) := by decide +kernel
theorem db_isSound_17 : decode kb_isSound 17 = .ok (.ifCond .lt 11, 3) := by decide +kernel
theorem db_isSound_20 : decode kb_isSound 20 = .ok (.lload_n 3, 1) := by decide +kernel
theorem db_isSound_21 : decode kb_isSound 21 = .ok (.ldc2_w 198, 3) := by decide +kernel
theorem db_isSound_24 : decode kb_isSound 24 = .ok (.lcmp, 1) := by decide +kernel
theorem db_isSound_25 : decode kb_isSound 25 = .ok (.ifCond .le 5, 3) := by decide +kernel
theorem db_isSound_28 : decode kb_isSound 28 = .ok (.iconst 0, 1) := by decide +kernel
theorem db_isSound_29 : decode kb_isSound 29 = .ok (.ireturn, 1) := by decide +kernel
theorem db_isSound_30 : decode kb_isSound 30 = .ok (.iconst 0, 1) := by decide +kernel
theorem db_isSound_31 : decode kb_isSound 31 = .ok (.istore 5, 2) := by decide +kernel
theorem db_isSound_33 : decode kb_isSound 33 = .ok (.iload 5, 2) := by decide +kernel
theorem db_isSound_35 : decode kb_isSound 35 = .ok (.i2l, 1) := by decide +kernel
theorem db_isSound_36 : decode kb_isSound 36 = .ok (.lload_n 3, 1) := by decide +kernel
theorem db_isSound_37 : decode kb_isSound 37 = .ok (.lcmp, 1) := by decide +kernel
theorem db_isSound_38 : decode kb_isSound 38 = .ok (.ifCond .ge 42, 3) := by decide +kernel
theorem db_isSound_41 : decode kb_isSound 41 = .ok (.aload_n 0, 1) := by decide +kernel
theorem db_isSound_42 : decode kb_isSound 42 = .ok (.getfield 26, 3) := by decide +kernel
theorem db_isSound_45 : decode kb_isSound 45 = .ok (.iload_n 2, 1) := by decide +kernel
theorem db_isSound_46 : decode kb_isSound 46 = .ok (.iconst 2, 1) := by decide +kernel
theorem db_isSound_47 : decode kb_isSound 47 = .ok (.iadd, 1) := by decide +kernel
theorem db_isSound_48 : decode kb_isSound 48 = .ok (.iload 5, 2) := by decide +kernel
theorem db_isSound_50 : decode kb_isSound 50 = .ok (.iadd, 1) := by decide +kernel
theorem db_isSound_51 : decode kb_isSound 51 = .ok (.laload, 1) := by decide +kernel
theorem db_isSound_52 : decode kb_isSound 52 = .ok (.lstore 6, 2) := by decide +kernel
theorem db_isSound_54 : decode kb_isSound 54 = .ok (.lload 6, 2) := by decide +kernel
theorem db_isSound_56 : decode kb_isSound 56 = .ok (.lconst 0, 1) := by decide +kernel
theorem db_isSound_57 : decode kb_isSound 57 = .ok (.lcmp, 1) := by decide +kernel
theorem db_isSound_58 : decode kb_isSound 58 = .ok (.ifCond .lt 14, 3) := by decide +kernel
theorem db_isSound_61 : decode kb_isSound 61 = .ok (.lload 6, 2) := by decide +kernel
theorem db_isSound_63 : decode kb_isSound 63 = .ok (.aload_n 0, 1) := by decide +kernel
theorem db_isSound_64 : decode kb_isSound 64 = .ok (.getfield 18, 3) := by decide +kernel
theorem db_isSound_67 : decode kb_isSound 67 = .ok (.i2l, 1) := by decide +kernel
theorem db_isSound_68 : decode kb_isSound 68 = .ok (.lcmp, 1) := by decide +kernel
theorem db_isSound_69 : decode kb_isSound 69 = .ok (.ifCond .lt 5, 3) := by decide +kernel
theorem db_isSound_72 : decode kb_isSound 72 = .ok (.iconst 0, 1) := by decide +kernel
theorem db_isSound_73 : decode kb_isSound 73 = .ok (.ireturn, 1) := by decide +kernel
theorem db_isSound_74 : decode kb_isSound 74 = .ok (.iinc 5 1, 3) := by decide +kernel
theorem db_isSound_77 : decode kb_isSound 77 = .ok (.goto (-44), 3) := by decide +kernel
theorem db_isSound_80 : decode kb_isSound 80 = .ok (.iconst 1, 1) := by decide +kernel
theorem db_isSound_81 : decode kb_isSound 81 = .ok (.ireturn, 1) := by decide +kernel
theorem db_isRightRoot_0 : decode kb_isRightRoot 0 = .ok (.aload_n 0, 1) := by decide +kernel
theorem db_isRightRoot_1 : decode kb_isRightRoot 1 = .ok (.iload_n 1, 1) := by decide +kernel
theorem db_isRightRoot_2 : decode kb_isRightRoot 2 = .ok (.invokevirtual 165, 3) := by decide +kernel
theorem db_isRightRoot_5 : decode kb_isRightRoot 5 = .ok (.ifCond .eq 23, 3) := by decide +kernel
theorem db_isRightRoot_8 : decode kb_isRightRoot 8 = .ok (.aload_n 0, 1) := by decide +kernel
theorem db_isRightRoot_9 : decode kb_isRightRoot 9 = .ok (.iload_n 1, 1) := by decide +kernel
theorem db_isRightRoot_10 : decode kb_isRightRoot 10 = .ok (.invokevirtual 200, 3) := by decide +kernel
theorem db_isRightRoot_13 : decode kb_isRightRoot 13 = .ok (.ifCond .eq 15, 3) := by decide +kernel
theorem db_isRightRoot_16 : decode kb_isRightRoot 16 = .ok (.aload_n 0, 1) := by decide +kernel
theorem db_isRightRoot_17 : decode kb_isRightRoot 17 = .ok (.iload_n 1, 1) := by decide +kernel
theorem db_isRightRoot_18 : decode kb_isRightRoot 18 = .ok (.invokevirtual 203, 3) := by decide +kernel
theorem db_isRightRoot_21 : decode kb_isRightRoot 21 = .ok (.ifCond .eq 7, 3) := by decide +kernel
theorem db_isRightRoot_24 : decode kb_isRightRoot 24 = .ok (.iconst 1, 1) := by decide +kernel
theorem db_isRightRoot_25 : decode kb_isRightRoot 25 = .ok (.goto 4, 3) := by decide +kernel
theorem db_isRightRoot_28 : decode kb_isRightRoot 28 = .ok (.iconst 0, 1) := by decide +kernel
theorem db_isRightRoot_29 : decode kb_isRightRoot 29 = .ok (.ireturn, 1) := by decide +kernel
theorem db_hasRightLeaves_0 : decode kb_hasRightLeaves 0 = .ok (.ldc2_w 190, 3) := by decide +kernel
theorem db_hasRightLeaves_3 : decode kb_hasRightLeaves 3 = .ok (.lstore_n 2, 1) := by decide +kernel
theorem db_hasRightLeaves_4 : decode kb_hasRightLeaves 4 = .ok (.lconst 0, 1) := by decide +kernel
theorem db_hasRightLeaves_5 : decode kb_hasRightLeaves 5 = .ok (.lstore 4, 2) := by decide +kernel
theorem db_hasRightLeaves_7 : decode kb_hasRightLeaves 7 = .ok (.aload_n 0, 1) := by decide +kernel
theorem db_hasRightLeaves_8 : decode kb_hasRightLeaves 8 = .ok (.iload_n 1, 1) := by decide +kernel
theorem db_hasRightLeaves_9 : decode kb_hasRightLeaves 9 = .ok (.invokevirtual 96, 3) := by decide +kernel
theorem db_hasRightLeaves_12 : decode kb_hasRightLeaves 12 = .ok (.istore 6, 2) := by decide +kernel
theorem db_hasRightLeaves_14 : decode kb_hasRightLeaves 14 = .ok (.iconst 0, 1) := by decide +kernel
theorem db_hasRightLeaves_15 : decode kb_hasRightLeaves 15 = .ok (.istore 7, 2) := by decide +kernel
theorem db_hasRightLeaves_17 : decode kb_hasRightLeaves 17 = .ok (.iload 7, 2) := by decide +kernel
theorem db_hasRightLeaves_19 : decode kb_hasRightLeaves 19 = .ok (.iload 6, 2) := by decide +kernel
theorem db_hasRightLeaves_21 : decode kb_hasRightLeaves 21 = .ok (.if_icmp .ge 70, 3) := by decide +kernel
theorem db_hasRightLeaves_24 : decode kb_hasRightLeaves 24 = .ok (.aload_n 0, 1) := by decide +kernel
theorem db_hasRightLeaves_25 : decode kb_hasRightLeaves 25 = .ok (.iload_n 1, 1) := by decide +kernel
theorem db_hasRightLeaves_26 : decode kb_hasRightLeaves 26 = .ok (.iload 7, 2) := by decide +kernel
theorem db_hasRightLeaves_28 : decode kb_hasRightLeaves 28 = .ok (.invokevirtual 206, 3) := by decide +kernel
theorem db_hasRightLeaves_31 : decode kb_hasRightLeaves 31 = .ok (.istore 8, 2) := by decide +kernel
theorem db_hasRightLeaves_33 : decode kb_hasRightLeaves 33 = .ok (.aload_n 0, 1) := by decide +kernel
theorem db_hasRightLeaves_34 : decode kb_hasRightLeaves 34 = .ok (.iload 8, 2) := by decide +kernel
theorem db_hasRightLeaves_36 : decode kb_hasRightLeaves 36 = .ok (.invokevirtual 159, 3) := by decide +kernel
theorem db_hasRightLeaves_39 : decode kb_hasRightLeaves 39 = .ok (.ifCond .eq 12, 3) := by decide +kernel
theorem db_hasRightLeaves_42 : decode kb_hasRightLeaves 42 = .ok (.aload_n 0, 1) := by decide +kernel
theorem db_hasRightLeaves_43 : decode kb_hasRightLeaves 43 = .ok (.iload 8, 2) := by decide +kernel
theorem db_hasRightLeaves_45 : decode kb_hasRightLeaves 45 = .ok (.invokevirtual 209, 3) := by decide +kernel
theorem db_hasRightLeaves_48 : decode kb_hasRightLeaves 48 = .ok (.ifCond .ne 5, 3) := by decide +kernel
theorem db_hasRightLeaves_51 : decode kb_hasRightLeaves 51 = .ok (.iconst 0, 1) := by decide +kernel
theorem db_hasRightLeaves_52 : decode kb_hasRightLeaves 52 = .ok (.ireturn, 1) := by decide +kernel
theorem db_hasRightLeaves_53 : decode kb_hasRightLeaves 53 = .ok (.aload_n 0, 1) := by decide +kernel
theorem db_hasRightLeaves_54 : decode kb_hasRightLeaves 54 = .ok (.iload 8, 2) := by decide +kernel
theorem db_hasRightLeaves_56 : decode kb_hasRightLeaves 56 = .ok (.invokevirtual 212, 3) := by decide +kernel
theorem db_hasRightLeaves_59 : decode kb_hasRightLeaves 59 = .ok (.lload_n 2, 1) := by decide +kernel
theorem db_hasRightLeaves_60 : decode kb_hasRightLeaves 60 = .ok (.lcmp, 1) := by decide +kernel
theorem db_hasRightLeaves_61 : decode kb_hasRightLeaves 61 = .ok (.ifCond .gt 5, 3) := by decide +kernel
theorem db_hasRightLeaves_64 : decode kb_hasRightLeaves 64 = .ok (.iconst 0, 1) := by decide +kernel
theorem db_hasRightLeaves_65 : decode kb_hasRightLeaves 65 = .ok (.ireturn, 1) := by decide +kernel
theorem db_hasRightLeaves_66 : decode kb_hasRightLeaves 66 = .ok (.aload_n 0, 1) := by decide +kernel
theorem db_hasRightLeaves_67 : decode kb_hasRightLeaves 67 = .ok (.iload 8, 2) := by decide +kernel
theorem db_hasRightLeaves_69 : decode kb_hasRightLeaves 69 = .ok (.invokevirtual 216, 3) := by decide +kernel
theorem db_hasRightLeaves_72 : decode kb_hasRightLeaves 72 = .ok (.lstore_n 2, 1) := by decide +kernel
theorem db_hasRightLeaves_73 : decode kb_hasRightLeaves 73 = .ok (.lload 4, 2) := by decide +kernel
theorem db_hasRightLeaves_75 : decode kb_hasRightLeaves 75 = .ok (.aload_n 0, 1) := by decide +kernel
theorem db_hasRightLeaves_76 : decode kb_hasRightLeaves 76 = .ok (.iload 8, 2) := by decide +kernel
theorem db_hasRightLeaves_78 : decode kb_hasRightLeaves 78 = .ok (.invokevirtual 209, 3) := by decide +kernel
theorem db_hasRightLeaves_81 : decode kb_hasRightLeaves 81 = .ok (.i2l, 1) := by decide +kernel
theorem db_hasRightLeaves_82 : decode kb_hasRightLeaves 82 = .ok (.ladd, 1) := by decide +kernel
theorem db_hasRightLeaves_83 : decode kb_hasRightLeaves 83 = .ok (.lstore 4, 2) := by decide +kernel
theorem db_hasRightLeaves_85 : decode kb_hasRightLeaves 85 = .ok (.iinc 7 1, 3) := by decide +kernel
theorem db_hasRightLeaves_88 : decode kb_hasRightLeaves 88 = .ok (.goto (-71), 3) := by decide +kernel
theorem db_hasRightLeaves_91 : decode kb_hasRightLeaves 91 = .ok (.aload_n 0, 1) := by decide +kernel
theorem db_hasRightLeaves_92 : decode kb_hasRightLeaves 92 = .ok (.getfield 26, 3) := by decide +kernel
theorem db_hasRightLeaves_95 : decode kb_hasRightLeaves 95 = .ok (.iload_n 1, 1) := by decide +kernel
theorem db_hasRightLeaves_96 : decode kb_hasRightLeaves 96 = .ok (.bipush 20, 2) := by decide +kernel
theorem db_hasRightLeaves_98 : decode kb_hasRightLeaves 98 = .ok (.imul, 1) := by decide +kernel
theorem db_hasRightLeaves_99 : decode kb_hasRightLeaves 99 = .ok (.bipush 18, 2) := by decide +kernel
theorem db_hasRightLeaves_101 : decode kb_hasRightLeaves 101 = .ok (.iadd, 1) := by decide +kernel
theorem db_hasRightLeaves_102 : decode kb_hasRightLeaves 102 = .ok (.laload, 1) := by decide +kernel
theorem db_hasRightLeaves_103 : decode kb_hasRightLeaves 103 = .ok (.lload 4, 2) := by decide +kernel
theorem db_hasRightLeaves_105 : decode kb_hasRightLeaves 105 = .ok (.lcmp, 1) := by decide +kernel
theorem db_hasRightLeaves_106 : decode kb_hasRightLeaves 106 = .ok (.ifCond .ne 7, 3) := by decide +kernel
theorem db_hasRightLeaves_109 : decode kb_hasRightLeaves 109 = .ok (.iconst 1, 1) := by decide +kernel
theorem db_hasRightLeaves_110 : decode kb_hasRightLeaves 110 = .ok (.goto 4, 3) := by decide +kernel
theorem db_hasRightLeaves_113 : decode kb_hasRightLeaves 113 = .ok (.iconst 0, 1) := by decide +kernel
theorem db_hasRightLeaves_114 : decode kb_hasRightLeaves 114 = .ok (.ireturn, 1) := by decide +kernel
theorem db_isKept_0 : decode kb_isKept 0 = .ok (.iload_n 1, 1) := by decide +kernel
theorem db_isKept_1 : decode kb_isKept 1 = .ok (.invokestatic 55, 3) := by decide +kernel
theorem db_isKept_4 : decode kb_isKept 4 = .ok (.istore_n 2, 1) := by decide +kernel
theorem db_isKept_5 : decode kb_isKept 5 = .ok (.iload_n 1, 1) := by decide +kernel
theorem db_isKept_6 : decode kb_isKept 6 = .ok (.aload_n 0, 1) := by decide +kernel
theorem db_isKept_7 : decode kb_isKept 7 = .ok (.getfield 52, 3) := by decide +kernel
theorem db_isKept_10 : decode kb_isKept 10 = .ok (.if_icmp .gt 30, 3) := by decide +kernel
theorem db_isKept_13 : decode kb_isKept 13 = .ok (.aload_n 0, 1) := by decide +kernel
theorem db_isKept_14 : decode kb_isKept 14 = .ok (.getfield 26, 3) := by decide +kernel
theorem db_isKept_17 : decode kb_isKept 17 = .ok (.iload_n 2, 1) := by decide +kernel
theorem db_isKept_18 : decode kb_isKept 18 = .ok (.bipush 20, 2) := by decide +kernel
theorem db_isKept_20 : decode kb_isKept 20 = .ok (.imul, 1) := by decide +kernel
theorem db_isKept_21 : decode kb_isKept 21 = .ok (.laload, 1) := by decide +kernel
theorem db_isKept_22 : decode kb_isKept 22 = .ok (.iload_n 1, 1) := by decide +kernel
theorem db_isKept_23 : decode kb_isKept 23 = .ok (.i2l, 1) := by decide +kernel
theorem db_isKept_24 : decode kb_isKept 24 = .ok (.lcmp, 1) := by decide +kernel
theorem db_isKept_25 : decode kb_isKept 25 = .ok (.ifCond .ne 15, 3) := by decide +kernel
theorem db_isKept_28 : decode kb_isKept 28 = .ok (.aload_n 0, 1) := by decide +kernel
theorem db_isKept_29 : decode kb_isKept 29 = .ok (.iload_n 2, 1) := by decide +kernel
theorem db_isKept_30 : decode kb_isKept 30 = .ok (.invokevirtual 219, 3) := by decide +kernel
theorem db_isKept_33 : decode kb_isKept 33 = .ok (.ifCond .eq 7, 3) := by decide +kernel
theorem db_isKept_36 : decode kb_isKept 36 = .ok (.iconst 1, 1) := by decide +kernel
theorem db_isKept_37 : decode kb_isKept 37 = .ok (.goto 4, 3) := by decide +kernel
theorem db_isKept_40 : decode kb_isKept 40 = .ok (.iconst 0, 1) := by decide +kernel
theorem db_isKept_41 : decode kb_isKept 41 = .ok (.ireturn, 1) := by decide +kernel
