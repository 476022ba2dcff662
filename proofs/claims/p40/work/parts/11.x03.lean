theorem dX3_settle_0 : decode cX3_settle 0 = .ok (.iload_n 1, 1) := by decide +kernel
theorem dX3_settle_1 : decode cX3_settle 1 = .ok (.invokestatic 44, 3) := by decide +kernel
theorem dX3_settle_4 : decode cX3_settle 4 = .ok (.ifCond .ne 41, 3) := by decide +kernel
theorem dX3_settle_7 : decode cX3_settle 7 = .ok (.aload_n 0, 1) := by decide +kernel
theorem dX3_settle_8 : decode cX3_settle 8 = .ok (.aload_n 0, 1) := by decide +kernel
theorem dX3_settle_9 : decode cX3_settle 9 = .ok (.getfield 26, 3) := by decide +kernel
theorem dX3_settle_12 : decode cX3_settle 12 = .ok (.bipush 8, 2) := by decide +kernel
theorem dX3_settle_14 : decode cX3_settle 14 = .ok (.if_icmp .ge 12, 3) := by decide +kernel
theorem dX3_settle_17 : decode cX3_settle 17 = .ok (.aload_n 0, 1) := by decide +kernel
theorem dX3_settle_18 : decode cX3_settle 18 = .ok (.getfield 26, 3) := by decide +kernel
theorem dX3_settle_21 : decode cX3_settle 21 = .ok (.iconst 1, 1) := by decide +kernel
theorem dX3_settle_22 : decode cX3_settle 22 = .ok (.iadd, 1) := by decide +kernel
theorem dX3_settle_23 : decode cX3_settle 23 = .ok (.goto 4, 3) := by decide +kernel
theorem dX3_settle_26 : decode cX3_settle 26 = .ok (.iconst 0, 1) := by decide +kernel
theorem dX3_settle_27 : decode cX3_settle 27 = .ok (.putfield 26, 3) := by decide +kernel
theorem dX3_settle_30 : decode cX3_settle 30 = .ok (.aload_n 0, 1) := by decide +kernel
theorem dX3_settle_31 : decode cX3_settle 31 = .ok (.aload_n 0, 1) := by decide +kernel
theorem dX3_settle_32 : decode cX3_settle 32 = .ok (.getfield 30, 3) := by decide +kernel
theorem dX3_settle_35 : decode cX3_settle 35 = .ok (.iconst 1, 1) := by decide +kernel
theorem dX3_settle_36 : decode cX3_settle 36 = .ok (.iadd, 1) := by decide +kernel
theorem dX3_settle_37 : decode cX3_settle 37 = .ok (.bipush 8, 2) := by decide +kernel
theorem dX3_settle_39 : decode cX3_settle 39 = .ok (.invokestatic 48, 3) := by decide +kernel
theorem dX3_settle_42 : decode cX3_settle 42 = .ok (.putfield 30, 3) := by decide +kernel
theorem dX3_settle_45 : decode cX3_settle 45 = .ok (.iload_n 1, 1) := by decide +kernel
theorem dX3_settle_46 : decode cX3_settle 46 = .ok (.ireturn, 1) := by decide +kernel
theorem dX3_undoLatest_0 : decode cX3_undoLatest 0 = .ok (.aload_n 0, 1) := by decide +kernel
theorem dX3_undoLatest_1 : decode cX3_undoLatest 1 = .ok (.getfield 30, 3) := by decide +kernel
theorem dX3_undoLatest_4 : decode cX3_undoLatest 4 = .ok (.ifCond .ne 6, 3) := by decide +kernel
theorem dX3_undoLatest_7 : decode cX3_undoLatest 7 = .ok (.bipush (-15), 2) := by decide +kernel
theorem dX3_undoLatest_9 : decode cX3_undoLatest 9 = .ok (.ireturn, 1) := by decide +kernel
theorem dX3_undoLatest_10 : decode cX3_undoLatest 10 = .ok (.aload_n 0, 1) := by decide +kernel
theorem dX3_undoLatest_11 : decode cX3_undoLatest 11 = .ok (.aload_n 0, 1) := by decide +kernel
theorem dX3_undoLatest_12 : decode cX3_undoLatest 12 = .ok (.getfield 26, 3) := by decide +kernel
theorem dX3_undoLatest_15 : decode cX3_undoLatest 15 = .ok (.ifCond .le 12, 3) := by decide +kernel
theorem dX3_undoLatest_18 : decode cX3_undoLatest 18 = .ok (.aload_n 0, 1) := by decide +kernel
theorem dX3_undoLatest_19 : decode cX3_undoLatest 19 = .ok (.getfield 26, 3) := by decide +kernel
theorem dX3_undoLatest_22 : decode cX3_undoLatest 22 = .ok (.iconst 1, 1) := by decide +kernel
theorem dX3_undoLatest_23 : decode cX3_undoLatest 23 = .ok (.isub, 1) := by decide +kernel
theorem dX3_undoLatest_24 : decode cX3_undoLatest 24 = .ok (.goto 5, 3) := by decide +kernel
theorem dX3_undoLatest_27 : decode cX3_undoLatest 27 = .ok (.bipush 8, 2) := by decide +kernel
theorem dX3_undoLatest_29 : decode cX3_undoLatest 29 = .ok (.putfield 26, 3) := by decide +kernel
theorem dX3_undoLatest_32 : decode cX3_undoLatest 32 = .ok (.aload_n 0, 1) := by decide +kernel
theorem dX3_undoLatest_33 : decode cX3_undoLatest 33 = .ok (.invokevirtual 54, 3) := by decide +kernel
theorem dX3_undoLatest_36 : decode cX3_undoLatest 36 = .ok (.aload_n 0, 1) := by decide +kernel
theorem dX3_undoLatest_37 : decode cX3_undoLatest 37 = .ok (.dup, 1) := by decide +kernel
theorem dX3_undoLatest_38 : decode cX3_undoLatest 38 = .ok (.getfield 30, 3) := by decide +kernel
theorem dX3_undoLatest_41 : decode cX3_undoLatest 41 = .ok (.iconst 1, 1) := by decide +kernel
theorem dX3_undoLatest_42 : decode cX3_undoLatest 42 = .ok (.isub, 1) := by decide +kernel
theorem dX3_undoLatest_43 : decode cX3_undoLatest 43 = .ok (.putfield 30, 3) := by decide +kernel
theorem dX3_undoLatest_46 : decode cX3_undoLatest 46 = .ok (.aload_n 0, 1) := by decide +kernel
theorem dX3_undoLatest_47 : decode cX3_undoLatest 47 = .ok (.getfield 30, 3) := by decide +kernel
theorem dX3_undoLatest_50 : decode cX3_undoLatest 50 = .ok (.ireturn, 1) := by decide +kernel
theorem dX3_saveNow_0 : decode cX3_saveNow 0 = .ok (.aload_n 0, 1) := by decide +kernel
theorem dX3_saveNow_1 : decode cX3_saveNow 1 = .ok (.getfield 18, 3) := by decide +kernel
theorem dX3_saveNow_4 : decode cX3_saveNow 4 = .ok (.aload_n 0, 1) := by decide +kernel
theorem dX3_saveNow_5 : decode cX3_saveNow 5 = .ok (.getfield 33, 3) := by decide +kernel
theorem dX3_saveNow_8 : decode cX3_saveNow 8 = .ok (.invokevirtual 40, 3) := by decide +kernel
theorem dX3_saveNow_11 : decode cX3_saveNow 11 = .ok (.aload_n 0, 1) := by decide +kernel
theorem dX3_saveNow_12 : decode cX3_saveNow 12 = .ok (.iconst 1, 1) := by decide +kernel
theorem dX3_saveNow_13 : decode cX3_saveNow 13 = .ok (.putfield 22, 3) := by decide +kernel
theorem dX3_saveNow_16 : decode cX3_saveNow 16 = .ok (.aload_n 0, 1) := by decide +kernel
theorem dX3_saveNow_17 : decode cX3_saveNow 17 = .ok (.getfield 33, 3) := by decide +kernel
theorem dX3_saveNow_20 : decode cX3_saveNow 20 = .ok (.invokevirtual 57, 3) := by decide +kernel
theorem dX3_saveNow_23 : decode cX3_saveNow 23 = .ok (.ireturn, 1) := by decide +kernel
theorem dX3_restoreSaved_0 : decode cX3_restoreSaved 0 = .ok (.aload_n 0, 1) := by decide +kernel
theorem dX3_restoreSaved_1 : decode cX3_restoreSaved 1 = .ok (.getfield 22, 3) := by decide +kernel
theorem dX3_restoreSaved_4 : decode cX3_restoreSaved 4 = .ok (.ifCond .ne 6, 3) := by decide +kernel
theorem dX3_restoreSaved_7 : decode cX3_restoreSaved 7 = .ok (.bipush (-15), 2) := by decide +kernel
theorem dX3_restoreSaved_9 : decode cX3_restoreSaved 9 = .ok (.ireturn, 1) := by decide +kernel
theorem dX3_restoreSaved_10 : decode cX3_restoreSaved 10 = .ok (.aload_n 0, 1) := by decide +kernel
theorem dX3_restoreSaved_11 : decode cX3_restoreSaved 11 = .ok (.getfield 33, 3) := by decide +kernel
theorem dX3_restoreSaved_14 : decode cX3_restoreSaved 14 = .ok (.aload_n 0, 1) := by decide +kernel
theorem dX3_restoreSaved_15 : decode cX3_restoreSaved 15 = .ok (.getfield 18, 3) := by decide +kernel
theorem dX3_restoreSaved_18 : decode cX3_restoreSaved 18 = .ok (.invokevirtual 40, 3) := by decide +kernel
theorem dX3_restoreSaved_21 : decode cX3_restoreSaved 21 = .ok (.aload_n 0, 1) := by decide +kernel
theorem dX3_restoreSaved_22 : decode cX3_restoreSaved 22 = .ok (.iconst 0, 1) := by decide +kernel
theorem dX3_restoreSaved_23 : decode cX3_restoreSaved 23 = .ok (.putfield 30, 3) := by decide +kernel
theorem dX3_restoreSaved_26 : decode cX3_restoreSaved 26 = .ok (.aload_n 0, 1) := by decide +kernel
theorem dX3_restoreSaved_27 : decode cX3_restoreSaved 27 = .ok (.getfield 33, 3) := by decide +kernel
theorem dX3_restoreSaved_30 : decode cX3_restoreSaved 30 = .ok (.invokevirtual 57, 3) := by decide +kernel
theorem dX3_restoreSaved_33 : decode cX3_restoreSaved 33 = .ok (.ireturn, 1) := by decide +kernel
theorem dX6_has_0 : decode cX6_has 0 = .ok (.iload_n 1, 1) := by decide +kernel
theorem dX6_has_1 : decode cX6_has 1 = .ok (.ifCond .lt 33, 3) := by decide +kernel
theorem dX6_has_4 : decode cX6_has 4 = .ok (.iload_n 1, 1) := by decide +kernel
theorem dX6_has_5 : decode cX6_has 5 = .ok (.aload_n 0, 1) := by decide +kernel
theorem dX6_has_6 : decode cX6_has 6 = .ok (.getfield 34, 3) := by decide +kernel
theorem dX6_has_9 : decode cX6_has 9 = .ok (.if_icmp .ge 25, 3) := by decide +kernel
theorem dX6_has_12 : decode cX6_has 12 = .ok (.iload_n 1, 1) := by decide +kernel
theorem dX6_has_13 : decode cX6_has 13 = .ok (.aload_n 0, 1) := by decide +kernel
theorem dX6_has_14 : decode cX6_has 14 = .ok (.getfield 20, 3) := by decide +kernel
theorem dX6_has_17 : decode cX6_has 17 = .ok (.arraylength, 1) := by decide +kernel
theorem dX6_has_18 : decode cX6_has 18 = .ok (.if_icmp .ge 16, 3) := by decide +kernel
theorem dX6_has_21 : decode cX6_has 21 = .ok (.aload_n 0, 1) := by decide +kernel
theorem dX6_has_22 : decode cX6_has 22 = .ok (.getfield 20, 3) := by decide +kernel
theorem dX6_has_25 : decode cX6_has 25 = .ok (.iload_n 1, 1) := by decide +kernel
theorem dX6_has_26 : decode cX6_has 26 = .ok (.aaload, 1) := by decide +kernel
theorem dX6_has_27 : decode cX6_has 27 = .ok (.ifnull 7, 3) := by decide +kernel
theorem dX6_has_30 : decode cX6_has 30 = .ok (.iconst 1, 1) := by decide +kernel
theorem dX6_has_31 : decode cX6_has 31 = .ok (.goto 4, 3) := by decide +kernel
theorem dX6_has_34 : decode cX6_has 34 = .ok (.iconst 0, 1) := by decide +kernel
theorem dX6_has_35 : decode cX6_has 35 = .ok (.ireturn, 1) := by decide +kernel
theorem dX6_keep_0 : decode cX6_keep 0 = .ok (.aload_n 0, 1) := by decide +kernel
theorem dX6_keep_1 : decode cX6_keep 1 = .ok (.getfield 34, 3) := by decide +kernel
theorem dX6_keep_4 : decode cX6_keep 4 = .ok (.aload_n 0, 1) := by decide +kernel
theorem dX6_keep_5 : decode cX6_keep 5 = .ok (.getfield 20, 3) := by decide +kernel
theorem dX6_keep_8 : decode cX6_keep 8 = .ok (.arraylength, 1) := by decide +kernel
theorem dX6_keep_9 : decode cX6_keep 9 = .ok (.if_icmp .ge 68, 3) := by decide +kernel
theorem dX6_keep_12 : decode cX6_keep 12 = .ok (.aload_n 0, 1) := by decide +kernel
theorem dX6_keep_13 : decode cX6_keep 13 = .ok (.getfield 20, 3) := by decide +kernel
theorem dX6_keep_16 : decode cX6_keep 16 = .ok (.aload_n 0, 1) := by decide +kernel
theorem dX6_keep_17 : decode cX6_keep 17 = .ok (.getfield 34, 3) := by decide +kernel
theorem dX6_keep_20 : decode cX6_keep 20 = .ok (.aload_n 1, 1) := by decide +kernel
theorem dX6_keep_21 : decode cX6_keep 21 = .ok (.aastore, 1) := by decide +kernel
theorem dX6_keep_22 : decode cX6_keep 22 = .ok (.aload_n 0, 1) := by decide +kernel
theorem dX6_keep_23 : decode cX6_keep 23 = .ok (.getfield 24, 3) := by decide +kernel
theorem dX6_keep_26 : decode cX6_keep 26 = .ok (.aload_n 0, 1) := by decide +kernel
theorem dX6_keep_27 : decode cX6_keep 27 = .ok (.getfield 34, 3) := by decide +kernel
theorem dX6_keep_30 : decode cX6_keep 30 = .ok (.aload_n 0, 1) := by decide +kernel
theorem dX6_keep_31 : decode cX6_keep 31 = .ok (.getfield 38, 3) := by decide +kernel
theorem dX6_keep_34 : decode cX6_keep 34 = .ok (.iconst 0, 1) := by decide +kernel
theorem dX6_keep_35 : decode cX6_keep 35 = .ok (.iaload, 1) := by decide +kernel
theorem dX6_keep_36 : decode cX6_keep 36 = .ok (.iastore, 1) := by decide +kernel
theorem dX6_keep_37 : decode cX6_keep 37 = .ok (.aload_n 0, 1) := by decide +kernel
theorem dX6_keep_38 : decode cX6_keep 38 = .ok (.getfield 28, 3) := by decide +kernel
theorem dX6_keep_41 : decode cX6_keep 41 = .ok (.aload_n 0, 1) := by decide +kernel
theorem dX6_keep_42 : decode cX6_keep 42 = .ok (.getfield 34, 3) := by decide +kernel
theorem dX6_keep_45 : decode cX6_keep 45 = .ok (.aload_n 0, 1) := by decide +kernel
theorem dX6_keep_46 : decode cX6_keep 46 = .ok (.getfield 38, 3) := by decide +kernel
theorem dX6_keep_49 : decode cX6_keep 49 = .ok (.iconst 1, 1) := by decide +kernel
theorem dX6_keep_50 : decode cX6_keep 50 = .ok (.iaload, 1) := by decide +kernel
theorem dX6_keep_51 : decode cX6_keep 51 = .ok (.iastore, 1) := by decide +kernel
theorem dX6_keep_52 : decode cX6_keep 52 = .ok (.aload_n 0, 1) := by decide +kernel
theorem dX6_keep_53 : decode cX6_keep 53 = .ok (.getfield 31, 3) := by decide +kernel
theorem dX6_keep_56 : decode cX6_keep 56 = .ok (.aload_n 0, 1) := by decide +kernel
theorem dX6_keep_57 : decode cX6_keep 57 = .ok (.getfield 34, 3) := by decide +kernel
theorem dX6_keep_60 : decode cX6_keep 60 = .ok (.aload_n 0, 1) := by decide +kernel
theorem dX6_keep_61 : decode cX6_keep 61 = .ok (.getfield 38, 3) := by decide +kernel
theorem dX6_keep_64 : decode cX6_keep 64 = .ok (.iconst 2, 1) := by decide +kernel
theorem dX6_keep_65 : decode cX6_keep 65 = .ok (.iaload, 1) := by decide +kernel
theorem dX6_keep_66 : decode cX6_keep 66 = .ok (.iastore, 1) := by decide +kernel
theorem dX6_keep_67 : decode cX6_keep 67 = .ok (.aload_n 0, 1) := by decide +kernel
theorem dX6_keep_68 : decode cX6_keep 68 = .ok (.dup, 1) := by decide +kernel
theorem dX6_keep_69 : decode cX6_keep 69 = .ok (.getfield 34, 3) := by decide +kernel
theorem dX6_keep_72 : decode cX6_keep 72 = .ok (.iconst 1, 1) := by decide +kernel
theorem dX6_keep_73 : decode cX6_keep 73 = .ok (.iadd, 1) := by decide +kernel
theorem dX6_keep_74 : decode cX6_keep 74 = .ok (.putfield 34, 3) := by decide +kernel
theorem dX6_keep_77 : decode cX6_keep 77 = .ok (.return_, 1) := by decide +kernel
theorem dX6_isForNumber_0 : decode cX6_isForNumber 0 = .ok (.iload_n 0, 1) := by decide +kernel
theorem dX6_isForNumber_1 : decode cX6_isForNumber 1 = .ok (.bipush 35, 2) := by decide +kernel
theorem dX6_isForNumber_3 : decode cX6_isForNumber 3 = .ok (.if_icmp .eq 15, 3) := by decide +kernel
theorem dX6_isForNumber_6 : decode cX6_isForNumber 6 = .ok (.iload_n 0, 1) := by decide +kernel
theorem dX6_isForNumber_7 : decode cX6_isForNumber 7 = .ok (.bipush 36, 2) := by decide +kernel
theorem dX6_isForNumber_9 : decode cX6_isForNumber 9 = .ok (.if_icmp .eq 9, 3) := by decide +kernel
theorem dX6_isForNumber_12 : decode cX6_isForNumber 12 = .ok (.iload_n 0, 1) := by decide +kernel
theorem dX6_isForNumber_13 : decode cX6_isForNumber 13 = .ok (.bipush 64, 2) := by decide +kernel
theorem dX6_isForNumber_15 : decode cX6_isForNumber 15 = .ok (.if_icmp .ne 7, 3) := by decide +kernel
theorem dX6_isForNumber_18 : decode cX6_isForNumber 18 = .ok (.iconst 1, 1) := by decide +kernel
theorem dX6_isForNumber_19 : decode cX6_isForNumber 19 = .ok (.goto 4, 3) := by decide +kernel
theorem dX6_isForNumber_22 : decode cX6_isForNumber 22 = .ok (.iconst 0, 1) := by decide +kernel
theorem dX6_isForNumber_23 : decode cX6_isForNumber 23 = .ok (.ireturn, 1) := by decide +kernel
theorem dX7_bit_0 : decode cX7_bit 0 = .ok (.iload_n 0, 1) := by decide +kernel
theorem dX7_bit_1 : decode cX7_bit 1 = .ok (.invokestatic 83, 3) := by decide +kernel
theorem dX7_bit_4 : decode cX7_bit 4 = .ok (.ifCond .eq 9, 3) := by decide +kernel
theorem dX7_bit_7 : decode cX7_bit 7 = .ok (.iconst 1, 1) := by decide +kernel
theorem dX7_bit_8 : decode cX7_bit 8 = .ok (.iload_n 0, 1) := by decide +kernel
theorem dX7_bit_9 : decode cX7_bit 9 = .ok (.ishl, 1) := by decide +kernel
theorem dX7_bit_10 : decode cX7_bit 10 = .ok (.goto 4, 3) := by decide +kernel
theorem dX7_bit_13 : decode cX7_bit 13 = .ok (.iconst 0, 1) := by decide +kernel
theorem dX7_bit_14 : decode cX7_bit 14 = .ok (.ireturn, 1) := by decide +kernel
theorem dX7_rootsByRite_0 : decode cX7_rootsByRite 0 = .ok (.iconst 0, 1) := by decide +kernel
theorem dX7_rootsByRite_1 : decode cX7_rootsByRite 1 = .ok (.istore_n 2, 1) := by decide +kernel
theorem dX7_rootsByRite_2 : decode cX7_rootsByRite 2 = .ok (.iconst 0, 1) := by decide +kernel
theorem dX7_rootsByRite_3 : decode cX7_rootsByRite 3 = .ok (.istore_n 3, 1) := by decide +kernel
theorem dX7_rootsByRite_4 : decode cX7_rootsByRite 4 = .ok (.iload_n 3, 1) := by decide +kernel
theorem dX7_rootsByRite_5 : decode cX7_rootsByRite 5 = .ok (.bipush 24, 2) := by decide +kernel
theorem dX7_rootsByRite_7 : decode cX7_rootsByRite 7 = .ok (.if_icmp .ge 40, 3) := by decide +kernel
theorem dX7_rootsByRite_10 : decode cX7_rootsByRite 10 = .ok (.aload_n 0, 1) := by decide +kernel
theorem dX7_rootsByRite_11 : decode cX7_rootsByRite 11 = .ok (.getfield 15, 3) := by decide +kernel
theorem dX7_rootsByRite_14 : decode cX7_rootsByRite 14 = .ok (.iload_n 3, 1) := by decide +kernel
theorem dX7_rootsByRite_15 : decode cX7_rootsByRite 15 = .ok (.invokevirtual 58, 3) := by decide +kernel
theorem dX7_rootsByRite_18 : decode cX7_rootsByRite 18 = .ok (.ifCond .eq 23, 3) := by decide +kernel
theorem dX7_rootsByRite_21 : decode cX7_rootsByRite 21 = .ok (.aload_n 0, 1) := by decide +kernel
theorem dX7_rootsByRite_22 : decode cX7_rootsByRite 22 = .ok (.getfield 15, 3) := by decide +kernel
theorem dX7_rootsByRite_25 : decode cX7_rootsByRite 25 = .ok (.getfield 74, 3) := by decide +kernel
theorem dX7_rootsByRite_28 : decode cX7_rootsByRite 28 = .ok (.iload_n 3, 1) := by decide +kernel
theorem dX7_rootsByRite_29 : decode cX7_rootsByRite 29 = .ok (.iaload, 1) := by decide +kernel
theorem dX7_rootsByRite_30 : decode cX7_rootsByRite 30 = .ok (.iload_n 1, 1) := by decide +kernel
theorem dX7_rootsByRite_31 : decode cX7_rootsByRite 31 = .ok (.if_icmp .ne 10, 3) := by decide +kernel
theorem dX7_rootsByRite_34 : decode cX7_rootsByRite 34 = .ok (.iload_n 2, 1) := by decide +kernel
theorem dX7_rootsByRite_35 : decode cX7_rootsByRite 35 = .ok (.iload_n 3, 1) := by decide +kernel
theorem dX7_rootsByRite_36 : decode cX7_rootsByRite 36 = .ok (.invokestatic 34, 3) := by decide +kernel
theorem dX7_rootsByRite_39 : decode cX7_rootsByRite 39 = .ok (.ior, 1) := by decide +kernel
theorem dX7_rootsByRite_40 : decode cX7_rootsByRite 40 = .ok (.istore_n 2, 1) := by decide +kernel
theorem dX7_rootsByRite_41 : decode cX7_rootsByRite 41 = .ok (.iinc 3 1, 3) := by decide +kernel
theorem dX7_rootsByRite_44 : decode cX7_rootsByRite 44 = .ok (.goto (-40), 3) := by decide +kernel
theorem dX7_rootsByRite_47 : decode cX7_rootsByRite 47 = .ok (.iload_n 2, 1) := by decide +kernel
theorem dX7_rootsByRite_48 : decode cX7_rootsByRite 48 = .ok (.ireturn, 1) := by decide +kernel
theorem dX7_roots_0 : decode cX7_roots 0 = .ok (.aload_n 0, 1) := by decide +kernel
theorem dX7_roots_1 : decode cX7_roots 1 = .ok (.iconst 2, 1) := by decide +kernel
theorem dX7_roots_2 : decode cX7_roots 2 = .ok (.invokevirtual 26, 3) := by decide +kernel
theorem dX7_roots_5 : decode cX7_roots 5 = .ok (.istore_n 2, 1) := by decide +kernel
theorem dX7_roots_6 : decode cX7_roots 6 = .ok (.iconst 0, 1) := by decide +kernel
theorem dX7_roots_7 : decode cX7_roots 7 = .ok (.istore_n 3, 1) := by decide +kernel
theorem dX7_roots_8 : decode cX7_roots 8 = .ok (.iload_n 3, 1) := by decide +kernel
theorem dX7_roots_9 : decode cX7_roots 9 = .ok (.bipush 6, 2) := by decide +kernel
theorem dX7_roots_11 : decode cX7_roots 11 = .ok (.if_icmp .ge 29, 3) := by decide +kernel
theorem dX7_roots_14 : decode cX7_roots 14 = .ok (.iload_n 3, 1) := by decide +kernel
theorem dX7_roots_15 : decode cX7_roots 15 = .ok (.iload_n 1, 1) := by decide +kernel
theorem dX7_roots_16 : decode cX7_roots 16 = .ok (.if_icmp .eq 18, 3) := by decide +kernel
theorem dX7_roots_19 : decode cX7_roots 19 = .ok (.iload_n 2, 1) := by decide +kernel
theorem dX7_roots_20 : decode cX7_roots 20 = .ok (.aload_n 0, 1) := by decide +kernel
theorem dX7_roots_21 : decode cX7_roots 21 = .ok (.getfield 15, 3) := by decide +kernel
theorem dX7_roots_24 : decode cX7_roots 24 = .ok (.getfield 29, 3) := by decide +kernel
theorem dX7_roots_27 : decode cX7_roots 27 = .ok (.iload_n 3, 1) := by decide +kernel
theorem dX7_roots_28 : decode cX7_roots 28 = .ok (.iaload, 1) := by decide +kernel
theorem dX7_roots_29 : decode cX7_roots 29 = .ok (.invokestatic 34, 3) := by decide +kernel
theorem dX7_roots_32 : decode cX7_roots 32 = .ok (.ior, 1) := by decide +kernel
theorem dX7_roots_33 : decode cX7_roots 33 = .ok (.istore_n 2, 1) := by decide +kernel
theorem dX7_roots_34 : decode cX7_roots 34 = .ok (.iinc 3 1, 3) := by decide +kernel
theorem dX7_roots_37 : decode cX7_roots 37 = .ok (.goto (-29), 3) := by decide +kernel
theorem dX7_roots_40 : decode cX7_roots 40 = .ok (.iload_n 2, 1) := by decide +kernel
theorem dX7_roots_41 : decode cX7_roots 41 = .ok (.ireturn, 1) := by decide +kernel
theorem dX7_isIn_0 : decode cX7_isIn 0 = .ok (.iload_n 0, 1) := by decide +kernel
theorem dX7_isIn_1 : decode cX7_isIn 1 = .ok (.iload_n 1, 1) := by decide +kernel
theorem dX7_isIn_2 : decode cX7_isIn 2 = .ok (.invokestatic 34, 3) := by decide +kernel
theorem dX7_isIn_5 : decode cX7_isIn 5 = .ok (.iand, 1) := by decide +kernel
theorem dX7_isIn_6 : decode cX7_isIn 6 = .ok (.ifCond .eq 7, 3) := by decide +kernel
theorem dX7_isIn_9 : decode cX7_isIn 9 = .ok (.iconst 1, 1) := by decide +kernel
theorem dX7_isIn_10 : decode cX7_isIn 10 = .ok (.goto 4, 3) := by decide +kernel
theorem dX7_isIn_13 : decode cX7_isIn 13 = .ok (.iconst 0, 1) := by decide +kernel
theorem dX7_isIn_14 : decode cX7_isIn 14 = .ok (.ireturn, 1) := by decide +kernel
theorem dX7_targets_0 : decode cX7_targets 0 = .ok (.iconst 0, 1) := by decide +kernel
theorem dX7_targets_1 : decode cX7_targets 1 = .ok (.istore_n 2, 1) := by decide +kernel
theorem dX7_targets_2 : decode cX7_targets 2 = .ok (.iconst 0, 1) := by decide +kernel
theorem dX7_targets_3 : decode cX7_targets 3 = .ok (.istore_n 3, 1) := by decide +kernel
theorem dX7_targets_4 : decode cX7_targets 4 = .ok (.iload_n 3, 1) := by decide +kernel
theorem dX7_targets_5 : decode cX7_targets 5 = .ok (.iconst 4, 1) := by decide +kernel
theorem dX7_targets_6 : decode cX7_targets 6 = .ok (.if_icmp .ge 24, 3) := by decide +kernel
theorem dX7_targets_9 : decode cX7_targets 9 = .ok (.iload_n 2, 1) := by decide +kernel
theorem dX7_targets_10 : decode cX7_targets 10 = .ok (.aload_n 0, 1) := by decide +kernel
theorem dX7_targets_11 : decode cX7_targets 11 = .ok (.getfield 15, 3) := by decide +kernel
theorem dX7_targets_14 : decode cX7_targets 14 = .ok (.iload_n 1, 1) := by decide +kernel
theorem dX7_targets_15 : decode cX7_targets 15 = .ok (.iload_n 3, 1) := by decide +kernel
theorem dX7_targets_16 : decode cX7_targets 16 = .ok (.invokevirtual 77, 3) := by decide +kernel
theorem dX7_targets_19 : decode cX7_targets 19 = .ok (.invokestatic 34, 3) := by decide +kernel
theorem dX7_targets_22 : decode cX7_targets 22 = .ok (.ior, 1) := by decide +kernel
theorem dX7_targets_23 : decode cX7_targets 23 = .ok (.istore_n 2, 1) := by decide +kernel
theorem dX7_targets_24 : decode cX7_targets 24 = .ok (.iinc 3 1, 3) := by decide +kernel
theorem dX7_targets_27 : decode cX7_targets 27 = .ok (.goto (-23), 3) := by decide +kernel
theorem dX7_targets_30 : decode cX7_targets 30 = .ok (.iload_n 2, 1) := by decide +kernel
theorem dX7_targets_31 : decode cX7_targets 31 = .ok (.ireturn, 1) := by decide +kernel
theorem dX7_targetsOfAll_0 : decode cX7_targetsOfAll 0 = .ok (.iconst 0, 1) := by decide +kernel
theorem dX7_targetsOfAll_1 : decode cX7_targetsOfAll 1 = .ok (.istore_n 2, 1) := by decide +kernel
theorem dX7_targetsOfAll_2 : decode cX7_targetsOfAll 2 = .ok (.iconst 0, 1) := by decide +kernel
theorem dX7_targetsOfAll_3 : decode cX7_targetsOfAll 3 = .ok (.istore_n 3, 1) := by decide +kernel
theorem dX7_targetsOfAll_4 : decode cX7_targetsOfAll 4 = .ok (.iload_n 3, 1) := by decide +kernel
theorem dX7_targetsOfAll_5 : decode cX7_targetsOfAll 5 = .ok (.bipush 24, 2) := by decide +kernel
theorem dX7_targetsOfAll_7 : decode cX7_targetsOfAll 7 = .ok (.if_icmp .ge 25, 3) := by decide +kernel
theorem dX7_targetsOfAll_10 : decode cX7_targetsOfAll 10 = .ok (.iload_n 1, 1) := by decide +kernel
theorem dX7_targetsOfAll_11 : decode cX7_targetsOfAll 11 = .ok (.iload_n 3, 1) := by decide +kernel
theorem dX7_targetsOfAll_12 : decode cX7_targetsOfAll 12 = .ok (.invokestatic 37, 3) := by decide +kernel
theorem dX7_targetsOfAll_15 : decode cX7_targetsOfAll 15 = .ok (.ifCond .eq 11, 3) := by decide +kernel
theorem dX7_targetsOfAll_18 : decode cX7_targetsOfAll 18 = .ok (.iload_n 2, 1) := by decide +kernel
theorem dX7_targetsOfAll_19 : decode cX7_targetsOfAll 19 = .ok (.aload_n 0, 1) := by decide +kernel
theorem dX7_targetsOfAll_20 : decode cX7_targetsOfAll 20 = .ok (.iload_n 3, 1) := by decide +kernel
theorem dX7_targetsOfAll_21 : decode cX7_targetsOfAll 21 = .ok (.invokevirtual 51, 3) := by decide +kernel
theorem dX7_targetsOfAll_24 : decode cX7_targetsOfAll 24 = .ok (.ior, 1) := by decide +kernel
theorem dX7_targetsOfAll_25 : decode cX7_targetsOfAll 25 = .ok (.istore_n 2, 1) := by decide +kernel
theorem dX7_targetsOfAll_26 : decode cX7_targetsOfAll 26 = .ok (.iinc 3 1, 3) := by decide +kernel
theorem dX7_targetsOfAll_29 : decode cX7_targetsOfAll 29 = .ok (.goto (-25), 3) := by decide +kernel
theorem dX7_targetsOfAll_32 : decode cX7_targetsOfAll 32 = .ok (.iload_n 2, 1) := by decide +kernel
theorem dX7_targetsOfAll_33 : decode cX7_targetsOfAll 33 = .ok (.ireturn, 1) := by decide +kernel
theorem dX7_reachFrom_0 : decode cX7_reachFrom 0 = .ok (.iload_n 1, 1) := by decide +kernel
theorem dX7_reachFrom_1 : decode cX7_reachFrom 1 = .ok (.istore_n 2, 1) := by decide +kernel
theorem dX7_reachFrom_2 : decode cX7_reachFrom 2 = .ok (.iload_n 1, 1) := by decide +kernel
theorem dX7_reachFrom_3 : decode cX7_reachFrom 3 = .ok (.istore_n 3, 1) := by decide +kernel
theorem dX7_reachFrom_4 : decode cX7_reachFrom 4 = .ok (.iconst 0, 1) := by decide +kernel
theorem dX7_reachFrom_5 : decode cX7_reachFrom 5 = .ok (.istore 4, 2) := by decide +kernel
theorem dX7_reachFrom_7 : decode cX7_reachFrom 7 = .ok (.iload 4, 2) := by decide +kernel
theorem dX7_reachFrom_9 : decode cX7_reachFrom 9 = .ok (.bipush 24, 2) := by decide +kernel
theorem dX7_reachFrom_11 : decode cX7_reachFrom 11 = .ok (.if_icmp .ge 27, 3) := by decide +kernel
theorem dX7_reachFrom_14 : decode cX7_reachFrom 14 = .ok (.iload_n 3, 1) := by decide +kernel
theorem dX7_reachFrom_15 : decode cX7_reachFrom 15 = .ok (.ifCond .eq 23, 3) := by decide +kernel
theorem dX7_reachFrom_18 : decode cX7_reachFrom 18 = .ok (.aload_n 0, 1) := by decide +kernel
theorem dX7_reachFrom_19 : decode cX7_reachFrom 19 = .ok (.iload_n 3, 1) := by decide +kernel
theorem dX7_reachFrom_20 : decode cX7_reachFrom 20 = .ok (.invokevirtual 44, 3) := by decide +kernel
theorem dX7_reachFrom_23 : decode cX7_reachFrom 23 = .ok (.iload_n 2, 1) := by decide +kernel
theorem dX7_reachFrom_24 : decode cX7_reachFrom 24 = .ok (.iconst (-1), 1) := by decide +kernel
theorem dX7_reachFrom_25 : decode cX7_reachFrom 25 = .ok (.ixor, 1) := by decide +kernel
theorem dX7_reachFrom_26 : decode cX7_reachFrom 26 = .ok (.iand, 1) := by decide +kernel
theorem dX7_reachFrom_27 : decode cX7_reachFrom 27 = .ok (.istore_n 3, 1) := by decide +kernel
theorem dX7_reachFrom_28 : decode cX7_reachFrom 28 = .ok (.iload_n 2, 1) := by decide +kernel
theorem dX7_reachFrom_29 : decode cX7_reachFrom 29 = .ok (.iload_n 3, 1) := by decide +kernel
theorem dX7_reachFrom_30 : decode cX7_reachFrom 30 = .ok (.ior, 1) := by decide +kernel
theorem dX7_reachFrom_31 : decode cX7_reachFrom 31 = .ok (.istore_n 2, 1) := by decide +kernel
theorem dX7_reachFrom_32 : decode cX7_reachFrom 32 = .ok (.iinc 4 1, 3) := by decide +kernel
theorem dX7_reachFrom_35 : decode cX7_reachFrom 35 = .ok (.goto (-28), 3) := by decide +kernel
theorem dX7_reachFrom_38 : decode cX7_reachFrom 38 = .ok (.iload_n 2, 1) := by decide +kernel
theorem dX7_reachFrom_39 : decode cX7_reachFrom 39 = .ok (.ireturn, 1) := by decide +kernel
theorem dX7_reach_0 : decode cX7_reach 0 = .ok (.aload_n 0, 1) := by decide +kernel
theorem dX7_reach_1 : decode cX7_reach 1 = .ok (.aload_n 0, 1) := by decide +kernel
theorem dX7_reach_2 : decode cX7_reach 2 = .ok (.bipush (-15), 2) := by decide +kernel
theorem dX7_reach_4 : decode cX7_reach 4 = .ok (.invokevirtual 19, 3) := by decide +kernel
theorem dX7_reach_7 : decode cX7_reach 7 = .ok (.invokevirtual 23, 3) := by decide +kernel
theorem dX7_reach_10 : decode cX7_reach 10 = .ok (.ireturn, 1) := by decide +kernel
theorem dX7_isHeldBySome_0 : decode cX7_isHeldBySome 0 = .ok (.iconst 0, 1) := by decide +kernel
theorem dX7_isHeldBySome_1 : decode cX7_isHeldBySome 1 = .ok (.istore_n 3, 1) := by decide +kernel
theorem dX7_isHeldBySome_2 : decode cX7_isHeldBySome 2 = .ok (.iload_n 3, 1) := by decide +kernel
theorem dX7_isHeldBySome_3 : decode cX7_isHeldBySome 3 = .ok (.aload_n 0, 1) := by decide +kernel
theorem dX7_isHeldBySome_4 : decode cX7_isHeldBySome 4 = .ok (.getfield 15, 3) := by decide +kernel
theorem dX7_isHeldBySome_7 : decode cX7_isHeldBySome 7 = .ok (.getfield 80, 3) := by decide +kernel
theorem dX7_isHeldBySome_10 : decode cX7_isHeldBySome 10 = .ok (.arraylength, 1) := by decide +kernel
theorem dX7_isHeldBySome_11 : decode cX7_isHeldBySome 11 = .ok (.if_icmp .ge 34, 3) := by decide +kernel
theorem dX7_isHeldBySome_14 : decode cX7_isHeldBySome 14 = .ok (.aload_n 0, 1) := by decide +kernel
theorem dX7_isHeldBySome_15 : decode cX7_isHeldBySome 15 = .ok (.getfield 15, 3) := by decide +kernel
theorem dX7_isHeldBySome_18 : decode cX7_isHeldBySome 18 = .ok (.getfield 80, 3) := by decide +kernel
theorem dX7_isHeldBySome_21 : decode cX7_isHeldBySome 21 = .ok (.iload_n 3, 1) := by decide +kernel
theorem dX7_isHeldBySome_22 : decode cX7_isHeldBySome 22 = .ok (.iaload, 1) := by decide +kernel
theorem dX7_isHeldBySome_23 : decode cX7_isHeldBySome 23 = .ok (.iload_n 2, 1) := by decide +kernel
theorem dX7_isHeldBySome_24 : decode cX7_isHeldBySome 24 = .ok (.if_icmp .ne 15, 3) := by decide +kernel
theorem dX7_isHeldBySome_27 : decode cX7_isHeldBySome 27 = .ok (.iload_n 1, 1) := by decide +kernel
theorem dX7_isHeldBySome_28 : decode cX7_isHeldBySome 28 = .ok (.iload_n 3, 1) := by decide +kernel
theorem dX7_isHeldBySome_29 : decode cX7_isHeldBySome 29 = .ok (.iconst 4, 1) := by decide +kernel
theorem dX7_isHeldBySome_30 : decode cX7_isHeldBySome 30 = .ok (.idiv, 1) := by decide +kernel
theorem dX7_isHeldBySome_31 : decode cX7_isHeldBySome 31 = .ok (.invokestatic 37, 3) := by decide +kernel
theorem dX7_isHeldBySome_34 : decode cX7_isHeldBySome 34 = .ok (.ifCond .eq 5, 3) := by decide +kernel
theorem dX7_isHeldBySome_37 : decode cX7_isHeldBySome 37 = .ok (.iconst 1, 1) := by decide +kernel
theorem dX7_isHeldBySome_38 : decode cX7_isHeldBySome 38 = .ok (.ireturn, 1) := by decide +kernel
theorem dX7_isHeldBySome_39 : decode cX7_isHeldBySome 39 = .ok (.iinc 3 1, 3) := by decide +kernel
theorem dX7_isHeldBySome_42 : decode cX7_isHeldBySome 42 = .ok (.goto (-40), 3) := by decide +kernel
theorem dX7_isHeldBySome_45 : decode cX7_isHeldBySome 45 = .ok (.iconst 0, 1) := by decide +kernel
theorem dX7_isHeldBySome_46 : decode cX7_isHeldBySome 46 = .ok (.ireturn, 1) := by decide +kernel
theorem dX7_reachUrnByUrn_0 : decode cX7_reachUrnByUrn 0 = .ok (.aload_n 0, 1) := by decide +kernel
theorem dX7_reachUrnByUrn_1 : decode cX7_reachUrnByUrn 1 = .ok (.bipush (-15), 2) := by decide +kernel
theorem dX7_reachUrnByUrn_3 : decode cX7_reachUrnByUrn 3 = .ok (.invokevirtual 19, 3) := by decide +kernel
theorem dX7_reachUrnByUrn_6 : decode cX7_reachUrnByUrn 6 = .ok (.istore_n 1, 1) := by decide +kernel
theorem dX7_reachUrnByUrn_7 : decode cX7_reachUrnByUrn 7 = .ok (.iconst 1, 1) := by decide +kernel
theorem dX7_reachUrnByUrn_8 : decode cX7_reachUrnByUrn 8 = .ok (.istore_n 2, 1) := by decide +kernel
theorem dX7_reachUrnByUrn_9 : decode cX7_reachUrnByUrn 9 = .ok (.iconst 0, 1) := by decide +kernel
theorem dX7_reachUrnByUrn_10 : decode cX7_reachUrnByUrn 10 = .ok (.istore_n 3, 1) := by decide +kernel
theorem dX7_reachUrnByUrn_11 : decode cX7_reachUrnByUrn 11 = .ok (.iload_n 3, 1) := by decide +kernel
theorem dX7_reachUrnByUrn_12 : decode cX7_reachUrnByUrn 12 = .ok (.bipush 24, 2) := by decide +kernel
theorem dX7_reachUrnByUrn_14 : decode cX7_reachUrnByUrn 14 = .ok (.if_icmp .gt 60, 3) := by decide +kernel
theorem dX7_reachUrnByUrn_17 : decode cX7_reachUrnByUrn 17 = .ok (.iload_n 2, 1) := by decide +kernel
theorem dX7_reachUrnByUrn_18 : decode cX7_reachUrnByUrn 18 = .ok (.ifCond .eq 56, 3) := by decide +kernel
theorem dX7_reachUrnByUrn_21 : decode cX7_reachUrnByUrn 21 = .ok (.iconst 0, 1) := by decide +kernel
theorem dX7_reachUrnByUrn_22 : decode cX7_reachUrnByUrn 22 = .ok (.istore_n 2, 1) := by decide +kernel
theorem dX7_reachUrnByUrn_23 : decode cX7_reachUrnByUrn 23 = .ok (.iconst 0, 1) := by decide +kernel
theorem dX7_reachUrnByUrn_24 : decode cX7_reachUrnByUrn 24 = .ok (.istore 4, 2) := by decide +kernel
theorem dX7_reachUrnByUrn_26 : decode cX7_reachUrnByUrn 26 = .ok (.iload 4, 2) := by decide +kernel
theorem dX7_reachUrnByUrn_28 : decode cX7_reachUrnByUrn 28 = .ok (.bipush 24, 2) := by decide +kernel
theorem dX7_reachUrnByUrn_30 : decode cX7_reachUrnByUrn 30 = .ok (.if_icmp .ge 38, 3) := by decide +kernel
theorem dX7_reachUrnByUrn_33 : decode cX7_reachUrnByUrn 33 = .ok (.iload_n 1, 1) := by decide +kernel
theorem dX7_reachUrnByUrn_34 : decode cX7_reachUrnByUrn 34 = .ok (.iload 4, 2) := by decide +kernel
theorem dX7_reachUrnByUrn_36 : decode cX7_reachUrnByUrn 36 = .ok (.invokestatic 37, 3) := by decide +kernel
theorem dX7_reachUrnByUrn_39 : decode cX7_reachUrnByUrn 39 = .ok (.ifCond .ne 23, 3) := by decide +kernel
theorem dX7_reachUrnByUrn_42 : decode cX7_reachUrnByUrn 42 = .ok (.aload_n 0, 1) := by decide +kernel
theorem dX7_reachUrnByUrn_43 : decode cX7_reachUrnByUrn 43 = .ok (.iload_n 1, 1) := by decide +kernel
theorem dX7_reachUrnByUrn_44 : decode cX7_reachUrnByUrn 44 = .ok (.iload 4, 2) := by decide +kernel
theorem dX7_reachUrnByUrn_46 : decode cX7_reachUrnByUrn 46 = .ok (.invokevirtual 41, 3) := by decide +kernel
theorem dX7_reachUrnByUrn_49 : decode cX7_reachUrnByUrn 49 = .ok (.ifCond .eq 13, 3) := by decide +kernel
theorem dX7_reachUrnByUrn_52 : decode cX7_reachUrnByUrn 52 = .ok (.iload_n 1, 1) := by decide +kernel
theorem dX7_reachUrnByUrn_53 : decode cX7_reachUrnByUrn 53 = .ok (.iload 4, 2) := by decide +kernel
theorem dX7_reachUrnByUrn_55 : decode cX7_reachUrnByUrn 55 = .ok (.invokestatic 34, 3) := by decide +kernel
theorem dX7_reachUrnByUrn_58 : decode cX7_reachUrnByUrn 58 = .ok (.ior, 1) := by decide +kernel
theorem dX7_reachUrnByUrn_59 : decode cX7_reachUrnByUrn 59 = .ok (.istore_n 1, 1) := by decide +kernel
theorem dX7_reachUrnByUrn_60 : decode cX7_reachUrnByUrn 60 = .ok (.iconst 1, 1) := by decide +kernel
theorem dX7_reachUrnByUrn_61 : decode cX7_reachUrnByUrn 61 = .ok (.istore_n 2, 1) := by decide +kernel
theorem dX7_reachUrnByUrn_62 : decode cX7_reachUrnByUrn 62 = .ok (.iinc 4 1, 3) := by decide +kernel
theorem dX7_reachUrnByUrn_65 : decode cX7_reachUrnByUrn 65 = .ok (.goto (-39), 3) := by decide +kernel
theorem dX7_reachUrnByUrn_68 : decode cX7_reachUrnByUrn 68 = .ok (.iinc 3 1, 3) := by decide +kernel
theorem dX7_reachUrnByUrn_71 : decode cX7_reachUrnByUrn 71 = .ok (.goto (-60), 3) := by decide +kernel
theorem dX7_reachUrnByUrn_74 : decode cX7_reachUrnByUrn 74 = .ok (.iload_n 1, 1) := by decide +kernel
theorem dX7_reachUrnByUrn_75 : decode cX7_reachUrnByUrn 75 = .ok (.ireturn, 1) := by decide +kernel
theorem dX7_distance_0 : decode cX7_distance 0 = .ok (.iload_n 1, 1) := by decide +kernel
theorem dX7_distance_1 : decode cX7_distance 1 = .ok (.istore_n 3, 1) := by decide +kernel
theorem dX7_distance_2 : decode cX7_distance 2 = .ok (.iload_n 1, 1) := by decide +kernel
theorem dX7_distance_3 : decode cX7_distance 3 = .ok (.istore 4, 2) := by decide +kernel
theorem dX7_distance_5 : decode cX7_distance 5 = .ok (.iconst 0, 1) := by decide +kernel
theorem dX7_distance_6 : decode cX7_distance 6 = .ok (.istore 5, 2) := by decide +kernel
theorem dX7_distance_8 : decode cX7_distance 8 = .ok (.iload 5, 2) := by decide +kernel
theorem dX7_distance_10 : decode cX7_distance 10 = .ok (.bipush 24, 2) := by decide +kernel
theorem dX7_distance_12 : decode cX7_distance 12 = .ok (.if_icmp .ge 43, 3) := by decide +kernel
theorem dX7_distance_15 : decode cX7_distance 15 = .ok (.iload 4, 2) := by decide +kernel
theorem dX7_distance_17 : decode cX7_distance 17 = .ok (.ifCond .eq 38, 3) := by decide +kernel
theorem dX7_distance_20 : decode cX7_distance 20 = .ok (.iload 4, 2) := by decide +kernel
theorem dX7_distance_22 : decode cX7_distance 22 = .ok (.iload_n 2, 1) := by decide +kernel
theorem dX7_distance_23 : decode cX7_distance 23 = .ok (.invokestatic 37, 3) := by decide +kernel
theorem dX7_distance_26 : decode cX7_distance 26 = .ok (.ifCond .eq 6, 3) := by decide +kernel
theorem dX7_distance_29 : decode cX7_distance 29 = .ok (.iload 5, 2) := by decide +kernel
theorem dX7_distance_31 : decode cX7_distance 31 = .ok (.ireturn, 1) := by decide +kernel
theorem dX7_distance_32 : decode cX7_distance 32 = .ok (.aload_n 0, 1) := by decide +kernel
theorem dX7_distance_33 : decode cX7_distance 33 = .ok (.iload 4, 2) := by decide +kernel
theorem dX7_distance_35 : decode cX7_distance 35 = .ok (.invokevirtual 44, 3) := by decide +kernel
theorem dX7_distance_38 : decode cX7_distance 38 = .ok (.iload_n 3, 1) := by decide +kernel
theorem dX7_distance_39 : decode cX7_distance 39 = .ok (.iconst (-1), 1) := by decide +kernel
theorem dX7_distance_40 : decode cX7_distance 40 = .ok (.ixor, 1) := by decide +kernel
theorem dX7_distance_41 : decode cX7_distance 41 = .ok (.iand, 1) := by decide +kernel
theorem dX7_distance_42 : decode cX7_distance 42 = .ok (.istore 4, 2) := by decide +kernel
theorem dX7_distance_44 : decode cX7_distance 44 = .ok (.iload_n 3, 1) := by decide +kernel
theorem dX7_distance_45 : decode cX7_distance 45 = .ok (.iload 4, 2) := by decide +kernel
theorem dX7_distance_47 : decode cX7_distance 47 = .ok (.ior, 1) := by decide +kernel
theorem dX7_distance_48 : decode cX7_distance 48 = .ok (.istore_n 3, 1) := by decide +kernel
theorem dX7_distance_49 : decode cX7_distance 49 = .ok (.iinc 5 1, 3) := by decide +kernel
theorem dX7_distance_52 : decode cX7_distance 52 = .ok (.goto (-44), 3) := by decide +kernel
theorem dX7_distance_55 : decode cX7_distance 55 = .ok (.bipush (-15), 2) := by decide +kernel
theorem dX7_distance_57 : decode cX7_distance 57 = .ok (.ireturn, 1) := by decide +kernel
theorem dX7_neededNames_0 : decode cX7_neededNames 0 = .ok (.iconst 0, 1) := by decide +kernel
theorem dX7_neededNames_1 : decode cX7_neededNames 1 = .ok (.istore_n 2, 1) := by decide +kernel
theorem dX7_neededNames_2 : decode cX7_neededNames 2 = .ok (.aload_n 0, 1) := by decide +kernel
theorem dX7_neededNames_3 : decode cX7_neededNames 3 = .ok (.invokevirtual 47, 3) := by decide +kernel
theorem dX7_neededNames_6 : decode cX7_neededNames 6 = .ok (.iload_n 1, 1) := by decide +kernel
theorem dX7_neededNames_7 : decode cX7_neededNames 7 = .ok (.invokestatic 37, 3) := by decide +kernel
theorem dX7_neededNames_10 : decode cX7_neededNames 10 = .ok (.ifCond .ne 5, 3) := by decide +kernel
theorem dX7_neededNames_13 : decode cX7_neededNames 13 = .ok (.iload_n 2, 1) := by decide +kernel
theorem dX7_neededNames_14 : decode cX7_neededNames 14 = .ok (.ireturn, 1) := by decide +kernel
theorem dX7_neededNames_15 : decode cX7_neededNames 15 = .ok (.iconst 0, 1) := by decide +kernel
theorem dX7_neededNames_16 : decode cX7_neededNames 16 = .ok (.istore_n 3, 1) := by decide +kernel
theorem dX7_neededNames_17 : decode cX7_neededNames 17 = .ok (.iload_n 3, 1) := by decide +kernel
theorem dX7_neededNames_18 : decode cX7_neededNames 18 = .ok (.bipush 6, 2) := by decide +kernel
theorem dX7_neededNames_20 : decode cX7_neededNames 20 = .ok (.if_icmp .ge 31, 3) := by decide +kernel
theorem dX7_neededNames_23 : decode cX7_neededNames 23 = .ok (.aload_n 0, 1) := by decide +kernel
theorem dX7_neededNames_24 : decode cX7_neededNames 24 = .ok (.aload_n 0, 1) := by decide +kernel
theorem dX7_neededNames_25 : decode cX7_neededNames 25 = .ok (.iload_n 3, 1) := by decide +kernel
theorem dX7_neededNames_26 : decode cX7_neededNames 26 = .ok (.invokevirtual 19, 3) := by decide +kernel
theorem dX7_neededNames_29 : decode cX7_neededNames 29 = .ok (.invokevirtual 23, 3) := by decide +kernel
theorem dX7_neededNames_32 : decode cX7_neededNames 32 = .ok (.iload_n 1, 1) := by decide +kernel
theorem dX7_neededNames_33 : decode cX7_neededNames 33 = .ok (.invokestatic 37, 3) := by decide +kernel
theorem dX7_neededNames_36 : decode cX7_neededNames 36 = .ok (.ifCond .ne 9, 3) := by decide +kernel
theorem dX7_neededNames_39 : decode cX7_neededNames 39 = .ok (.iload_n 2, 1) := by decide +kernel
theorem dX7_neededNames_40 : decode cX7_neededNames 40 = .ok (.iconst 1, 1) := by decide +kernel
theorem dX7_neededNames_41 : decode cX7_neededNames 41 = .ok (.iload_n 3, 1) := by decide +kernel
theorem dX7_neededNames_42 : decode cX7_neededNames 42 = .ok (.ishl, 1) := by decide +kernel
theorem dX7_neededNames_43 : decode cX7_neededNames 43 = .ok (.ior, 1) := by decide +kernel
theorem dX7_neededNames_44 : decode cX7_neededNames 44 = .ok (.istore_n 2, 1) := by decide +kernel
theorem dX7_neededNames_45 : decode cX7_neededNames 45 = .ok (.iinc 3 1, 3) := by decide +kernel
theorem dX7_neededNames_48 : decode cX7_neededNames 48 = .ok (.goto (-31), 3) := by decide +kernel
theorem dX7_neededNames_51 : decode cX7_neededNames 51 = .ok (.iload_n 2, 1) := by decide +kernel
theorem dX7_neededNames_52 : decode cX7_neededNames 52 = .ok (.ireturn, 1) := by decide +kernel
theorem dX7_ringLength_0 : decode cX7_ringLength 0 = .ok (.aload_n 0, 1) := by decide +kernel
theorem dX7_ringLength_1 : decode cX7_ringLength 1 = .ok (.aload_n 0, 1) := by decide +kernel
theorem dX7_ringLength_2 : decode cX7_ringLength 2 = .ok (.iload_n 1, 1) := by decide +kernel
theorem dX7_ringLength_3 : decode cX7_ringLength 3 = .ok (.invokevirtual 51, 3) := by decide +kernel
theorem dX7_ringLength_6 : decode cX7_ringLength 6 = .ok (.iload_n 1, 1) := by decide +kernel
theorem dX7_ringLength_7 : decode cX7_ringLength 7 = .ok (.invokevirtual 54, 3) := by decide +kernel
theorem dX7_ringLength_10 : decode cX7_ringLength 10 = .ok (.istore_n 2, 1) := by decide +kernel
theorem dX7_ringLength_11 : decode cX7_ringLength 11 = .ok (.iload_n 2, 1) := by decide +kernel
theorem dX7_ringLength_12 : decode cX7_ringLength 12 = .ok (.bipush (-15), 2) := by decide +kernel
theorem dX7_ringLength_14 : decode cX7_ringLength 14 = .ok (.if_icmp .ne 8, 3) := by decide +kernel
theorem dX7_ringLength_17 : decode cX7_ringLength 17 = .ok (.bipush (-15), 2) := by decide +kernel
theorem dX7_ringLength_19 : decode cX7_ringLength 19 = .ok (.goto 6, 3) := by decide +kernel
theorem dX7_ringLength_22 : decode cX7_ringLength 22 = .ok (.iload_n 2, 1) := by decide +kernel
theorem dX7_ringLength_23 : decode cX7_ringLength 23 = .ok (.iconst 1, 1) := by decide +kernel
theorem dX7_ringLength_24 : decode cX7_ringLength 24 = .ok (.iadd, 1) := by decide +kernel
theorem dX7_ringLength_25 : decode cX7_ringLength 25 = .ok (.ireturn, 1) := by decide +kernel
theorem dX7_leftOver_0 : decode cX7_leftOver 0 = .ok (.aload_n 0, 1) := by decide +kernel
theorem dX7_leftOver_1 : decode cX7_leftOver 1 = .ok (.aload_n 0, 1) := by decide +kernel
theorem dX7_leftOver_2 : decode cX7_leftOver 2 = .ok (.bipush (-15), 2) := by decide +kernel
theorem dX7_leftOver_4 : decode cX7_leftOver 4 = .ok (.invokevirtual 19, 3) := by decide +kernel
theorem dX7_leftOver_7 : decode cX7_leftOver 7 = .ok (.aload_n 0, 1) := by decide +kernel
theorem dX7_leftOver_8 : decode cX7_leftOver 8 = .ok (.iconst 1, 1) := by decide +kernel
theorem dX7_leftOver_9 : decode cX7_leftOver 9 = .ok (.invokevirtual 26, 3) := by decide +kernel
theorem dX7_leftOver_12 : decode cX7_leftOver 12 = .ok (.ior, 1) := by decide +kernel
theorem dX7_leftOver_13 : decode cX7_leftOver 13 = .ok (.invokevirtual 23, 3) := by decide +kernel
theorem dX7_leftOver_16 : decode cX7_leftOver 16 = .ok (.istore_n 1, 1) := by decide +kernel
theorem dX7_leftOver_17 : decode cX7_leftOver 17 = .ok (.iconst 0, 1) := by decide +kernel
theorem dX7_leftOver_18 : decode cX7_leftOver 18 = .ok (.istore_n 2, 1) := by decide +kernel
theorem dX7_leftOver_19 : decode cX7_leftOver 19 = .ok (.iconst 0, 1) := by decide +kernel
theorem dX7_leftOver_20 : decode cX7_leftOver 20 = .ok (.istore_n 3, 1) := by decide +kernel
theorem dX7_leftOver_21 : decode cX7_leftOver 21 = .ok (.iload_n 3, 1) := by decide +kernel
theorem dX7_leftOver_22 : decode cX7_leftOver 22 = .ok (.bipush 24, 2) := by decide +kernel
theorem dX7_leftOver_24 : decode cX7_leftOver 24 = .ok (.if_icmp .ge 35, 3) := by decide +kernel
theorem dX7_leftOver_27 : decode cX7_leftOver 27 = .ok (.aload_n 0, 1) := by decide +kernel
theorem dX7_leftOver_28 : decode cX7_leftOver 28 = .ok (.getfield 15, 3) := by decide +kernel
theorem dX7_leftOver_31 : decode cX7_leftOver 31 = .ok (.iload_n 3, 1) := by decide +kernel
theorem dX7_leftOver_32 : decode cX7_leftOver 32 = .ok (.invokevirtual 58, 3) := by decide +kernel
theorem dX7_leftOver_35 : decode cX7_leftOver 35 = .ok (.ifCond .eq 18, 3) := by decide +kernel
theorem dX7_leftOver_38 : decode cX7_leftOver 38 = .ok (.iload_n 1, 1) := by decide +kernel
theorem dX7_leftOver_39 : decode cX7_leftOver 39 = .ok (.iload_n 3, 1) := by decide +kernel
theorem dX7_leftOver_40 : decode cX7_leftOver 40 = .ok (.invokestatic 37, 3) := by decide +kernel
theorem dX7_leftOver_43 : decode cX7_leftOver 43 = .ok (.ifCond .ne 10, 3) := by decide +kernel
theorem dX7_leftOver_46 : decode cX7_leftOver 46 = .ok (.iload_n 2, 1) := by decide +kernel
theorem dX7_leftOver_47 : decode cX7_leftOver 47 = .ok (.iload_n 3, 1) := by decide +kernel
theorem dX7_leftOver_48 : decode cX7_leftOver 48 = .ok (.invokestatic 34, 3) := by decide +kernel
theorem dX7_leftOver_51 : decode cX7_leftOver 51 = .ok (.ior, 1) := by decide +kernel
theorem dX7_leftOver_52 : decode cX7_leftOver 52 = .ok (.istore_n 2, 1) := by decide +kernel
theorem dX7_leftOver_53 : decode cX7_leftOver 53 = .ok (.iinc 3 1, 3) := by decide +kernel
theorem dX7_leftOver_56 : decode cX7_leftOver 56 = .ok (.goto (-35), 3) := by decide +kernel
theorem dX7_leftOver_59 : decode cX7_leftOver 59 = .ok (.iload_n 2, 1) := by decide +kernel
theorem dX7_leftOver_60 : decode cX7_leftOver 60 = .ok (.ireturn, 1) := by decide +kernel
theorem dX7_weighAll_0 : decode cX7_weighAll 0 = .ok (.iconst 0, 1) := by decide +kernel
theorem dX7_weighAll_1 : decode cX7_weighAll 1 = .ok (.istore_n 1, 1) := by decide +kernel
theorem dX7_weighAll_2 : decode cX7_weighAll 2 = .ok (.iload_n 1, 1) := by decide +kernel
theorem dX7_weighAll_3 : decode cX7_weighAll 3 = .ok (.bipush 24, 2) := by decide +kernel
theorem dX7_weighAll_5 : decode cX7_weighAll 5 = .ok (.if_icmp .ge 61, 3) := by decide +kernel
theorem dX7_weighAll_8 : decode cX7_weighAll 8 = .ok (.aload_n 0, 1) := by decide +kernel
theorem dX7_weighAll_9 : decode cX7_weighAll 9 = .ok (.getfield 15, 3) := by decide +kernel
theorem dX7_weighAll_12 : decode cX7_weighAll 12 = .ok (.iload_n 1, 1) := by decide +kernel
theorem dX7_weighAll_13 : decode cX7_weighAll 13 = .ok (.invokevirtual 68, 3) := by decide +kernel
theorem dX7_weighAll_16 : decode cX7_weighAll 16 = .ok (.istore_n 2, 1) := by decide +kernel
theorem dX7_weighAll_17 : decode cX7_weighAll 17 = .ok (.aload_n 0, 1) := by decide +kernel
theorem dX7_weighAll_18 : decode cX7_weighAll 18 = .ok (.getfield 15, 3) := by decide +kernel
theorem dX7_weighAll_21 : decode cX7_weighAll 21 = .ok (.iload_n 1, 1) := by decide +kernel
theorem dX7_weighAll_22 : decode cX7_weighAll 22 = .ok (.invokevirtual 71, 3) := by decide +kernel
theorem dX7_weighAll_25 : decode cX7_weighAll 25 = .ok (.istore_n 3, 1) := by decide +kernel
theorem dX7_weighAll_26 : decode cX7_weighAll 26 = .ok (.aload_n 0, 1) := by decide +kernel
theorem dX7_weighAll_27 : decode cX7_weighAll 27 = .ok (.getfield 9, 3) := by decide +kernel
theorem dX7_weighAll_30 : decode cX7_weighAll 30 = .ok (.iload_n 1, 1) := by decide +kernel
theorem dX7_weighAll_31 : decode cX7_weighAll 31 = .ok (.aload_n 0, 1) := by decide +kernel
theorem dX7_weighAll_32 : decode cX7_weighAll 32 = .ok (.getfield 15, 3) := by decide +kernel
theorem dX7_weighAll_35 : decode cX7_weighAll 35 = .ok (.iload_n 1, 1) := by decide +kernel
theorem dX7_weighAll_36 : decode cX7_weighAll 36 = .ok (.invokevirtual 58, 3) := by decide +kernel
theorem dX7_weighAll_39 : decode cX7_weighAll 39 = .ok (.ifCond .eq 19, 3) := by decide +kernel
theorem dX7_weighAll_42 : decode cX7_weighAll 42 = .ok (.iload_n 2, 1) := by decide +kernel
theorem dX7_weighAll_43 : decode cX7_weighAll 43 = .ok (.iconst 5, 1) := by decide +kernel
theorem dX7_weighAll_44 : decode cX7_weighAll 44 = .ok (.imul, 1) := by decide +kernel
theorem dX7_weighAll_45 : decode cX7_weighAll 45 = .ok (.iload_n 3, 1) := by decide +kernel
theorem dX7_weighAll_46 : decode cX7_weighAll 46 = .ok (.iadd, 1) := by decide +kernel
theorem dX7_weighAll_47 : decode cX7_weighAll 47 = .ok (.bipush 24, 2) := by decide +kernel
theorem dX7_weighAll_49 : decode cX7_weighAll 49 = .ok (.imul, 1) := by decide +kernel
theorem dX7_weighAll_50 : decode cX7_weighAll 50 = .ok (.bipush 24, 2) := by decide +kernel
theorem dX7_weighAll_52 : decode cX7_weighAll 52 = .ok (.iadd, 1) := by decide +kernel
theorem dX7_weighAll_53 : decode cX7_weighAll 53 = .ok (.iload_n 1, 1) := by decide +kernel
theorem dX7_weighAll_54 : decode cX7_weighAll 54 = .ok (.isub, 1) := by decide +kernel
theorem dX7_weighAll_55 : decode cX7_weighAll 55 = .ok (.goto 4, 3) := by decide +kernel
theorem dX7_weighAll_58 : decode cX7_weighAll 58 = .ok (.iconst 0, 1) := by decide +kernel
theorem dX7_weighAll_59 : decode cX7_weighAll 59 = .ok (.iastore, 1) := by decide +kernel
theorem dX7_weighAll_60 : decode cX7_weighAll 60 = .ok (.iinc 1 1, 3) := by decide +kernel
theorem dX7_weighAll_63 : decode cX7_weighAll 63 = .ok (.goto (-61), 3) := by decide +kernel
theorem dX7_weighAll_66 : decode cX7_weighAll 66 = .ok (.return_, 1) := by decide +kernel
def f_X3_settle (μ : mu_T) (a1 : Int) : Option (Int × mu_T) :=
  bd_ (f_X3_isRefusal μ a1) (fun v1 => eq_ v1 0
      (nm_ (μ 138 4) (fun v9 => jn_ (φ := Int → Option (Int × mu_T)) (fun s0_27 => wf_ μ 138 4 s0_27 (fun μ27 => nm_ (μ27 138 5) (fun v32 => mn_ (v32 + 1) 8 (fun v39 => wf_ μ27 138 5 v39 (fun μ42 => some (a1, μ42))))))
      (fun J27 => lt_ v9 8
      (nm_ (μ 138 4) (fun v18 => J27 (v18 + 1)))
      (J27 0))))
      (some (a1, μ)))
set_option maxHeartbeats 4000000 in
set_option maxRecDepth 100000 in
theorem c_X3_settle {G : gp_} {ad : Nat → Nat} (μ : mu_T) (a1 : Int) (a : Int) (μr : mu_T) (h : f_X3_settle μ a1 = some (a, μr)) : mi_ yX3_settle cX3_settle 2 (some .int) ({ frames := 1, cells := 0, slots := 0, locals := 20 } : Room) G 151 ad (ceX G ad) [.ref (ad 138), .int (iI a1)] μ a μr := by
  refine mi_in (own := "UrnHeap$History") (lv := [(0, .ref (ad 138)), (1, .int (iI a1))]) (by decide) rfl rfl (Nat.le_of_ble_eq_true rfl) (fun X C E => ?_)
  unfold f_X3_settle at h
  refine xx_iload_n C 1 rfl 1 dX3_settle_0 rfl rfl ?_
  refine xx_cSip (As := [.int (iI a1)]) (st := []) C 4 rfl  ca_X3_isRefusal cs_X3_isRefusal w_447 rfl ⟨Nat.le_of_ble_eq_true rfl, Nat.le_of_ble_eq_true rfl⟩ ⟨Nat.le_of_ble_eq_true rfl, Nat.le_of_ble_eq_true rfl⟩ (Nat.le_of_ble_eq_true rfl) dX3_settle_1 (fun v1 e9 => c_X3_isRefusal _ _ v1 e9) h (fun v1 h => ?_) rfl
  refine xx_if_ne (tgt := 45) C 7 rfl dX3_settle_4 (by decide) h (fun h => ?_) (fun h => ?_)
  · refine xx_iload_n C 46 rfl 1 dX3_settle_45 rfl rfl ?_
    exact xx_iret C E rfl ⟨Nat.le_of_ble_eq_true rfl, Nat.le_of_ble_eq_true rfl⟩ dX3_settle_46 h
  · refine xx_aload_n C 8 rfl 0 dX3_settle_7 rfl rfl ?_
    refine xx_aload_n C 9 rfl 0 dX3_settle_8 rfl rfl ?_
    refine xx_geti (fi := 4) (j := 4) C 12 rfl (by decide) (ceX_138 _ _ _) rfl in_X3 (by decide) rfl w_241 dX3_settle_9 h (fun v9 h => ?_)
    refine xx_bipush C 14 rfl dX3_settle_12 (by decide) ?_
    refine jn_r (fun J => ∀ (s0_27 : Int), J s0_27 = some (a, μr) → wx_ G X 151 ad (ceX G ad) μ 0 0 27 [(0, .ref (ad 138)), (1, .int (iI a1))] [.int (iI s0_27), .ref (ad 138)]) h (fun s0_27 h => ?_) (fun J27 K27 h => ?_)
    · refine xx_puti (fi := 4) (j := 4) C 30 rfl (by decide) (ceX_138 _ _ _) (puX_138_4 _ _ _ _) rfl in_X3 tyX3 tyX3_ok nmX3 (by decide) (Nat.le_of_ble_eq_true rfl) ⟨rfl, rfl⟩ w_241 dX3_settle_27 h (fun μ27 h => ?_)
      refine xx_aload_n C 31 rfl 0 dX3_settle_30 rfl rfl ?_
      refine xx_aload_n C 32 rfl 0 dX3_settle_31 rfl rfl ?_
      refine xx_geti (fi := 5) (j := 5) C 35 rfl (by decide) (ceX_138 _ _ _) rfl in_X3 (by decide) rfl w_242 dX3_settle_32 h (fun v32 h => ?_)
      refine xx_iconst C 36 rfl dX3_settle_35 ?_
      refine xx_iadd C 37 rfl dX3_settle_36 ?_
      refine xx_bipush C 39 rfl dX3_settle_37 (by decide) ?_
      refine xx_mmin C 42 rfl ⟨w_450, w_451, w_41, w_452⟩ ⟨Nat.le_of_ble_eq_true rfl, Nat.le_of_ble_eq_true rfl⟩ ⟨Nat.le_of_ble_eq_true rfl, Nat.le_of_ble_eq_true rfl⟩ dX3_settle_39 h (fun v39 h => ?_)
      refine xx_puti (fi := 5) (j := 5) C 45 rfl (by decide) (ceX_138 _ _ _) (puX_138_5 _ _ _ _) rfl in_X3 tyX3 tyX3_ok nmX3 (by decide) (Nat.le_of_ble_eq_true rfl) ⟨rfl, rfl⟩ w_242 dX3_settle_42 h (fun μ42 h => ?_)
      refine xx_iload_n C 46 rfl 1 dX3_settle_45 rfl rfl ?_
      exact xx_iret C E rfl ⟨Nat.le_of_ble_eq_true rfl, Nat.le_of_ble_eq_true rfl⟩ dX3_settle_46 h
    · refine xx_icmp_ge (tgt := 26) C 17 rfl dX3_settle_14 (by decide) h (fun h => ?_) (fun h => ?_)
      · refine xx_iconst C 27 rfl dX3_settle_26 ?_
        exact K27 0 h
      · refine xx_aload_n C 18 rfl 0 dX3_settle_17 rfl rfl ?_
        refine xx_geti (fi := 4) (j := 4) C 21 rfl (by decide) (ceX_138 _ _ _) rfl in_X3 (by decide) rfl w_241 dX3_settle_18 h (fun v18 h => ?_)
        refine xx_iconst C 22 rfl dX3_settle_21 ?_
        refine xx_iadd C 23 rfl dX3_settle_22 ?_
        refine xx_goto C 27 dX3_settle_23 (by decide) ?_
        exact K27 (v18 + 1) h

def f_X3_undoLatest (μ : mu_T)  : Option (Int × mu_T) :=
  nm_ (μ 138 5) (fun v1 => eq_ v1 0
      (some ((-15), μ))
      (nm_ (μ 138 4) (fun v12 => jn_ (φ := Int → Option (Int × mu_T)) (fun s0_29 => wf_ μ 138 4 s0_29 (fun μ29 => bd_ (f_X3_takeBack μ29) (fun μ33 => nm_ (μ33 138 5) (fun v38 => wf_ μ33 138 5 (v38 - 1) (fun μ43 => nm_ (μ43 138 5) (fun v47 => some (v47, μ43)))))))
      (fun J29 => lt_ 0 v12
      (nm_ (μ 138 4) (fun v19 => J29 (v19 - 1)))
      (J29 8)))))
set_option maxHeartbeats 4000000 in
set_option maxRecDepth 100000 in
theorem c_X3_undoLatest {G : gp_} {ad : Nat → Nat} (μ : mu_T)  (a : Int) (μr : mu_T) (h : f_X3_undoLatest μ  = some (a, μr)) : mi_ yX3_undoLatest cX3_undoLatest 1 (some .int) ({ frames := 4, cells := 0, slots := 0, locals := 81 } : Room) G 151 ad (ceX G ad) [.ref (ad 138)] μ a μr := by
  refine mi_in (own := "UrnHeap$History") (lv := [(0, .ref (ad 138))]) (by decide) rfl rfl (Nat.le_of_ble_eq_true rfl) (fun X C E => ?_)
  unfold f_X3_undoLatest at h
  refine xx_aload_n C 1 rfl 0 dX3_undoLatest_0 rfl rfl ?_
  refine xx_geti (fi := 5) (j := 5) C 4 rfl (by decide) (ceX_138 _ _ _) rfl in_X3 (by decide) rfl w_242 dX3_undoLatest_1 h (fun v1 h => ?_)
  refine xx_if_ne (tgt := 10) C 7 rfl dX3_undoLatest_4 (by decide) h (fun h => ?_) (fun h => ?_)
  · refine xx_aload_n C 11 rfl 0 dX3_undoLatest_10 rfl rfl ?_
    refine xx_aload_n C 12 rfl 0 dX3_undoLatest_11 rfl rfl ?_
    refine xx_geti (fi := 4) (j := 4) C 15 rfl (by decide) (ceX_138 _ _ _) rfl in_X3 (by decide) rfl w_241 dX3_undoLatest_12 h (fun v12 h => ?_)
    refine jn_r (fun J => ∀ (s0_29 : Int), J s0_29 = some (a, μr) → wx_ G X 151 ad (ceX G ad) μ 0 0 29 [(0, .ref (ad 138))] [.int (iI s0_29), .ref (ad 138)]) h (fun s0_29 h => ?_) (fun J29 K29 h => ?_)
    · refine xx_puti (fi := 4) (j := 4) C 32 rfl (by decide) (ceX_138 _ _ _) (puX_138_4 _ _ _ _) rfl in_X3 tyX3 tyX3_ok nmX3 (by decide) (Nat.le_of_ble_eq_true rfl) ⟨rfl, rfl⟩ w_241 dX3_undoLatest_29 h (fun μ29 h => ?_)
      refine xx_aload_n C 33 rfl 0 dX3_undoLatest_32 rfl rfl ?_
      refine xx_cVv (As := []) (st := []) (o := 138) C 36 rfl (by decide) (ceX_138 _ _ _) rfl rfl ca_X3_takeBack cv_X3_takeBack w_1172 rfl ⟨Nat.le_of_ble_eq_true rfl, Nat.le_of_ble_eq_true rfl⟩ ⟨Nat.le_of_ble_eq_true rfl, Nat.le_of_ble_eq_true rfl⟩ (Nat.le_of_ble_eq_true rfl) dX3_undoLatest_33 (fun μ33 e9 => c_X3_takeBack _ μ33 e9) h (fun μ33 h => ?_) rfl
      refine xx_aload_n C 37 rfl 0 dX3_undoLatest_36 rfl rfl ?_
      refine xx_dup C 38 rfl dX3_undoLatest_37 rfl ?_
      refine xx_geti (fi := 5) (j := 5) C 41 rfl (by decide) (ceX_138 _ _ _) rfl in_X3 (by decide) rfl w_242 dX3_undoLatest_38 h (fun v38 h => ?_)
      refine xx_iconst C 42 rfl dX3_undoLatest_41 ?_
      refine xx_isub C 43 rfl dX3_undoLatest_42 ?_
      refine xx_puti (fi := 5) (j := 5) C 46 rfl (by decide) (ceX_138 _ _ _) (puX_138_5 _ _ _ _) rfl in_X3 tyX3 tyX3_ok nmX3 (by decide) (Nat.le_of_ble_eq_true rfl) ⟨rfl, rfl⟩ w_242 dX3_undoLatest_43 h (fun μ43 h => ?_)
      refine xx_aload_n C 47 rfl 0 dX3_undoLatest_46 rfl rfl ?_
      refine xx_geti (fi := 5) (j := 5) C 50 rfl (by decide) (ceX_138 _ _ _) rfl in_X3 (by decide) rfl w_242 dX3_undoLatest_47 h (fun v47 h => ?_)
      exact xx_iret C E rfl ⟨Nat.le_of_ble_eq_true rfl, Nat.le_of_ble_eq_true rfl⟩ dX3_undoLatest_50 h
    · refine xx_if_le (tgt := 27) C 18 rfl dX3_undoLatest_15 (by decide) h (fun h => ?_) (fun h => ?_)
      · refine xx_bipush C 29 rfl dX3_undoLatest_27 (by decide) ?_
        exact K29 8 h
      · refine xx_aload_n C 19 rfl 0 dX3_undoLatest_18 rfl rfl ?_
        refine xx_geti (fi := 4) (j := 4) C 22 rfl (by decide) (ceX_138 _ _ _) rfl in_X3 (by decide) rfl w_241 dX3_undoLatest_19 h (fun v19 h => ?_)
        refine xx_iconst C 23 rfl dX3_undoLatest_22 ?_
        refine xx_isub C 24 rfl dX3_undoLatest_23 ?_
        refine xx_goto C 29 dX3_undoLatest_24 (by decide) ?_
        exact K29 (v19 - 1) h
  · refine xx_bipush C 9 rfl dX3_undoLatest_7 (by decide) ?_
    exact xx_iret C E rfl ⟨Nat.le_of_ble_eq_true rfl, Nat.le_of_ble_eq_true rfl⟩ dX3_undoLatest_9 h

def f_X3_saveNow (μ : mu_T)  : Option (Int × mu_T) :=
  bd_ (f_X2_copyFrom_h0h0 μ 10 0) (fun μ8 => wz_ μ8 138 3 1 (fun μ13 => bd_ (f_X2_urns μ13) (fun v20 => some (v20, μ13))))
set_option maxHeartbeats 4000000 in
set_option maxRecDepth 100000 in
theorem c_X3_saveNow {G : gp_} {ad : Nat → Nat} (μ : mu_T)  (a : Int) (μr : mu_T) (h : f_X3_saveNow μ  = some (a, μr)) : mi_ yX3_saveNow cX3_saveNow 1 (some .int) ({ frames := 3, cells := 0, slots := 0, locals := 60 } : Room) G 151 ad (ceX G ad) [.ref (ad 138)] μ a μr := by
  refine mi_in (own := "UrnHeap$History") (lv := [(0, .ref (ad 138))]) (by decide) rfl rfl (Nat.le_of_ble_eq_true rfl) (fun X C E => ?_)
  unfold f_X3_saveNow at h
  refine xx_aload_n C 1 rfl 0 dX3_saveNow_0 rfl rfl ?_
  refine xx_getr (fi := 2) C 4 rfl (by decide) (ceX_138 _ _ _) rfl in_X3 (by decide) rfl w_239 dX3_saveNow_1 ?_
  refine xx_aload_n C 5 rfl 0 dX3_saveNow_4 rfl rfl ?_
  refine xx_getr (fi := 0) C 8 rfl (by decide) (ceX_138 _ _ _) rfl in_X3 (by decide) rfl w_237 dX3_saveNow_5 ?_
  refine xx_cVv (As := [.ref (ad 0)]) (st := []) (o := 120) C 11 rfl (by decide) (ceX_120 _ _ _) rfl rfl ca_X2_copyFrom cv_X2_copyFrom w_415 rfl ⟨Nat.le_of_ble_eq_true rfl, Nat.le_of_ble_eq_true rfl⟩ ⟨Nat.le_of_ble_eq_true rfl, Nat.le_of_ble_eq_true rfl⟩ (Nat.le_of_ble_eq_true rfl) dX3_saveNow_8 (fun μ8 e9 => c_X2_copyFrom_h0h0 _ 10 (by omega) 0 (by omega) μ8 e9) h (fun μ8 h => ?_) rfl
  refine xx_aload_n C 12 rfl 0 dX3_saveNow_11 rfl rfl ?_
  refine xx_iconst C 13 rfl dX3_saveNow_12 ?_
  refine xx_putz (fi := 3) (j := 3) C 16 rfl (by decide) (ceX_138 _ _ _) (puX_138_3 _ _ _ _) rfl in_X3 tyX3 tyX3_ok nmX3 (by decide) (Nat.le_of_ble_eq_true rfl) ⟨rfl, rfl⟩ w_240 dX3_saveNow_13 h (fun μ13 h => ?_)
  refine xx_aload_n C 17 rfl 0 dX3_saveNow_16 rfl rfl ?_
  refine xx_getr (fi := 0) C 20 rfl (by decide) (ceX_138 _ _ _) rfl in_X3 (by decide) rfl w_237 dX3_saveNow_17 ?_
  refine xx_cVip (As := []) (st := []) (o := 0) C 23 rfl (by decide) (ceX_0 _ _ _) rfl rfl ca_X2_urns cv_X2_urns w_1162 rfl ⟨Nat.le_of_ble_eq_true rfl, Nat.le_of_ble_eq_true rfl⟩ ⟨Nat.le_of_ble_eq_true rfl, Nat.le_of_ble_eq_true rfl⟩ (Nat.le_of_ble_eq_true rfl) dX3_saveNow_20 (fun v20 e9 => c_X2_urns _ v20 e9) h (fun v20 h => ?_) rfl
  exact xx_iret C E rfl ⟨Nat.le_of_ble_eq_true rfl, Nat.le_of_ble_eq_true rfl⟩ dX3_saveNow_23 h

def f_X3_restoreSaved (μ : mu_T)  : Option (Int × mu_T) :=
  nm_ (μ 138 3) (fun v1 => eq_ v1 0
      (some ((-15), μ))
      (bd_ (f_X2_copyFrom_h0h0 μ 0 10) (fun μ18 => wf_ μ18 138 5 0 (fun μ23 => bd_ (f_X2_urns μ23) (fun v30 => some (v30, μ23))))))
set_option maxHeartbeats 4000000 in
set_option maxRecDepth 100000 in
theorem c_X3_restoreSaved {G : gp_} {ad : Nat → Nat} (μ : mu_T)  (a : Int) (μr : mu_T) (h : f_X3_restoreSaved μ  = some (a, μr)) : mi_ yX3_restoreSaved cX3_restoreSaved 1 (some .int) ({ frames := 3, cells := 0, slots := 0, locals := 60 } : Room) G 151 ad (ceX G ad) [.ref (ad 138)] μ a μr := by
  refine mi_in (own := "UrnHeap$History") (lv := [(0, .ref (ad 138))]) (by decide) rfl rfl (Nat.le_of_ble_eq_true rfl) (fun X C E => ?_)
  unfold f_X3_restoreSaved at h
  refine xx_aload_n C 1 rfl 0 dX3_restoreSaved_0 rfl rfl ?_
  refine xx_geti (fi := 3) (j := 3) C 4 rfl (by decide) (ceX_138 _ _ _) rfl in_X3 (by decide) rfl w_240 dX3_restoreSaved_1 h (fun v1 h => ?_)
  refine xx_if_ne (tgt := 10) C 7 rfl dX3_restoreSaved_4 (by decide) h (fun h => ?_) (fun h => ?_)
  · refine xx_aload_n C 11 rfl 0 dX3_restoreSaved_10 rfl rfl ?_
    refine xx_getr (fi := 0) C 14 rfl (by decide) (ceX_138 _ _ _) rfl in_X3 (by decide) rfl w_237 dX3_restoreSaved_11 ?_
    refine xx_aload_n C 15 rfl 0 dX3_restoreSaved_14 rfl rfl ?_
    refine xx_getr (fi := 2) C 18 rfl (by decide) (ceX_138 _ _ _) rfl in_X3 (by decide) rfl w_239 dX3_restoreSaved_15 ?_
    refine xx_cVv (As := [.ref (ad 120)]) (st := []) (o := 0) C 21 rfl (by decide) (ceX_0 _ _ _) rfl rfl ca_X2_copyFrom cv_X2_copyFrom w_415 rfl ⟨Nat.le_of_ble_eq_true rfl, Nat.le_of_ble_eq_true rfl⟩ ⟨Nat.le_of_ble_eq_true rfl, Nat.le_of_ble_eq_true rfl⟩ (Nat.le_of_ble_eq_true rfl) dX3_restoreSaved_18 (fun μ18 e9 => c_X2_copyFrom_h0h0 _ 0 (by omega) 10 (by omega) μ18 e9) h (fun μ18 h => ?_) rfl
    refine xx_aload_n C 22 rfl 0 dX3_restoreSaved_21 rfl rfl ?_
    refine xx_iconst C 23 rfl dX3_restoreSaved_22 ?_
    refine xx_puti (fi := 5) (j := 5) C 26 rfl (by decide) (ceX_138 _ _ _) (puX_138_5 _ _ _ _) rfl in_X3 tyX3 tyX3_ok nmX3 (by decide) (Nat.le_of_ble_eq_true rfl) ⟨rfl, rfl⟩ w_242 dX3_restoreSaved_23 h (fun μ23 h => ?_)
    refine xx_aload_n C 27 rfl 0 dX3_restoreSaved_26 rfl rfl ?_
    refine xx_getr (fi := 0) C 30 rfl (by decide) (ceX_138 _ _ _) rfl in_X3 (by decide) rfl w_237 dX3_restoreSaved_27 ?_
    refine xx_cVip (As := []) (st := []) (o := 0) C 33 rfl (by decide) (ceX_0 _ _ _) rfl rfl ca_X2_urns cv_X2_urns w_1162 rfl ⟨Nat.le_of_ble_eq_true rfl, Nat.le_of_ble_eq_true rfl⟩ ⟨Nat.le_of_ble_eq_true rfl, Nat.le_of_ble_eq_true rfl⟩ (Nat.le_of_ble_eq_true rfl) dX3_restoreSaved_30 (fun v30 e9 => c_X2_urns _ v30 e9) h (fun v30 h => ?_) rfl
    exact xx_iret C E rfl ⟨Nat.le_of_ble_eq_true rfl, Nat.le_of_ble_eq_true rfl⟩ dX3_restoreSaved_33 h
  · refine xx_bipush C 9 rfl dX3_restoreSaved_7 (by decide) ?_
    exact xx_iret C E rfl ⟨Nat.le_of_ble_eq_true rfl, Nat.le_of_ble_eq_true rfl⟩ dX3_restoreSaved_9 h

def f_X6_has (μ : mu_T) (a1 : Int) : Option Int :=
  lt_ a1 0
      (some 0)
      (nm_ (μ 140 5) (fun v6 => lt_ a1 v6
      (lt_ a1 60
      (rd_ μ 143 60 a1 (fun v26 => (if v26 < 0 then some 0 else some 1)))
      (some 0))
      (some 0)))
set_option maxHeartbeats 4000000 in
set_option maxRecDepth 100000 in
theorem c_X6_has {G : gp_} {ad : Nat → Nat} (μ : mu_T) (a1 : Int) (a : Int) (h : f_X6_has μ a1 = some a) : mi_ yX6_has cX6_has 2 (some .boolean) ({ frames := 0, cells := 0, slots := 0, locals := 0 } : Room) G 151 ad (ceX G ad) [.ref (ad 140), .int (iI a1)] μ a μ := by
  refine mi_in (own := "UrnHeap$Orders") (lv := [(0, .ref (ad 140)), (1, .int (iI a1))]) (by decide) rfl rfl (Nat.le_of_ble_eq_true rfl) (fun X C E => ?_)
  unfold f_X6_has at h
  refine xx_iload_n C 1 rfl 1 dX6_has_0 rfl rfl ?_
  refine xx_if_lt (tgt := 34) C 4 rfl dX6_has_1 (by decide) h (fun h => ?_) (fun h => ?_)
  · refine xx_iconst C 35 rfl dX6_has_34 ?_
    exact xx_zretl C E rfl rfl ⟨Nat.le_of_ble_eq_true rfl, Nat.le_of_ble_eq_true rfl⟩ dX6_has_35 h
  · refine xx_iload_n C 5 rfl 1 dX6_has_4 rfl rfl ?_
    refine xx_aload_n C 6 rfl 0 dX6_has_5 rfl rfl ?_
    refine xx_geti (fi := 5) (j := 5) C 9 rfl (by decide) (ceX_140 _ _ _) rfl in_X6 (by decide) rfl w_307 dX6_has_6 h (fun v6 h => ?_)
    refine xx_icmp_ge (tgt := 34) C 12 rfl dX6_has_9 (by decide) h (fun h => ?_) (fun h => ?_)
    · refine xx_iconst C 35 rfl dX6_has_34 ?_
      exact xx_zretl C E rfl rfl ⟨Nat.le_of_ble_eq_true rfl, Nat.le_of_ble_eq_true rfl⟩ dX6_has_35 h
    · refine xx_iload_n C 13 rfl 1 dX6_has_12 rfl rfl ?_
      refine xx_aload_n C 14 rfl 0 dX6_has_13 rfl rfl ?_
      refine xx_getr (fi := 1) C 17 rfl (by decide) (ceX_140 _ _ _) rfl in_X6 (by decide) rfl w_299 dX6_has_14 ?_
      refine xx_klen (nA := 60) C 18 rfl (by decide) (fun row => ceX_143 _ _ row) dX6_has_17 ?_
      refine xx_icmp_ge (tgt := 34) C 21 rfl dX6_has_18 (by decide) h (fun h => ?_) (fun h => ?_)
      · refine xx_iconst C 35 rfl dX6_has_34 ?_
        exact xx_zretl C E rfl rfl ⟨Nat.le_of_ble_eq_true rfl, Nat.le_of_ble_eq_true rfl⟩ dX6_has_35 h
      · refine xx_aload_n C 22 rfl 0 dX6_has_21 rfl rfl ?_
        refine xx_getr (fi := 1) C 25 rfl (by decide) (ceX_140 _ _ _) rfl in_X6 (by decide) rfl w_299 dX6_has_22 ?_
        refine xx_iload_n C 26 rfl 1 dX6_has_25 rfl rfl ?_
        refine xx_aldk C 27 rfl (by decide) (fun row => ceX_143 _ _ row) (by decide) dX6_has_26 h (fun v26 h => ?_)
        refine xx_ifnullK (tgt := 34) C 30 rfl dX6_has_27 (by decide) h (fun h => ?_) (fun h => ?_)
        · refine xx_iconst C 35 rfl dX6_has_34 ?_
          exact xx_zretl C E rfl rfl ⟨Nat.le_of_ble_eq_true rfl, Nat.le_of_ble_eq_true rfl⟩ dX6_has_35 h
        · refine xx_iconst C 31 rfl dX6_has_30 ?_
          refine xx_goto C 35 dX6_has_31 (by decide) ?_
          exact xx_zretl C E rfl rfl ⟨Nat.le_of_ble_eq_true rfl, Nat.le_of_ble_eq_true rfl⟩ dX6_has_35 h

def f_X6_keep (μ : mu_T) (a1 : Int) : Option mu_T :=
  nm_ (μ 140 5) (fun v1 => lt_ v1 60
      (nm_ (μ 140 5) (fun v17 => gd_ (0 ≤ a1 ∧ a1 < 10) (wr_ μ 143 60 v17 a1 (fun μ21 => nm_ (μ21 140 5) (fun v27 => rd_ μ21 147 3 0 (fun v35 => wr_ μ21 144 60 v27 v35 (fun μ36 => nm_ (μ36 140 5) (fun v42 => rd_ μ36 147 3 1 (fun v50 => wr_ μ36 145 60 v42 v50 (fun μ51 => nm_ (μ51 140 5) (fun v57 => rd_ μ51 147 3 2 (fun v65 => wr_ μ51 146 60 v57 v65 (fun μ66 => nm_ (μ66 140 5) (fun v69 => wf_ μ66 140 5 (v69 + 1) (fun μ74 => some μ74)))))))))))))))
      (some μ))
set_option maxHeartbeats 4000000 in
set_option maxRecDepth 100000 in
theorem c_X6_keep {G : gp_} {ad : Nat → Nat} (μ : mu_T) (a1 : Int) (μr : mu_T) (h : f_X6_keep μ a1 = some μr) : mv_ yX6_keep cX6_keep 2 ({ frames := 0, cells := 0, slots := 0, locals := 0 } : Room) G 151 ad (ceX G ad) [.ref (ad 140), .ref (G.2.1 (100 + (a1 : Int).toNat))] μ μr := by
  refine mv_in (own := "UrnHeap$Orders") (lv := [(0, .ref (ad 140)), (1, .ref (G.2.1 (100 + (a1 : Int).toNat)))]) (by decide) rfl rfl (Nat.le_of_ble_eq_true rfl) (fun X C E => ?_)
  unfold f_X6_keep at h
  refine xx_aload_n C 1 rfl 0 dX6_keep_0 rfl rfl ?_
  refine xx_geti (fi := 5) (j := 5) C 4 rfl (by decide) (ceX_140 _ _ _) rfl in_X6 (by decide) rfl w_307 dX6_keep_1 h (fun v1 h => ?_)
  refine xx_aload_n C 5 rfl 0 dX6_keep_4 rfl rfl ?_
  refine xx_getr (fi := 1) C 8 rfl (by decide) (ceX_140 _ _ _) rfl in_X6 (by decide) rfl w_299 dX6_keep_5 ?_
  refine xx_klen (nA := 60) C 9 rfl (by decide) (fun row => ceX_143 _ _ row) dX6_keep_8 ?_
  refine xx_icmp_ge (tgt := 77) C 12 rfl dX6_keep_9 (by decide) h (fun h => ?_) (fun h => ?_)
  · exact xx_vret C E rfl ⟨Nat.le_of_ble_eq_true rfl, Nat.le_of_ble_eq_true rfl⟩ dX6_keep_77 h
  · refine xx_aload_n C 13 rfl 0 dX6_keep_12 rfl rfl ?_
    refine xx_getr (fi := 1) C 16 rfl (by decide) (ceX_140 _ _ _) rfl in_X6 (by decide) rfl w_299 dX6_keep_13 ?_
    refine xx_aload_n C 17 rfl 0 dX6_keep_16 rfl rfl ?_
    refine xx_geti (fi := 5) (j := 5) C 20 rfl (by decide) (ceX_140 _ _ _) rfl in_X6 (by decide) rfl w_307 dX6_keep_17 h (fun v17 h => ?_)
    refine xx_aload_n C 21 rfl 1 dX6_keep_20 rfl rfl ?_
    refine xx_astk C 22 rfl (by decide) (fun row => ceX_143 _ _ row) (by decide) dX6_keep_21 h (fun μ21 h => ?_)
    refine xx_aload_n C 23 rfl 0 dX6_keep_22 rfl rfl ?_
    refine xx_getr (fi := 2) C 26 rfl (by decide) (ceX_140 _ _ _) rfl in_X6 (by decide) rfl w_301 dX6_keep_23 ?_
    refine xx_aload_n C 27 rfl 0 dX6_keep_26 rfl rfl ?_
    refine xx_geti (fi := 5) (j := 5) C 30 rfl (by decide) (ceX_140 _ _ _) rfl in_X6 (by decide) rfl w_307 dX6_keep_27 h (fun v27 h => ?_)
    refine xx_aload_n C 31 rfl 0 dX6_keep_30 rfl rfl ?_
    refine xx_getr (fi := 6) C 34 rfl (by decide) (ceX_140 _ _ _) rfl in_X6 (by decide) rfl w_309 dX6_keep_31 ?_
    refine xx_iconst C 35 rfl dX6_keep_34 ?_
    refine xx_iaload C 36 rfl (by decide) (fun row => ceX_147 _ _ row) (by decide) dX6_keep_35 h (fun v35 h => ?_)
    refine xx_iastore C 37 rfl (by decide) (fun row => ceX_144 _ _ row) (by decide) dX6_keep_36 h (fun μ36 h => ?_)
    refine xx_aload_n C 38 rfl 0 dX6_keep_37 rfl rfl ?_
    refine xx_getr (fi := 3) C 41 rfl (by decide) (ceX_140 _ _ _) rfl in_X6 (by decide) rfl w_303 dX6_keep_38 ?_
    refine xx_aload_n C 42 rfl 0 dX6_keep_41 rfl rfl ?_
    refine xx_geti (fi := 5) (j := 5) C 45 rfl (by decide) (ceX_140 _ _ _) rfl in_X6 (by decide) rfl w_307 dX6_keep_42 h (fun v42 h => ?_)
    refine xx_aload_n C 46 rfl 0 dX6_keep_45 rfl rfl ?_
    refine xx_getr (fi := 6) C 49 rfl (by decide) (ceX_140 _ _ _) rfl in_X6 (by decide) rfl w_309 dX6_keep_46 ?_
    refine xx_iconst C 50 rfl dX6_keep_49 ?_
    refine xx_iaload C 51 rfl (by decide) (fun row => ceX_147 _ _ row) (by decide) dX6_keep_50 h (fun v50 h => ?_)
    refine xx_iastore C 52 rfl (by decide) (fun row => ceX_145 _ _ row) (by decide) dX6_keep_51 h (fun μ51 h => ?_)
    refine xx_aload_n C 53 rfl 0 dX6_keep_52 rfl rfl ?_
    refine xx_getr (fi := 4) C 56 rfl (by decide) (ceX_140 _ _ _) rfl in_X6 (by decide) rfl w_305 dX6_keep_53 ?_
    refine xx_aload_n C 57 rfl 0 dX6_keep_56 rfl rfl ?_
    refine xx_geti (fi := 5) (j := 5) C 60 rfl (by decide) (ceX_140 _ _ _) rfl in_X6 (by decide) rfl w_307 dX6_keep_57 h (fun v57 h => ?_)
    refine xx_aload_n C 61 rfl 0 dX6_keep_60 rfl rfl ?_
    refine xx_getr (fi := 6) C 64 rfl (by decide) (ceX_140 _ _ _) rfl in_X6 (by decide) rfl w_309 dX6_keep_61 ?_
    refine xx_iconst C 65 rfl dX6_keep_64 ?_
    refine xx_iaload C 66 rfl (by decide) (fun row => ceX_147 _ _ row) (by decide) dX6_keep_65 h (fun v65 h => ?_)
    refine xx_iastore C 67 rfl (by decide) (fun row => ceX_146 _ _ row) (by decide) dX6_keep_66 h (fun μ66 h => ?_)
    refine xx_aload_n C 68 rfl 0 dX6_keep_67 rfl rfl ?_
    refine xx_dup C 69 rfl dX6_keep_68 rfl ?_
    refine xx_geti (fi := 5) (j := 5) C 72 rfl (by decide) (ceX_140 _ _ _) rfl in_X6 (by decide) rfl w_307 dX6_keep_69 h (fun v69 h => ?_)
    refine xx_iconst C 73 rfl dX6_keep_72 ?_
    refine xx_iadd C 74 rfl dX6_keep_73 ?_
    refine xx_puti (fi := 5) (j := 5) C 77 rfl (by decide) (ceX_140 _ _ _) (puX_140_5 _ _ _ _) rfl in_X6 tyX6 tyX6_ok nmX6 (by decide) (Nat.le_of_ble_eq_true rfl) ⟨rfl, rfl⟩ w_307 dX6_keep_74 h (fun μ74 h => ?_)
    exact xx_vret C E rfl ⟨Nat.le_of_ble_eq_true rfl, Nat.le_of_ble_eq_true rfl⟩ dX6_keep_77 h

def f_X6_isForNumber (μ : mu_T) (a0 : Int) : Option Int :=
  eq_ a0 35
      (some 1)
      (eq_ a0 36
      (some 1)
      (eq_ a0 64
      (some 1)
      (some 0)))
set_option maxHeartbeats 4000000 in
set_option maxRecDepth 100000 in
theorem c_X6_isForNumber {G : gp_} {ad : Nat → Nat} (μ : mu_T) (a0 : Int) (a : Int) (h : f_X6_isForNumber μ a0 = some a) : mi_ yX6_isForNumber cX6_isForNumber 1 (some .boolean) ({ frames := 0, cells := 0, slots := 0, locals := 0 } : Room) G 151 ad (ceX G ad) [.int (iI a0)] μ a μ := by
  refine mi_in (own := "UrnHeap$Orders") (lv := [(0, .int (iI a0))]) (by decide) rfl rfl (Nat.le_of_ble_eq_true rfl) (fun X C E => ?_)
  unfold f_X6_isForNumber at h
  refine xx_iload_n C 1 rfl 0 dX6_isForNumber_0 rfl rfl ?_
  refine xx_bipush C 3 rfl dX6_isForNumber_1 (by decide) ?_
  refine xx_icmp_eq (tgt := 18) C 6 rfl dX6_isForNumber_3 (by decide) h (fun h => ?_) (fun h => ?_)
  · refine xx_iconst C 19 rfl dX6_isForNumber_18 ?_
    refine xx_goto C 23 dX6_isForNumber_19 (by decide) ?_
    exact xx_zretl C E rfl rfl ⟨Nat.le_of_ble_eq_true rfl, Nat.le_of_ble_eq_true rfl⟩ dX6_isForNumber_23 h
  · refine xx_iload_n C 7 rfl 0 dX6_isForNumber_6 rfl rfl ?_
    refine xx_bipush C 9 rfl dX6_isForNumber_7 (by decide) ?_
    refine xx_icmp_eq (tgt := 18) C 12 rfl dX6_isForNumber_9 (by decide) h (fun h => ?_) (fun h => ?_)
    · refine xx_iconst C 19 rfl dX6_isForNumber_18 ?_
      refine xx_goto C 23 dX6_isForNumber_19 (by decide) ?_
      exact xx_zretl C E rfl rfl ⟨Nat.le_of_ble_eq_true rfl, Nat.le_of_ble_eq_true rfl⟩ dX6_isForNumber_23 h
    · refine xx_iload_n C 13 rfl 0 dX6_isForNumber_12 rfl rfl ?_
      refine xx_bipush C 15 rfl dX6_isForNumber_13 (by decide) ?_
      refine xx_icmp_ne (tgt := 22) C 18 rfl dX6_isForNumber_15 (by decide) h (fun h => ?_) (fun h => ?_)
      · refine xx_iconst C 23 rfl dX6_isForNumber_22 ?_
        exact xx_zretl C E rfl rfl ⟨Nat.le_of_ble_eq_true rfl, Nat.le_of_ble_eq_true rfl⟩ dX6_isForNumber_23 h
      · refine xx_iconst C 19 rfl dX6_isForNumber_18 ?_
        refine xx_goto C 23 dX6_isForNumber_19 (by decide) ?_
        exact xx_zretl C E rfl rfl ⟨Nat.le_of_ble_eq_true rfl, Nat.le_of_ble_eq_true rfl⟩ dX6_isForNumber_23 h

def f_X7_bit (μ : mu_T) (a0 : Int) : Option Int :=
  bd_ (f_X11_isCell μ a0) (fun v1 => eq_ v1 0
      (some 0)
      (some (sl_ 1 a0)))
set_option maxHeartbeats 4000000 in
set_option maxRecDepth 100000 in
theorem c_X7_bit {G : gp_} {ad : Nat → Nat} (μ : mu_T) (a0 : Int) (a : Int) (h : f_X7_bit μ a0 = some a) : mi_ yX7_bit cX7_bit 1 (some .int) ({ frames := 1, cells := 0, slots := 0, locals := 20 } : Room) G 151 ad (ceX G ad) [.int (iI a0)] μ a μ := by
  refine mi_in (own := "UrnHeap$Paths") (lv := [(0, .int (iI a0))]) (by decide) rfl rfl (Nat.le_of_ble_eq_true rfl) (fun X C E => ?_)
  unfold f_X7_bit at h
  refine xx_iload_n C 1 rfl 0 dX7_bit_0 rfl rfl ?_
  refine xx_cNip (As := [.int (iI a0)]) (st := []) C 4 rfl  ca_X11_isCell cs_X11_isCell 9 rfl rfl ⟨Nat.le_of_ble_eq_true rfl, Nat.le_of_ble_eq_true rfl⟩ ⟨Nat.le_of_ble_eq_true rfl, Nat.le_of_ble_eq_true rfl⟩ (Nat.le_of_ble_eq_true rfl) dX7_bit_1 (fun v1 e9 => c_X11_isCell _ _ v1 e9) h (fun v1 h => ?_) rfl
  refine xx_if_eq (tgt := 13) C 7 rfl dX7_bit_4 (by decide) h (fun h => ?_) (fun h => ?_)
  · refine xx_iconst C 14 rfl dX7_bit_13 ?_
    exact xx_iretp C E rfl ⟨Nat.le_of_ble_eq_true rfl, Nat.le_of_ble_eq_true rfl⟩ dX7_bit_14 h
  · refine xx_iconst C 8 rfl dX7_bit_7 ?_
    refine xx_iload_n C 9 rfl 0 dX7_bit_8 rfl rfl ?_
    refine xx_ishl C 10 rfl dX7_bit_9 ?_
    refine xx_goto C 14 dX7_bit_10 (by decide) ?_
    exact xx_iretp C E rfl ⟨Nat.le_of_ble_eq_true rfl, Nat.le_of_ble_eq_true rfl⟩ dX7_bit_14 h

def f_X7_rootsByRite_L4 (a1 : Int) (μ : mu_T) : Nat → Int → Int → Option Int
  | 0, _, _ => none
  | fu4 + 1, x2_4, x3_4 => lt_ x3_4 24
      (bd_ (f_X2_hasUrn μ x3_4) (fun v15 => jn_ (φ := Int → Option Int) (fun x2_41 => nm_ (x3_4 + 1) (fun n41 => (f_X7_rootsByRite_L4 a1 μ fu4) x2_41 n41))
      (fun J41 => eq_ v15 0
      (J41 x2_4)
      (rd_ μ 3 24 x3_4 (fun v29 => eq_ v29 a1
      (bd_ (f_X7_bit μ x3_4) (fun v36 => nm_ ((or_ x2_4 v36)) (fun n40 => J41 n40)))
      (J41 x2_4))))))
      (some x2_4)
def f_X7_rootsByRite (μ : mu_T) (a1 : Int) : Option Int :=
  f_X7_rootsByRite_L4 a1 μ 20000 0 0
set_option maxHeartbeats 4000000 in
set_option maxRecDepth 100000 in
theorem c_X7_rootsByRite {G : gp_} {ad : Nat → Nat} (μ : mu_T) (a1 : Int) (a : Int) (h : f_X7_rootsByRite μ a1 = some a) : mi_ yX7_rootsByRite cX7_rootsByRite 4 (some .int) ({ frames := 2, cells := 0, slots := 0, locals := 40 } : Room) G 151 ad (ceX G ad) [.ref (ad 136), .int (iI a1)] μ a μ := by
  refine mi_in (own := "UrnHeap$Paths") (lv := [(0, .ref (ad 136)), (1, .int (iI a1))]) (by decide) rfl rfl (Nat.le_of_ble_eq_true rfl) (fun X C E => ?_)
  unfold f_X7_rootsByRite at h
  refine xx_iconst C 1 rfl dX7_rootsByRite_0 ?_
  refine xx_istore_n (lv1 := [(2, .int (iI 0)), (0, .ref (ad 136)), (1, .int (iI a1))]) C 2 rfl (by decide) dX7_rootsByRite_1 rfl rfl ?_
  refine xx_iconst C 3 rfl dX7_rootsByRite_2 ?_
  refine xx_istore_n (lv1 := [(3, .int (iI 0)), (2, .int (iI 0)), (0, .ref (ad 136)), (1, .int (iI a1))]) C 4 rfl (by decide) dX7_rootsByRite_3 rfl rfl ?_
  have L4 : ∀ (fu4 : Nat) (x2_4 : Int) (x3_4 : Int), f_X7_rootsByRite_L4 a1 μ fu4 x2_4 x3_4 = some a → wx_ G X 151 ad (ceX G ad) μ 0 0 4 [(0, .ref (ad 136)), (1, .int (iI a1)), (2, .int (iI x2_4)), (3, .int (iI x3_4))] [] := by
    intro fu4
    induction fu4 with
    | zero => intro x2_4 x3_4 h; exact nn_ h
    | succ fu4 K4 =>
      intro x2_4 x3_4 h
      rw [f_X7_rootsByRite_L4] at h
      generalize f_X7_rootsByRite_L4 a1 μ fu4 = R4 at K4 h
      refine xx_iload_n C 5 rfl 3 dX7_rootsByRite_4 rfl rfl ?_
      refine xx_bipush C 7 rfl dX7_rootsByRite_5 (by decide) ?_
      refine xx_icmp_ge (tgt := 47) C 10 rfl dX7_rootsByRite_7 (by decide) h (fun h => ?_) (fun h => ?_)
      · refine xx_iload_n C 48 rfl 2 dX7_rootsByRite_47 rfl rfl ?_
        exact xx_iretp C E rfl ⟨Nat.le_of_ble_eq_true rfl, Nat.le_of_ble_eq_true rfl⟩ dX7_rootsByRite_48 h
      · refine xx_aload_n C 11 rfl 0 dX7_rootsByRite_10 rfl rfl ?_
        refine xx_getr (fi := 0) C 14 rfl (by decide) (ceX_136 _ _ _) rfl in_X7 (by decide) rfl w_221 dX7_rootsByRite_11 ?_
        refine xx_iload_n C 15 rfl 3 dX7_rootsByRite_14 rfl rfl ?_
        refine xx_cVip (As := [.int (iI x3_4)]) (st := []) (o := 0) C 18 rfl (by decide) (ceX_0 _ _ _) rfl rfl ca_X2_hasUrn cv_X2_hasUrn w_1028 rfl ⟨Nat.le_of_ble_eq_true rfl, Nat.le_of_ble_eq_true rfl⟩ ⟨Nat.le_of_ble_eq_true rfl, Nat.le_of_ble_eq_true rfl⟩ (Nat.le_of_ble_eq_true rfl) dX7_rootsByRite_15 (fun v15 e9 => c_X2_hasUrn _ _ v15 e9) h (fun v15 h => ?_) rfl
        refine jn_r (fun J => ∀ (x2_41 : Int), J x2_41 = some a → wx_ G X 151 ad (ceX G ad) μ 0 0 41 [(0, .ref (ad 136)), (1, .int (iI a1)), (2, .int (iI x2_41)), (3, .int (iI x3_4))] []) h (fun x2_41 h => ?_) (fun J41 K41 h => ?_)
        · refine xx_iincn C 44 rfl 3 (by decide) dX7_rootsByRite_41 rfl h (fun n41 h => ?_)
          refine xx_lv (lv1 := [(3, .int (iI n41)), (0, .ref (ad 136)), (1, .int (iI a1)), (2, .int (iI x2_41))]) rfl ?_
          refine xx_goto C 4 dX7_rootsByRite_44 (by decide) ?_
          refine xx_sub [1, 2, 3, 0] rfl ?_
          exact K4 x2_41 n41 h
        · refine xx_if_eq (tgt := 41) C 21 rfl dX7_rootsByRite_18 (by decide) h (fun h => ?_) (fun h => ?_)
          · exact K41 x2_4 h
          · refine xx_aload_n C 22 rfl 0 dX7_rootsByRite_21 rfl rfl ?_
            refine xx_getr (fi := 0) C 25 rfl (by decide) (ceX_136 _ _ _) rfl in_X7 (by decide) rfl w_221 dX7_rootsByRite_22 ?_
            refine xx_getr (fi := 2) C 28 rfl (by decide) (ceX_0 _ _ _) rfl in_X2 (by decide) rfl w_94 dX7_rootsByRite_25 ?_
            refine xx_iload_n C 29 rfl 3 dX7_rootsByRite_28 rfl rfl ?_
            refine xx_iaload C 30 rfl (by decide) (fun row => ceX_3 _ _ row) (by decide) dX7_rootsByRite_29 h (fun v29 h => ?_)
            refine xx_iload_n C 31 rfl 1 dX7_rootsByRite_30 rfl rfl ?_
            refine xx_icmp_ne (tgt := 41) C 34 rfl dX7_rootsByRite_31 (by decide) h (fun h => ?_) (fun h => ?_)
            · exact K41 x2_4 h
            · refine xx_iload_n C 35 rfl 2 dX7_rootsByRite_34 rfl rfl ?_
              refine xx_iload_n C 36 rfl 3 dX7_rootsByRite_35 rfl rfl ?_
              refine xx_cSip (As := [.int (iI x3_4)]) (st := [.int (iI x2_4)]) C 39 rfl  ca_X7_bit cs_X7_bit w_1029 rfl ⟨Nat.le_of_ble_eq_true rfl, Nat.le_of_ble_eq_true rfl⟩ ⟨Nat.le_of_ble_eq_true rfl, Nat.le_of_ble_eq_true rfl⟩ (Nat.le_of_ble_eq_true rfl) dX7_rootsByRite_36 (fun v36 e9 => c_X7_bit _ _ v36 e9) h (fun v36 h => ?_) rfl
              refine xx_ior C 40 rfl dX7_rootsByRite_39 ?_
              refine xx_nm C h (fun n40 h => ?_)
              refine xx_istore_n (lv1 := [(2, .int (iI n40)), (0, .ref (ad 136)), (1, .int (iI a1)), (3, .int (iI x3_4))]) C 41 rfl (by decide) dX7_rootsByRite_40 rfl rfl ?_
              refine xx_sub [1, 2, 0, 3] rfl ?_
              exact K41 n40 h
  refine xx_sub [2, 3, 1, 0] rfl ?_
  exact L4 _ _ _ h

def f_X7_roots_L8 (a1 : Int) (μ : mu_T) : Nat → Int → Int → Option Int
  | 0, _, _ => none
  | fu8 + 1, x2_8, x3_8 => lt_ x3_8 6
      (jn_ (φ := Int → Option Int) (fun x2_34 => nm_ (x3_8 + 1) (fun n34 => (f_X7_roots_L8 a1 μ fu8) x2_34 n34))
      (fun J34 => eq_ x3_8 a1
      (J34 x2_8)
      (rd_ μ 6 6 x3_8 (fun v28 => bd_ (f_X7_bit μ v28) (fun v29 => nm_ ((or_ x2_8 v29)) (fun n33 => J34 n33))))))
      (some x2_8)
def f_X7_roots (μ : mu_T) (a1 : Int) : Option Int :=
  bd_ (f_X7_rootsByRite μ 2) (fun v2 => f_X7_roots_L8 a1 μ 20000 v2 0)
set_option maxHeartbeats 4000000 in
set_option maxRecDepth 100000 in
theorem c_X7_roots {G : gp_} {ad : Nat → Nat} (μ : mu_T) (a1 : Int) (a : Int) (h : f_X7_roots μ a1 = some a) : mi_ yX7_roots cX7_roots 4 (some .int) ({ frames := 3, cells := 0, slots := 0, locals := 63 } : Room) G 151 ad (ceX G ad) [.ref (ad 136), .int (iI a1)] μ a μ := by
  refine mi_in (own := "UrnHeap$Paths") (lv := [(0, .ref (ad 136)), (1, .int (iI a1))]) (by decide) rfl rfl (Nat.le_of_ble_eq_true rfl) (fun X C E => ?_)
  unfold f_X7_roots at h
  refine xx_aload_n C 1 rfl 0 dX7_roots_0 rfl rfl ?_
  refine xx_iconst C 2 rfl dX7_roots_1 ?_
  refine xx_cVip (As := [.int (iI 2)]) (st := []) (o := 136) C 5 rfl (by decide) (ceX_136 _ _ _) rfl rfl ca_X7_rootsByRite cv_X7_rootsByRite w_1024 rfl ⟨Nat.le_of_ble_eq_true rfl, Nat.le_of_ble_eq_true rfl⟩ ⟨Nat.le_of_ble_eq_true rfl, Nat.le_of_ble_eq_true rfl⟩ (Nat.le_of_ble_eq_true rfl) dX7_roots_2 (fun v2 e9 => c_X7_rootsByRite _ _ v2 e9) h (fun v2 h => ?_) rfl
  refine xx_istore_n (lv1 := [(2, .int (iI v2)), (0, .ref (ad 136)), (1, .int (iI a1))]) C 6 rfl (by decide) dX7_roots_5 rfl rfl ?_
  refine xx_iconst C 7 rfl dX7_roots_6 ?_
  refine xx_istore_n (lv1 := [(3, .int (iI 0)), (2, .int (iI v2)), (0, .ref (ad 136)), (1, .int (iI a1))]) C 8 rfl (by decide) dX7_roots_7 rfl rfl ?_
  have L8 : ∀ (fu8 : Nat) (x2_8 : Int) (x3_8 : Int), f_X7_roots_L8 a1 μ fu8 x2_8 x3_8 = some a → wx_ G X 151 ad (ceX G ad) μ 0 0 8 [(0, .ref (ad 136)), (1, .int (iI a1)), (2, .int (iI x2_8)), (3, .int (iI x3_8))] [] := by
    intro fu8
    induction fu8 with
    | zero => intro x2_8 x3_8 h; exact nn_ h
    | succ fu8 K8 =>
      intro x2_8 x3_8 h
      rw [f_X7_roots_L8] at h
      generalize f_X7_roots_L8 a1 μ fu8 = R8 at K8 h
      refine xx_iload_n C 9 rfl 3 dX7_roots_8 rfl rfl ?_
      refine xx_bipush C 11 rfl dX7_roots_9 (by decide) ?_
      refine xx_icmp_ge (tgt := 40) C 14 rfl dX7_roots_11 (by decide) h (fun h => ?_) (fun h => ?_)
      · refine xx_iload_n C 41 rfl 2 dX7_roots_40 rfl rfl ?_
        exact xx_iretp C E rfl ⟨Nat.le_of_ble_eq_true rfl, Nat.le_of_ble_eq_true rfl⟩ dX7_roots_41 h
      · refine xx_iload_n C 15 rfl 3 dX7_roots_14 rfl rfl ?_
        refine xx_iload_n C 16 rfl 1 dX7_roots_15 rfl rfl ?_
        refine jn_r (fun J => ∀ (x2_34 : Int), J x2_34 = some a → wx_ G X 151 ad (ceX G ad) μ 0 0 34 [(0, .ref (ad 136)), (1, .int (iI a1)), (2, .int (iI x2_34)), (3, .int (iI x3_8))] []) h (fun x2_34 h => ?_) (fun J34 K34 h => ?_)
        · refine xx_iincn C 37 rfl 3 (by decide) dX7_roots_34 rfl h (fun n34 h => ?_)
          refine xx_lv (lv1 := [(3, .int (iI n34)), (0, .ref (ad 136)), (1, .int (iI a1)), (2, .int (iI x2_34))]) rfl ?_
          refine xx_goto C 8 dX7_roots_37 (by decide) ?_
          refine xx_sub [1, 2, 3, 0] rfl ?_
          exact K8 x2_34 n34 h
        · refine xx_icmp_eq (tgt := 34) C 19 rfl dX7_roots_16 (by decide) h (fun h => ?_) (fun h => ?_)
          · exact K34 x2_8 h
          · refine xx_iload_n C 20 rfl 2 dX7_roots_19 rfl rfl ?_
            refine xx_aload_n C 21 rfl 0 dX7_roots_20 rfl rfl ?_
            refine xx_getr (fi := 0) C 24 rfl (by decide) (ceX_136 _ _ _) rfl in_X7 (by decide) rfl w_221 dX7_roots_21 ?_
            refine xx_getr (fi := 5) C 27 rfl (by decide) (ceX_0 _ _ _) rfl in_X2 (by decide) rfl w_103 dX7_roots_24 ?_
            refine xx_iload_n C 28 rfl 3 dX7_roots_27 rfl rfl ?_
            refine xx_iaload C 29 rfl (by decide) (fun row => ceX_6 _ _ row) (by decide) dX7_roots_28 h (fun v28 h => ?_)
            refine xx_cSip (As := [.int (iI v28)]) (st := [.int (iI x2_8)]) C 32 rfl  ca_X7_bit cs_X7_bit w_1029 rfl ⟨Nat.le_of_ble_eq_true rfl, Nat.le_of_ble_eq_true rfl⟩ ⟨Nat.le_of_ble_eq_true rfl, Nat.le_of_ble_eq_true rfl⟩ (Nat.le_of_ble_eq_true rfl) dX7_roots_29 (fun v29 e9 => c_X7_bit _ _ v29 e9) h (fun v29 h => ?_) rfl
            refine xx_ior C 33 rfl dX7_roots_32 ?_
            refine xx_nm C h (fun n33 h => ?_)
            refine xx_istore_n (lv1 := [(2, .int (iI n33)), (0, .ref (ad 136)), (1, .int (iI a1)), (3, .int (iI x3_8))]) C 34 rfl (by decide) dX7_roots_33 rfl rfl ?_
            refine xx_sub [1, 2, 0, 3] rfl ?_
            exact K34 n33 h
  refine xx_sub [2, 3, 1, 0] rfl ?_
  exact L8 _ _ _ h

def f_X7_isIn (μ : mu_T) (a0 : Int) (a1 : Int) : Option Int :=
  bd_ (f_X7_bit μ a1) (fun v2 => eq_ (an_ a0 v2) 0
      (some 0)
      (some 1))
set_option maxHeartbeats 4000000 in
set_option maxRecDepth 100000 in
theorem c_X7_isIn {G : gp_} {ad : Nat → Nat} (μ : mu_T) (a0 : Int) (a1 : Int) (a : Int) (h : f_X7_isIn μ a0 a1 = some a) : mi_ yX7_isIn cX7_isIn 2 (some .boolean) ({ frames := 2, cells := 0, slots := 0, locals := 40 } : Room) G 151 ad (ceX G ad) [.int (iI a0), .int (iI a1)] μ a μ := by
  refine mi_in (own := "UrnHeap$Paths") (lv := [(0, .int (iI a0)), (1, .int (iI a1))]) (by decide) rfl rfl (Nat.le_of_ble_eq_true rfl) (fun X C E => ?_)
  unfold f_X7_isIn at h
  refine xx_iload_n C 1 rfl 0 dX7_isIn_0 rfl rfl ?_
  refine xx_iload_n C 2 rfl 1 dX7_isIn_1 rfl rfl ?_
  refine xx_cSip (As := [.int (iI a1)]) (st := [.int (iI a0)]) C 5 rfl  ca_X7_bit cs_X7_bit w_1029 rfl ⟨Nat.le_of_ble_eq_true rfl, Nat.le_of_ble_eq_true rfl⟩ ⟨Nat.le_of_ble_eq_true rfl, Nat.le_of_ble_eq_true rfl⟩ (Nat.le_of_ble_eq_true rfl) dX7_isIn_2 (fun v2 e9 => c_X7_bit _ _ v2 e9) h (fun v2 h => ?_) rfl
  refine xx_iand C 6 rfl dX7_isIn_5 ?_
  refine xx_if_eq (tgt := 13) C 9 rfl dX7_isIn_6 (by decide) h (fun h => ?_) (fun h => ?_)
  · refine xx_iconst C 14 rfl dX7_isIn_13 ?_
    exact xx_zretl C E rfl rfl ⟨Nat.le_of_ble_eq_true rfl, Nat.le_of_ble_eq_true rfl⟩ dX7_isIn_14 h
  · refine xx_iconst C 10 rfl dX7_isIn_9 ?_
    refine xx_goto C 14 dX7_isIn_10 (by decide) ?_
    exact xx_zretl C E rfl rfl ⟨Nat.le_of_ble_eq_true rfl, Nat.le_of_ble_eq_true rfl⟩ dX7_isIn_14 h

def f_X7_targets_L4 (a1 : Int) (μ : mu_T) : Nat → Int → Int → Option Int
  | 0, _, _ => none
  | fu4 + 1, x2_4, x3_4 => lt_ x3_4 4
      (bd_ (f_X2_target μ a1 x3_4) (fun v16 => bd_ (f_X7_bit μ v16) (fun v19 => nm_ ((or_ x2_4 v19)) (fun n23 => nm_ (x3_4 + 1) (fun n24 => (f_X7_targets_L4 a1 μ fu4) n23 n24)))))
      (some x2_4)
def f_X7_targets (μ : mu_T) (a1 : Int) : Option Int :=
  f_X7_targets_L4 a1 μ 20000 0 0
set_option maxHeartbeats 4000000 in
set_option maxRecDepth 100000 in
theorem c_X7_targets {G : gp_} {ad : Nat → Nat} (μ : mu_T) (a1 : Int) (a : Int) (h : f_X7_targets μ a1 = some a) : mi_ yX7_targets cX7_targets 4 (some .int) ({ frames := 2, cells := 0, slots := 0, locals := 42 } : Room) G 151 ad (ceX G ad) [.ref (ad 136), .int (iI a1)] μ a μ := by
  refine mi_in (own := "UrnHeap$Paths") (lv := [(0, .ref (ad 136)), (1, .int (iI a1))]) (by decide) rfl rfl (Nat.le_of_ble_eq_true rfl) (fun X C E => ?_)
  unfold f_X7_targets at h
  refine xx_iconst C 1 rfl dX7_targets_0 ?_
  refine xx_istore_n (lv1 := [(2, .int (iI 0)), (0, .ref (ad 136)), (1, .int (iI a1))]) C 2 rfl (by decide) dX7_targets_1 rfl rfl ?_
  refine xx_iconst C 3 rfl dX7_targets_2 ?_
  refine xx_istore_n (lv1 := [(3, .int (iI 0)), (2, .int (iI 0)), (0, .ref (ad 136)), (1, .int (iI a1))]) C 4 rfl (by decide) dX7_targets_3 rfl rfl ?_
  have L4 : ∀ (fu4 : Nat) (x2_4 : Int) (x3_4 : Int), f_X7_targets_L4 a1 μ fu4 x2_4 x3_4 = some a → wx_ G X 151 ad (ceX G ad) μ 0 0 4 [(0, .ref (ad 136)), (1, .int (iI a1)), (2, .int (iI x2_4)), (3, .int (iI x3_4))] [] := by
    intro fu4
    induction fu4 with
    | zero => intro x2_4 x3_4 h; exact nn_ h
    | succ fu4 K4 =>
      intro x2_4 x3_4 h
      rw [f_X7_targets_L4] at h
      generalize f_X7_targets_L4 a1 μ fu4 = R4 at K4 h
      refine xx_iload_n C 5 rfl 3 dX7_targets_4 rfl rfl ?_
      refine xx_iconst C 6 rfl dX7_targets_5 ?_
      refine xx_icmp_ge (tgt := 30) C 9 rfl dX7_targets_6 (by decide) h (fun h => ?_) (fun h => ?_)
      · refine xx_iload_n C 31 rfl 2 dX7_targets_30 rfl rfl ?_
        exact xx_iretp C E rfl ⟨Nat.le_of_ble_eq_true rfl, Nat.le_of_ble_eq_true rfl⟩ dX7_targets_31 h
      · refine xx_iload_n C 10 rfl 2 dX7_targets_9 rfl rfl ?_
        refine xx_aload_n C 11 rfl 0 dX7_targets_10 rfl rfl ?_
        refine xx_getr (fi := 0) C 14 rfl (by decide) (ceX_136 _ _ _) rfl in_X7 (by decide) rfl w_221 dX7_targets_11 ?_
        refine xx_iload_n C 15 rfl 1 dX7_targets_14 rfl rfl ?_
        refine xx_iload_n C 16 rfl 3 dX7_targets_15 rfl rfl ?_
        refine xx_cVip (As := [.int (iI a1), .int (iI x3_4)]) (st := [.int (iI x2_4)]) (o := 0) C 19 rfl (by decide) (ceX_0 _ _ _) rfl rfl ca_X2_target cv_X2_target w_1048 rfl ⟨Nat.le_of_ble_eq_true rfl, Nat.le_of_ble_eq_true rfl⟩ ⟨Nat.le_of_ble_eq_true rfl, Nat.le_of_ble_eq_true rfl⟩ (Nat.le_of_ble_eq_true rfl) dX7_targets_16 (fun v16 e9 => c_X2_target _ _ _ v16 e9) h (fun v16 h => ?_) rfl
        refine xx_cSip (As := [.int (iI v16)]) (st := [.int (iI x2_4)]) C 22 rfl  ca_X7_bit cs_X7_bit w_1029 rfl ⟨Nat.le_of_ble_eq_true rfl, Nat.le_of_ble_eq_true rfl⟩ ⟨Nat.le_of_ble_eq_true rfl, Nat.le_of_ble_eq_true rfl⟩ (Nat.le_of_ble_eq_true rfl) dX7_targets_19 (fun v19 e9 => c_X7_bit _ _ v19 e9) h (fun v19 h => ?_) rfl
        refine xx_ior C 23 rfl dX7_targets_22 ?_
        refine xx_nm C h (fun n23 h => ?_)
        refine xx_istore_n (lv1 := [(2, .int (iI n23)), (0, .ref (ad 136)), (1, .int (iI a1)), (3, .int (iI x3_4))]) C 24 rfl (by decide) dX7_targets_23 rfl rfl ?_
        refine xx_iincn C 27 rfl 3 (by decide) dX7_targets_24 rfl h (fun n24 h => ?_)
        refine xx_lv (lv1 := [(3, .int (iI n24)), (2, .int (iI n23)), (0, .ref (ad 136)), (1, .int (iI a1))]) rfl ?_
        refine xx_goto C 4 dX7_targets_27 (by decide) ?_
        refine xx_sub [2, 3, 1, 0] rfl ?_
        exact K4 n23 n24 h
  refine xx_sub [2, 3, 1, 0] rfl ?_
  exact L4 _ _ _ h

def f_X7_targetsOfAll_L4 (a1 : Int) (μ : mu_T) : Nat → Int → Int → Option Int
  | 0, _, _ => none
  | fu4 + 1, x2_4, x3_4 => lt_ x3_4 24
      (bd_ (f_X7_isIn μ a1 x3_4) (fun v12 => jn_ (φ := Int → Option Int) (fun x2_26 => nm_ (x3_4 + 1) (fun n26 => (f_X7_targetsOfAll_L4 a1 μ fu4) x2_26 n26))
      (fun J26 => eq_ v12 0
      (J26 x2_4)
      (bd_ (f_X7_targets μ x3_4) (fun v21 => nm_ ((or_ x2_4 v21)) (fun n25 => J26 n25))))))
      (some x2_4)
def f_X7_targetsOfAll (μ : mu_T) (a1 : Int) : Option Int :=
  f_X7_targetsOfAll_L4 a1 μ 20000 0 0
set_option maxHeartbeats 4000000 in
set_option maxRecDepth 100000 in
theorem c_X7_targetsOfAll {G : gp_} {ad : Nat → Nat} (μ : mu_T) (a1 : Int) (a : Int) (h : f_X7_targetsOfAll μ a1 = some a) : mi_ yX7_targetsOfAll cX7_targetsOfAll 4 (some .int) ({ frames := 3, cells := 0, slots := 0, locals := 65 } : Room) G 151 ad (ceX G ad) [.ref (ad 136), .int (iI a1)] μ a μ := by
  refine mi_in (own := "UrnHeap$Paths") (lv := [(0, .ref (ad 136)), (1, .int (iI a1))]) (by decide) rfl rfl (Nat.le_of_ble_eq_true rfl) (fun X C E => ?_)
  unfold f_X7_targetsOfAll at h
  refine xx_iconst C 1 rfl dX7_targetsOfAll_0 ?_
  refine xx_istore_n (lv1 := [(2, .int (iI 0)), (0, .ref (ad 136)), (1, .int (iI a1))]) C 2 rfl (by decide) dX7_targetsOfAll_1 rfl rfl ?_
  refine xx_iconst C 3 rfl dX7_targetsOfAll_2 ?_
  refine xx_istore_n (lv1 := [(3, .int (iI 0)), (2, .int (iI 0)), (0, .ref (ad 136)), (1, .int (iI a1))]) C 4 rfl (by decide) dX7_targetsOfAll_3 rfl rfl ?_
  have L4 : ∀ (fu4 : Nat) (x2_4 : Int) (x3_4 : Int), f_X7_targetsOfAll_L4 a1 μ fu4 x2_4 x3_4 = some a → wx_ G X 151 ad (ceX G ad) μ 0 0 4 [(0, .ref (ad 136)), (1, .int (iI a1)), (2, .int (iI x2_4)), (3, .int (iI x3_4))] [] := by
    intro fu4
    induction fu4 with
    | zero => intro x2_4 x3_4 h; exact nn_ h
    | succ fu4 K4 =>
      intro x2_4 x3_4 h
      rw [f_X7_targetsOfAll_L4] at h
      generalize f_X7_targetsOfAll_L4 a1 μ fu4 = R4 at K4 h
      refine xx_iload_n C 5 rfl 3 dX7_targetsOfAll_4 rfl rfl ?_
      refine xx_bipush C 7 rfl dX7_targetsOfAll_5 (by decide) ?_
      refine xx_icmp_ge (tgt := 32) C 10 rfl dX7_targetsOfAll_7 (by decide) h (fun h => ?_) (fun h => ?_)
      · refine xx_iload_n C 33 rfl 2 dX7_targetsOfAll_32 rfl rfl ?_
        exact xx_iretp C E rfl ⟨Nat.le_of_ble_eq_true rfl, Nat.le_of_ble_eq_true rfl⟩ dX7_targetsOfAll_33 h
      · refine xx_iload_n C 11 rfl 1 dX7_targetsOfAll_10 rfl rfl ?_
        refine xx_iload_n C 12 rfl 3 dX7_targetsOfAll_11 rfl rfl ?_
        refine xx_cSip (As := [.int (iI a1), .int (iI x3_4)]) (st := []) C 15 rfl  ca_X7_isIn cs_X7_isIn w_1041 rfl ⟨Nat.le_of_ble_eq_true rfl, Nat.le_of_ble_eq_true rfl⟩ ⟨Nat.le_of_ble_eq_true rfl, Nat.le_of_ble_eq_true rfl⟩ (Nat.le_of_ble_eq_true rfl) dX7_targetsOfAll_12 (fun v12 e9 => c_X7_isIn _ _ _ v12 e9) h (fun v12 h => ?_) rfl
        refine jn_r (fun J => ∀ (x2_26 : Int), J x2_26 = some a → wx_ G X 151 ad (ceX G ad) μ 0 0 26 [(0, .ref (ad 136)), (1, .int (iI a1)), (2, .int (iI x2_26)), (3, .int (iI x3_4))] []) h (fun x2_26 h => ?_) (fun J26 K26 h => ?_)
        · refine xx_iincn C 29 rfl 3 (by decide) dX7_targetsOfAll_26 rfl h (fun n26 h => ?_)
          refine xx_lv (lv1 := [(3, .int (iI n26)), (0, .ref (ad 136)), (1, .int (iI a1)), (2, .int (iI x2_26))]) rfl ?_
          refine xx_goto C 4 dX7_targetsOfAll_29 (by decide) ?_
          refine xx_sub [1, 2, 3, 0] rfl ?_
          exact K4 x2_26 n26 h
        · refine xx_if_eq (tgt := 26) C 18 rfl dX7_targetsOfAll_15 (by decide) h (fun h => ?_) (fun h => ?_)
          · exact K26 x2_4 h
          · refine xx_iload_n C 19 rfl 2 dX7_targetsOfAll_18 rfl rfl ?_
            refine xx_aload_n C 20 rfl 0 dX7_targetsOfAll_19 rfl rfl ?_
            refine xx_iload_n C 21 rfl 3 dX7_targetsOfAll_20 rfl rfl ?_
            refine xx_cVip (As := [.int (iI x3_4)]) (st := [.int (iI x2_4)]) (o := 136) C 24 rfl (by decide) (ceX_136 _ _ _) rfl rfl ca_X7_targets cv_X7_targets w_1044 rfl ⟨Nat.le_of_ble_eq_true rfl, Nat.le_of_ble_eq_true rfl⟩ ⟨Nat.le_of_ble_eq_true rfl, Nat.le_of_ble_eq_true rfl⟩ (Nat.le_of_ble_eq_true rfl) dX7_targetsOfAll_21 (fun v21 e9 => c_X7_targets _ _ v21 e9) h (fun v21 h => ?_) rfl
            refine xx_ior C 25 rfl dX7_targetsOfAll_24 ?_
            refine xx_nm C h (fun n25 h => ?_)
            refine xx_istore_n (lv1 := [(2, .int (iI n25)), (0, .ref (ad 136)), (1, .int (iI a1)), (3, .int (iI x3_4))]) C 26 rfl (by decide) dX7_targetsOfAll_25 rfl rfl ?_
            refine xx_sub [1, 2, 0, 3] rfl ?_
            exact K26 n25 h
  refine xx_sub [2, 3, 1, 0] rfl ?_
  exact L4 _ _ _ h

def f_X7_reachFrom_L7 (μ : mu_T) : Nat → Int → Int → Int → Option Int
  | 0, _, _, _ => none
  | fu7 + 1, x2_7, x3_7, x4_7 => lt_ x4_7 24
      (eq_ x3_7 0
      (some x2_7)
      (bd_ (f_X7_targetsOfAll μ x3_7) (fun v20 => nm_ ((an_ v20 (xo_ x2_7 (-1)))) (fun n27 => nm_ ((or_ x2_7 n27)) (fun n31 => nm_ (x4_7 + 1) (fun n32 => (f_X7_reachFrom_L7 μ fu7) n31 n27 n32))))))
      (some x2_7)
def f_X7_reachFrom (μ : mu_T) (a1 : Int) : Option Int :=
  f_X7_reachFrom_L7 μ 20000 a1 a1 0
set_option maxHeartbeats 4000000 in
set_option maxRecDepth 100000 in
theorem c_X7_reachFrom {G : gp_} {ad : Nat → Nat} (μ : mu_T) (a1 : Int) (a : Int) (h : f_X7_reachFrom μ a1 = some a) : mi_ yX7_reachFrom cX7_reachFrom 5 (some .int) ({ frames := 4, cells := 0, slots := 0, locals := 88 } : Room) G 151 ad (ceX G ad) [.ref (ad 136), .int (iI a1)] μ a μ := by
  refine mi_in (own := "UrnHeap$Paths") (lv := [(0, .ref (ad 136)), (1, .int (iI a1))]) (by decide) rfl rfl (Nat.le_of_ble_eq_true rfl) (fun X C E => ?_)
  unfold f_X7_reachFrom at h
  refine xx_iload_n C 1 rfl 1 dX7_reachFrom_0 rfl rfl ?_
  refine xx_istore_n (lv1 := [(2, .int (iI a1)), (0, .ref (ad 136)), (1, .int (iI a1))]) C 2 rfl (by decide) dX7_reachFrom_1 rfl rfl ?_
  refine xx_iload_n C 3 rfl 2 dX7_reachFrom_2 rfl rfl ?_
  refine xx_istore_n (lv1 := [(3, .int (iI a1)), (2, .int (iI a1)), (0, .ref (ad 136)), (1, .int (iI a1))]) C 4 rfl (by decide) dX7_reachFrom_3 rfl rfl ?_
  refine xx_iconst C 5 rfl dX7_reachFrom_4 ?_
  refine xx_istore (lv1 := [(4, .int (iI 0)), (3, .int (iI a1)), (2, .int (iI a1)), (0, .ref (ad 136)), (1, .int (iI a1))]) C 7 rfl (by decide) dX7_reachFrom_5 rfl ?_
  have L7 : ∀ (fu7 : Nat) (x2_7 : Int) (x3_7 : Int) (x4_7 : Int), f_X7_reachFrom_L7 μ fu7 x2_7 x3_7 x4_7 = some a → wx_ G X 151 ad (ceX G ad) μ 0 0 7 [(0, .ref (ad 136)), (2, .int (iI x2_7)), (3, .int (iI x3_7)), (4, .int (iI x4_7))] [] := by
    intro fu7
    induction fu7 with
    | zero => intro x2_7 x3_7 x4_7 h; exact nn_ h
    | succ fu7 K7 =>
      intro x2_7 x3_7 x4_7 h
      rw [f_X7_reachFrom_L7] at h
      generalize f_X7_reachFrom_L7 μ fu7 = R7 at K7 h
      refine xx_iload C 9 rfl 3 dX7_reachFrom_7 rfl ?_
      refine xx_bipush C 11 rfl dX7_reachFrom_9 (by decide) ?_
      refine xx_icmp_ge (tgt := 38) C 14 rfl dX7_reachFrom_11 (by decide) h (fun h => ?_) (fun h => ?_)
      · refine xx_iload_n C 39 rfl 1 dX7_reachFrom_38 rfl rfl ?_
        exact xx_iretp C E rfl ⟨Nat.le_of_ble_eq_true rfl, Nat.le_of_ble_eq_true rfl⟩ dX7_reachFrom_39 h
      · refine xx_iload_n C 15 rfl 2 dX7_reachFrom_14 rfl rfl ?_
        refine xx_if_eq (tgt := 38) C 18 rfl dX7_reachFrom_15 (by decide) h (fun h => ?_) (fun h => ?_)
        · refine xx_iload_n C 39 rfl 1 dX7_reachFrom_38 rfl rfl ?_
          exact xx_iretp C E rfl ⟨Nat.le_of_ble_eq_true rfl, Nat.le_of_ble_eq_true rfl⟩ dX7_reachFrom_39 h
        · refine xx_aload_n C 19 rfl 0 dX7_reachFrom_18 rfl rfl ?_
          refine xx_iload_n C 20 rfl 2 dX7_reachFrom_19 rfl rfl ?_
          refine xx_cVip (As := [.int (iI x3_7)]) (st := []) (o := 136) C 23 rfl (by decide) (ceX_136 _ _ _) rfl rfl ca_X7_targetsOfAll cv_X7_targetsOfAll w_1037 rfl ⟨Nat.le_of_ble_eq_true rfl, Nat.le_of_ble_eq_true rfl⟩ ⟨Nat.le_of_ble_eq_true rfl, Nat.le_of_ble_eq_true rfl⟩ (Nat.le_of_ble_eq_true rfl) dX7_reachFrom_20 (fun v20 e9 => c_X7_targetsOfAll _ _ v20 e9) h (fun v20 h => ?_) rfl
          refine xx_iload_n C 24 rfl 1 dX7_reachFrom_23 rfl rfl ?_
          refine xx_iconst C 25 rfl dX7_reachFrom_24 ?_
          refine xx_ixor C 26 rfl dX7_reachFrom_25 ?_
          refine xx_iand C 27 rfl dX7_reachFrom_26 ?_
          refine xx_nm C h (fun n27 h => ?_)
          refine xx_istore_n (lv1 := [(3, .int (iI n27)), (0, .ref (ad 136)), (2, .int (iI x2_7)), (4, .int (iI x4_7))]) C 28 rfl (by decide) dX7_reachFrom_27 rfl rfl ?_
          refine xx_iload_n C 29 rfl 2 dX7_reachFrom_28 rfl rfl ?_
          refine xx_iload_n C 30 rfl 0 dX7_reachFrom_29 rfl rfl ?_
          refine xx_ior C 31 rfl dX7_reachFrom_30 ?_
          refine xx_nm C h (fun n31 h => ?_)
          refine xx_istore_n (lv1 := [(2, .int (iI n31)), (3, .int (iI n27)), (0, .ref (ad 136)), (4, .int (iI x4_7))]) C 32 rfl (by decide) dX7_reachFrom_31 rfl rfl ?_
          refine xx_iincn C 35 rfl 3 (by decide) dX7_reachFrom_32 rfl h (fun n32 h => ?_)
          refine xx_lv (lv1 := [(4, .int (iI n32)), (2, .int (iI n31)), (3, .int (iI n27)), (0, .ref (ad 136))]) rfl ?_
          refine xx_goto C 7 dX7_reachFrom_35 (by decide) ?_
          refine xx_sub [3, 1, 2, 0] rfl ?_
          exact K7 n31 n27 n32 h
  refine xx_sub [3, 2, 1, 0] rfl ?_
  exact L7 _ _ _ _ h

def f_X7_reach (μ : mu_T)  : Option Int :=
  bd_ (f_X7_roots μ (-15)) (fun v4 => bd_ (f_X7_reachFrom μ v4) (fun v7 => some v7))
set_option maxHeartbeats 4000000 in
set_option maxRecDepth 100000 in
theorem c_X7_reach {G : gp_} {ad : Nat → Nat} (μ : mu_T)  (a : Int) (h : f_X7_reach μ  = some a) : mi_ yX7_reach cX7_reach 1 (some .int) ({ frames := 5, cells := 0, slots := 0, locals := 112 } : Room) G 151 ad (ceX G ad) [.ref (ad 136)] μ a μ := by
  refine mi_in (own := "UrnHeap$Paths") (lv := [(0, .ref (ad 136))]) (by decide) rfl rfl (Nat.le_of_ble_eq_true rfl) (fun X C E => ?_)
  unfold f_X7_reach at h
  refine xx_aload_n C 1 rfl 0 dX7_reach_0 rfl rfl ?_
  refine xx_aload_n C 2 rfl 0 dX7_reach_1 rfl rfl ?_
  refine xx_bipush C 4 rfl dX7_reach_2 (by decide) ?_
  refine xx_cVip (As := [.int (iI (-15))]) (st := [.ref (ad 136)]) (o := 136) C 7 rfl (by decide) (ceX_136 _ _ _) rfl rfl ca_X7_roots cv_X7_roots w_1020 rfl ⟨Nat.le_of_ble_eq_true rfl, Nat.le_of_ble_eq_true rfl⟩ ⟨Nat.le_of_ble_eq_true rfl, Nat.le_of_ble_eq_true rfl⟩ (Nat.le_of_ble_eq_true rfl) dX7_reach_4 (fun v4 e9 => c_X7_roots _ _ v4 e9) h (fun v4 h => ?_) rfl
  refine xx_cVip (As := [.int (iI v4)]) (st := []) (o := 136) C 10 rfl (by decide) (ceX_136 _ _ _) rfl rfl ca_X7_reachFrom cv_X7_reachFrom w_1033 rfl ⟨Nat.le_of_ble_eq_true rfl, Nat.le_of_ble_eq_true rfl⟩ ⟨Nat.le_of_ble_eq_true rfl, Nat.le_of_ble_eq_true rfl⟩ (Nat.le_of_ble_eq_true rfl) dX7_reach_7 (fun v7 e9 => c_X7_reachFrom _ _ v7 e9) h (fun v7 h => ?_) rfl
  exact xx_iretp C E rfl ⟨Nat.le_of_ble_eq_true rfl, Nat.le_of_ble_eq_true rfl⟩ dX7_reach_10 h

def f_X7_isHeldBySome_L2 (a1 : Int) (a2 : Int) (μ : mu_T) : Nat → Int → Option Int
  | 0, _ => none
  | fu2 + 1, x3_2 => lt_ x3_2 96
      (rd_ μ 1 96 x3_2 (fun v22 => jn_ (φ := Unit → Option Int) (fun _ => nm_ (x3_2 + 1) (fun n39 => (f_X7_isHeldBySome_L2 a1 a2 μ fu2) n39))
      (fun J39 => eq_ v22 a2
      (dv_ x3_2 4 (fun v30 => bd_ (f_X7_isIn μ a1 v30) (fun v31 => eq_ v31 0
      (J39 ())
      (some 1))))
      (J39 ()))))
      (some 0)
def f_X7_isHeldBySome (μ : mu_T) (a1 : Int) (a2 : Int) : Option Int :=
  f_X7_isHeldBySome_L2 a1 a2 μ 20000 0
set_option maxHeartbeats 4000000 in
set_option maxRecDepth 100000 in
theorem c_X7_isHeldBySome {G : gp_} {ad : Nat → Nat} (μ : mu_T) (a1 : Int) (a2 : Int) (a : Int) (h : f_X7_isHeldBySome μ a1 a2 = some a) : mi_ yX7_isHeldBySome cX7_isHeldBySome 4 (some .boolean) ({ frames := 3, cells := 0, slots := 0, locals := 61 } : Room) G 151 ad (ceX G ad) [.ref (ad 136), .int (iI a1), .int (iI a2)] μ a μ := by
  refine mi_in (own := "UrnHeap$Paths") (lv := [(0, .ref (ad 136)), (1, .int (iI a1)), (2, .int (iI a2))]) (by decide) rfl rfl (Nat.le_of_ble_eq_true rfl) (fun X C E => ?_)
  unfold f_X7_isHeldBySome at h
  refine xx_iconst C 1 rfl dX7_isHeldBySome_0 ?_
  refine xx_istore_n (lv1 := [(3, .int (iI 0)), (0, .ref (ad 136)), (1, .int (iI a1)), (2, .int (iI a2))]) C 2 rfl (by decide) dX7_isHeldBySome_1 rfl rfl ?_
  have L2 : ∀ (fu2 : Nat) (x3_2 : Int), f_X7_isHeldBySome_L2 a1 a2 μ fu2 x3_2 = some a → wx_ G X 151 ad (ceX G ad) μ 0 0 2 [(0, .ref (ad 136)), (1, .int (iI a1)), (2, .int (iI a2)), (3, .int (iI x3_2))] [] := by
    intro fu2
    induction fu2 with
    | zero => intro x3_2 h; exact nn_ h
    | succ fu2 K2 =>
      intro x3_2 h
      rw [f_X7_isHeldBySome_L2] at h
      generalize f_X7_isHeldBySome_L2 a1 a2 μ fu2 = R2 at K2 h
      refine xx_iload_n C 3 rfl 3 dX7_isHeldBySome_2 rfl rfl ?_
      refine xx_aload_n C 4 rfl 0 dX7_isHeldBySome_3 rfl rfl ?_
      refine xx_getr (fi := 0) C 7 rfl (by decide) (ceX_136 _ _ _) rfl in_X7 (by decide) rfl w_221 dX7_isHeldBySome_4 ?_
      refine xx_getr (fi := 0) C 10 rfl (by decide) (ceX_0 _ _ _) rfl in_X2 (by decide) rfl w_85 dX7_isHeldBySome_7 ?_
      refine xx_alen (nA := 96) C 11 rfl (by decide) (fun row => ceX_1 _ _ row) dX7_isHeldBySome_10 ?_
      refine xx_icmp_ge (tgt := 45) C 14 rfl dX7_isHeldBySome_11 (by decide) h (fun h => ?_) (fun h => ?_)
      · refine xx_iconst C 46 rfl dX7_isHeldBySome_45 ?_
        exact xx_zretl C E rfl rfl ⟨Nat.le_of_ble_eq_true rfl, Nat.le_of_ble_eq_true rfl⟩ dX7_isHeldBySome_46 h
      · refine xx_aload_n C 15 rfl 0 dX7_isHeldBySome_14 rfl rfl ?_
        refine xx_getr (fi := 0) C 18 rfl (by decide) (ceX_136 _ _ _) rfl in_X7 (by decide) rfl w_221 dX7_isHeldBySome_15 ?_
        refine xx_getr (fi := 0) C 21 rfl (by decide) (ceX_0 _ _ _) rfl in_X2 (by decide) rfl w_85 dX7_isHeldBySome_18 ?_
        refine xx_iload_n C 22 rfl 3 dX7_isHeldBySome_21 rfl rfl ?_
        refine xx_iaload C 23 rfl (by decide) (fun row => ceX_1 _ _ row) (by decide) dX7_isHeldBySome_22 h (fun v22 h => ?_)
        refine xx_iload_n C 24 rfl 2 dX7_isHeldBySome_23 rfl rfl ?_
        refine jn_r (fun J => ∀ (_u : Unit), J _u = some a → wx_ G X 151 ad (ceX G ad) μ 0 0 39 [(0, .ref (ad 136)), (1, .int (iI a1)), (2, .int (iI a2)), (3, .int (iI x3_2))] []) h (fun _ h => ?_) (fun J39 K39 h => ?_)
        · refine xx_iincn C 42 rfl 3 (by decide) dX7_isHeldBySome_39 rfl h (fun n39 h => ?_)
          refine xx_lv (lv1 := [(3, .int (iI n39)), (0, .ref (ad 136)), (1, .int (iI a1)), (2, .int (iI a2))]) rfl ?_
          refine xx_goto C 2 dX7_isHeldBySome_42 (by decide) ?_
          refine xx_sub [1, 2, 3, 0] rfl ?_
          exact K2 n39 h
        · refine xx_icmp_ne (tgt := 39) C 27 rfl dX7_isHeldBySome_24 (by decide) h (fun h => ?_) (fun h => ?_)
          · exact K39 () h
          · refine xx_iload_n C 28 rfl 1 dX7_isHeldBySome_27 rfl rfl ?_
            refine xx_iload_n C 29 rfl 3 dX7_isHeldBySome_28 rfl rfl ?_
            refine xx_iconst C 30 rfl dX7_isHeldBySome_29 ?_
            refine xx_idiv C 31 rfl dX7_isHeldBySome_30 h (fun v30 h => ?_)
            refine xx_cSip (As := [.int (iI a1), .int (iI v30)]) (st := []) C 34 rfl  ca_X7_isIn cs_X7_isIn w_1041 rfl ⟨Nat.le_of_ble_eq_true rfl, Nat.le_of_ble_eq_true rfl⟩ ⟨Nat.le_of_ble_eq_true rfl, Nat.le_of_ble_eq_true rfl⟩ (Nat.le_of_ble_eq_true rfl) dX7_isHeldBySome_31 (fun v31 e9 => c_X7_isIn _ _ _ v31 e9) h (fun v31 h => ?_) rfl
            refine xx_if_eq (tgt := 39) C 37 rfl dX7_isHeldBySome_34 (by decide) h (fun h => ?_) (fun h => ?_)
            · exact K39 () h
            · refine xx_iconst C 38 rfl dX7_isHeldBySome_37 ?_
              exact xx_zretl C E rfl rfl ⟨Nat.le_of_ble_eq_true rfl, Nat.le_of_ble_eq_true rfl⟩ dX7_isHeldBySome_38 h
  refine xx_sub [1, 2, 3, 0] rfl ?_
  exact L2 _ _ h

def f_X7_reachUrnByUrn_L26 (J68 : Int → Int → Option Int) (μ : mu_T) : Nat → Int → Int → Int → Option Int
  | 0, _, _, _ => none
  | fu26 + 1, x1_26, x2_26, x4_26 => lt_ x4_26 24
      (bd_ (f_X7_isIn μ x1_26 x4_26) (fun v36 => jn_ (φ := Int → Int → Option Int) (fun x1_62 x2_62 => nm_ (x4_26 + 1) (fun n62 => (f_X7_reachUrnByUrn_L26 J68 μ fu26) x1_62 x2_62 n62))
      (fun J62 => eq_ v36 0
      (bd_ (f_X7_isHeldBySome μ x1_26 x4_26) (fun v46 => eq_ v46 0
      (J62 x1_26 x2_26)
      (bd_ (f_X7_bit μ x4_26) (fun v55 => nm_ ((or_ x1_26 v55)) (fun n59 => J62 n59 1)))))
      (J62 x1_26 x2_26))))
      (J68 x1_26 x2_26)
def f_X7_reachUrnByUrn_L11 (μ : mu_T) : Nat → Int → Int → Int → Option Int
  | 0, _, _, _ => none
  | fu11 + 1, x1_11, x2_11, x3_11 => lt_ 24 x3_11
      (some x1_11)
      (eq_ x2_11 0
      (some x1_11)
      (jn_ (φ := Int → Int → Option Int) (fun x1_68 x2_68 => nm_ (x3_11 + 1) (fun n68 => (f_X7_reachUrnByUrn_L11 μ fu11) x1_68 x2_68 n68))
      (fun J68 => f_X7_reachUrnByUrn_L26 J68 μ 20000 x1_11 0 0)))
def f_X7_reachUrnByUrn (μ : mu_T)  : Option Int :=
  bd_ (f_X7_roots μ (-15)) (fun v3 => f_X7_reachUrnByUrn_L11 μ 20000 v3 1 0)
set_option maxHeartbeats 4000000 in
set_option maxRecDepth 100000 in
theorem c_X7_reachUrnByUrn {G : gp_} {ad : Nat → Nat} (μ : mu_T)  (a : Int) (h : f_X7_reachUrnByUrn μ  = some a) : mi_ yX7_reachUrnByUrn cX7_reachUrnByUrn 5 (some .int) ({ frames := 4, cells := 0, slots := 0, locals := 86 } : Room) G 151 ad (ceX G ad) [.ref (ad 136)] μ a μ := by
  refine mi_in (own := "UrnHeap$Paths") (lv := [(0, .ref (ad 136))]) (by decide) rfl rfl (Nat.le_of_ble_eq_true rfl) (fun X C E => ?_)
  unfold f_X7_reachUrnByUrn at h
  refine xx_aload_n C 1 rfl 0 dX7_reachUrnByUrn_0 rfl rfl ?_
  refine xx_bipush C 3 rfl dX7_reachUrnByUrn_1 (by decide) ?_
  refine xx_cVip (As := [.int (iI (-15))]) (st := []) (o := 136) C 6 rfl (by decide) (ceX_136 _ _ _) rfl rfl ca_X7_roots cv_X7_roots w_1020 rfl ⟨Nat.le_of_ble_eq_true rfl, Nat.le_of_ble_eq_true rfl⟩ ⟨Nat.le_of_ble_eq_true rfl, Nat.le_of_ble_eq_true rfl⟩ (Nat.le_of_ble_eq_true rfl) dX7_reachUrnByUrn_3 (fun v3 e9 => c_X7_roots _ _ v3 e9) h (fun v3 h => ?_) rfl
  refine xx_istore_n (lv1 := [(1, .int (iI v3)), (0, .ref (ad 136))]) C 7 rfl (by decide) dX7_reachUrnByUrn_6 rfl rfl ?_
  refine xx_iconst C 8 rfl dX7_reachUrnByUrn_7 ?_
  refine xx_istore_n (lv1 := [(2, .int (iI 1)), (1, .int (iI v3)), (0, .ref (ad 136))]) C 9 rfl (by decide) dX7_reachUrnByUrn_8 rfl rfl ?_
  refine xx_iconst C 10 rfl dX7_reachUrnByUrn_9 ?_
  refine xx_istore_n (lv1 := [(3, .int (iI 0)), (2, .int (iI 1)), (1, .int (iI v3)), (0, .ref (ad 136))]) C 11 rfl (by decide) dX7_reachUrnByUrn_10 rfl rfl ?_
  have L11 : ∀ (fu11 : Nat) (x1_11 : Int) (x2_11 : Int) (x3_11 : Int), f_X7_reachUrnByUrn_L11 μ fu11 x1_11 x2_11 x3_11 = some a → wx_ G X 151 ad (ceX G ad) μ 0 0 11 [(0, .ref (ad 136)), (1, .int (iI x1_11)), (2, .int (iI x2_11)), (3, .int (iI x3_11))] [] := by
    intro fu11
    induction fu11 with
    | zero => intro x1_11 x2_11 x3_11 h; exact nn_ h
    | succ fu11 K11 =>
      intro x1_11 x2_11 x3_11 h
      rw [f_X7_reachUrnByUrn_L11] at h
      generalize f_X7_reachUrnByUrn_L11 μ fu11 = R11 at K11 h
      refine xx_iload_n C 12 rfl 3 dX7_reachUrnByUrn_11 rfl rfl ?_
      refine xx_bipush C 14 rfl dX7_reachUrnByUrn_12 (by decide) ?_
      refine xx_icmp_gt (tgt := 74) C 17 rfl dX7_reachUrnByUrn_14 (by decide) h (fun h => ?_) (fun h => ?_)
      · refine xx_iload_n C 75 rfl 1 dX7_reachUrnByUrn_74 rfl rfl ?_
        exact xx_iretp C E rfl ⟨Nat.le_of_ble_eq_true rfl, Nat.le_of_ble_eq_true rfl⟩ dX7_reachUrnByUrn_75 h
      · refine xx_iload_n C 18 rfl 2 dX7_reachUrnByUrn_17 rfl rfl ?_
        refine xx_if_eq (tgt := 74) C 21 rfl dX7_reachUrnByUrn_18 (by decide) h (fun h => ?_) (fun h => ?_)
        · refine xx_iload_n C 75 rfl 1 dX7_reachUrnByUrn_74 rfl rfl ?_
          exact xx_iretp C E rfl ⟨Nat.le_of_ble_eq_true rfl, Nat.le_of_ble_eq_true rfl⟩ dX7_reachUrnByUrn_75 h
        · refine xx_iconst C 22 rfl dX7_reachUrnByUrn_21 ?_
          refine xx_istore_n (lv1 := [(2, .int (iI 0)), (0, .ref (ad 136)), (1, .int (iI x1_11)), (3, .int (iI x3_11))]) C 23 rfl (by decide) dX7_reachUrnByUrn_22 rfl rfl ?_
          refine xx_iconst C 24 rfl dX7_reachUrnByUrn_23 ?_
          refine xx_istore (lv1 := [(4, .int (iI 0)), (2, .int (iI 0)), (0, .ref (ad 136)), (1, .int (iI x1_11)), (3, .int (iI x3_11))]) C 26 rfl (by decide) dX7_reachUrnByUrn_24 rfl ?_
          refine jn_r (fun J => ∀ (x1_68 : Int) (x2_68 : Int), J x1_68 x2_68 = some a → wx_ G X 151 ad (ceX G ad) μ 0 0 68 [(0, .ref (ad 136)), (1, .int (iI x1_68)), (2, .int (iI x2_68)), (3, .int (iI x3_11))] []) h (fun x1_68 x2_68 h => ?_) (fun J68 K68 h => ?_)
          · refine xx_iincn C 71 rfl 3 (by decide) dX7_reachUrnByUrn_68 rfl h (fun n68 h => ?_)
            refine xx_lv (lv1 := [(3, .int (iI n68)), (0, .ref (ad 136)), (1, .int (iI x1_68)), (2, .int (iI x2_68))]) rfl ?_
            refine xx_goto C 11 dX7_reachUrnByUrn_71 (by decide) ?_
            refine xx_sub [1, 2, 3, 0] rfl ?_
            exact K11 x1_68 x2_68 n68 h
          · have L26 : ∀ (fu26 : Nat) (x1_26 : Int) (x2_26 : Int) (x4_26 : Int), f_X7_reachUrnByUrn_L26 J68 μ fu26 x1_26 x2_26 x4_26 = some a → wx_ G X 151 ad (ceX G ad) μ 0 0 26 [(0, .ref (ad 136)), (1, .int (iI x1_26)), (2, .int (iI x2_26)), (3, .int (iI x3_11)), (4, .int (iI x4_26))] [] := by
              intro fu26
              induction fu26 with
              | zero => intro x1_26 x2_26 x4_26 h; exact nn_ h
              | succ fu26 K26 =>
                intro x1_26 x2_26 x4_26 h
                rw [f_X7_reachUrnByUrn_L26] at h
                generalize f_X7_reachUrnByUrn_L26 J68 μ fu26 = R26 at K26 h
                refine xx_iload C 28 rfl 4 dX7_reachUrnByUrn_26 rfl ?_
                refine xx_bipush C 30 rfl dX7_reachUrnByUrn_28 (by decide) ?_
                refine xx_icmp_ge (tgt := 68) C 33 rfl dX7_reachUrnByUrn_30 (by decide) h (fun h => ?_) (fun h => ?_)
                · refine xx_sub [0, 1, 2, 3] rfl ?_
                  exact K68 x1_26 x2_26 h
                · refine xx_iload_n C 34 rfl 1 dX7_reachUrnByUrn_33 rfl rfl ?_
                  refine xx_iload C 36 rfl 4 dX7_reachUrnByUrn_34 rfl ?_
                  refine xx_cSip (As := [.int (iI x1_26), .int (iI x4_26)]) (st := []) C 39 rfl  ca_X7_isIn cs_X7_isIn w_1041 rfl ⟨Nat.le_of_ble_eq_true rfl, Nat.le_of_ble_eq_true rfl⟩ ⟨Nat.le_of_ble_eq_true rfl, Nat.le_of_ble_eq_true rfl⟩ (Nat.le_of_ble_eq_true rfl) dX7_reachUrnByUrn_36 (fun v36 e9 => c_X7_isIn _ _ _ v36 e9) h (fun v36 h => ?_) rfl
                  refine jn_r (fun J => ∀ (x1_62 : Int) (x2_62 : Int), J x1_62 x2_62 = some a → wx_ G X 151 ad (ceX G ad) μ 0 0 62 [(0, .ref (ad 136)), (1, .int (iI x1_62)), (2, .int (iI x2_62)), (3, .int (iI x3_11)), (4, .int (iI x4_26))] []) h (fun x1_62 x2_62 h => ?_) (fun J62 K62 h => ?_)
                  · refine xx_iincn C 65 rfl 4 (by decide) dX7_reachUrnByUrn_62 rfl h (fun n62 h => ?_)
                    refine xx_lv (lv1 := [(4, .int (iI n62)), (0, .ref (ad 136)), (1, .int (iI x1_62)), (2, .int (iI x2_62)), (3, .int (iI x3_11))]) rfl ?_
                    refine xx_goto C 26 dX7_reachUrnByUrn_65 (by decide) ?_
                    refine xx_sub [1, 2, 3, 4, 0] rfl ?_
                    exact K26 x1_62 x2_62 n62 h
                  · refine xx_if_ne (tgt := 62) C 42 rfl dX7_reachUrnByUrn_39 (by decide) h (fun h => ?_) (fun h => ?_)
                    · exact K62 x1_26 x2_26 h
                    · refine xx_aload_n C 43 rfl 0 dX7_reachUrnByUrn_42 rfl rfl ?_
                      refine xx_iload_n C 44 rfl 1 dX7_reachUrnByUrn_43 rfl rfl ?_
                      refine xx_iload C 46 rfl 4 dX7_reachUrnByUrn_44 rfl ?_
                      refine xx_cVip (As := [.int (iI x1_26), .int (iI x4_26)]) (st := []) (o := 136) C 49 rfl (by decide) (ceX_136 _ _ _) rfl rfl ca_X7_isHeldBySome cv_X7_isHeldBySome w_1108 rfl ⟨Nat.le_of_ble_eq_true rfl, Nat.le_of_ble_eq_true rfl⟩ ⟨Nat.le_of_ble_eq_true rfl, Nat.le_of_ble_eq_true rfl⟩ (Nat.le_of_ble_eq_true rfl) dX7_reachUrnByUrn_46 (fun v46 e9 => c_X7_isHeldBySome _ _ _ v46 e9) h (fun v46 h => ?_) rfl
                      refine xx_if_eq (tgt := 62) C 52 rfl dX7_reachUrnByUrn_49 (by decide) h (fun h => ?_) (fun h => ?_)
                      · exact K62 x1_26 x2_26 h
                      · refine xx_iload_n C 53 rfl 1 dX7_reachUrnByUrn_52 rfl rfl ?_
                        refine xx_iload C 55 rfl 4 dX7_reachUrnByUrn_53 rfl ?_
                        refine xx_cSip (As := [.int (iI x4_26)]) (st := [.int (iI x1_26)]) C 58 rfl  ca_X7_bit cs_X7_bit w_1029 rfl ⟨Nat.le_of_ble_eq_true rfl, Nat.le_of_ble_eq_true rfl⟩ ⟨Nat.le_of_ble_eq_true rfl, Nat.le_of_ble_eq_true rfl⟩ (Nat.le_of_ble_eq_true rfl) dX7_reachUrnByUrn_55 (fun v55 e9 => c_X7_bit _ _ v55 e9) h (fun v55 h => ?_) rfl
                        refine xx_ior C 59 rfl dX7_reachUrnByUrn_58 ?_
                        refine xx_nm C h (fun n59 h => ?_)
                        refine xx_istore_n (lv1 := [(1, .int (iI n59)), (0, .ref (ad 136)), (2, .int (iI x2_26)), (3, .int (iI x3_11)), (4, .int (iI x4_26))]) C 60 rfl (by decide) dX7_reachUrnByUrn_59 rfl rfl ?_
                        refine xx_iconst C 61 rfl dX7_reachUrnByUrn_60 ?_
                        refine xx_istore_n (lv1 := [(2, .int (iI 1)), (1, .int (iI n59)), (0, .ref (ad 136)), (3, .int (iI x3_11)), (4, .int (iI x4_26))]) C 62 rfl (by decide) dX7_reachUrnByUrn_61 rfl rfl ?_
                        refine xx_sub [2, 1, 0, 3, 4] rfl ?_
                        exact K62 n59 1 h
            refine xx_sub [2, 3, 1, 4, 0] rfl ?_
            exact L26 _ _ _ _ h
  refine xx_sub [3, 2, 1, 0] rfl ?_
  exact L11 _ _ _ _ h

def f_X7_distance_L8 (a2 : Int) (μ : mu_T) : Nat → Int → Int → Int → Option Int
  | 0, _, _, _ => none
  | fu8 + 1, x3_8, x4_8, x5_8 => lt_ x5_8 24
      (eq_ x4_8 0
      (some (-15))
      (bd_ (f_X7_isIn μ x4_8 a2) (fun v23 => eq_ v23 0
      (bd_ (f_X7_targetsOfAll μ x4_8) (fun v35 => nm_ ((an_ v35 (xo_ x3_8 (-1)))) (fun n42 => nm_ ((or_ x3_8 n42)) (fun n48 => nm_ (x5_8 + 1) (fun n49 => (f_X7_distance_L8 a2 μ fu8) n48 n42 n49)))))
      (some x5_8))))
      (some (-15))
def f_X7_distance (μ : mu_T) (a1 : Int) (a2 : Int) : Option Int :=
  f_X7_distance_L8 a2 μ 20000 a1 a1 0
set_option maxHeartbeats 4000000 in
set_option maxRecDepth 100000 in
theorem c_X7_distance {G : gp_} {ad : Nat → Nat} (μ : mu_T) (a1 : Int) (a2 : Int) (a : Int) (h : f_X7_distance μ a1 a2 = some a) : mi_ yX7_distance cX7_distance 6 (some .int) ({ frames := 4, cells := 0, slots := 0, locals := 88 } : Room) G 151 ad (ceX G ad) [.ref (ad 136), .int (iI a1), .int (iI a2)] μ a μ := by
  refine mi_in (own := "UrnHeap$Paths") (lv := [(0, .ref (ad 136)), (1, .int (iI a1)), (2, .int (iI a2))]) (by decide) rfl rfl (Nat.le_of_ble_eq_true rfl) (fun X C E => ?_)
  unfold f_X7_distance at h
  refine xx_iload_n C 1 rfl 1 dX7_distance_0 rfl rfl ?_
  refine xx_istore_n (lv1 := [(3, .int (iI a1)), (0, .ref (ad 136)), (1, .int (iI a1)), (2, .int (iI a2))]) C 2 rfl (by decide) dX7_distance_1 rfl rfl ?_
  refine xx_iload_n C 3 rfl 2 dX7_distance_2 rfl rfl ?_
  refine xx_istore (lv1 := [(4, .int (iI a1)), (3, .int (iI a1)), (0, .ref (ad 136)), (1, .int (iI a1)), (2, .int (iI a2))]) C 5 rfl (by decide) dX7_distance_3 rfl ?_
  refine xx_iconst C 6 rfl dX7_distance_5 ?_
  refine xx_istore (lv1 := [(5, .int (iI 0)), (4, .int (iI a1)), (3, .int (iI a1)), (0, .ref (ad 136)), (1, .int (iI a1)), (2, .int (iI a2))]) C 8 rfl (by decide) dX7_distance_6 rfl ?_
  have L8 : ∀ (fu8 : Nat) (x3_8 : Int) (x4_8 : Int) (x5_8 : Int), f_X7_distance_L8 a2 μ fu8 x3_8 x4_8 x5_8 = some a → wx_ G X 151 ad (ceX G ad) μ 0 0 8 [(0, .ref (ad 136)), (2, .int (iI a2)), (3, .int (iI x3_8)), (4, .int (iI x4_8)), (5, .int (iI x5_8))] [] := by
    intro fu8
    induction fu8 with
    | zero => intro x3_8 x4_8 x5_8 h; exact nn_ h
    | succ fu8 K8 =>
      intro x3_8 x4_8 x5_8 h
      rw [f_X7_distance_L8] at h
      generalize f_X7_distance_L8 a2 μ fu8 = R8 at K8 h
      refine xx_iload C 10 rfl 4 dX7_distance_8 rfl ?_
      refine xx_bipush C 12 rfl dX7_distance_10 (by decide) ?_
      refine xx_icmp_ge (tgt := 55) C 15 rfl dX7_distance_12 (by decide) h (fun h => ?_) (fun h => ?_)
      · refine xx_bipush C 57 rfl dX7_distance_55 (by decide) ?_
        exact xx_iretp C E rfl ⟨Nat.le_of_ble_eq_true rfl, Nat.le_of_ble_eq_true rfl⟩ dX7_distance_57 h
      · refine xx_iload C 17 rfl 3 dX7_distance_15 rfl ?_
        refine xx_if_eq (tgt := 55) C 20 rfl dX7_distance_17 (by decide) h (fun h => ?_) (fun h => ?_)
        · refine xx_bipush C 57 rfl dX7_distance_55 (by decide) ?_
          exact xx_iretp C E rfl ⟨Nat.le_of_ble_eq_true rfl, Nat.le_of_ble_eq_true rfl⟩ dX7_distance_57 h
        · refine xx_iload C 22 rfl 3 dX7_distance_20 rfl ?_
          refine xx_iload_n C 23 rfl 1 dX7_distance_22 rfl rfl ?_
          refine xx_cSip (As := [.int (iI x4_8), .int (iI a2)]) (st := []) C 26 rfl  ca_X7_isIn cs_X7_isIn w_1041 rfl ⟨Nat.le_of_ble_eq_true rfl, Nat.le_of_ble_eq_true rfl⟩ ⟨Nat.le_of_ble_eq_true rfl, Nat.le_of_ble_eq_true rfl⟩ (Nat.le_of_ble_eq_true rfl) dX7_distance_23 (fun v23 e9 => c_X7_isIn _ _ _ v23 e9) h (fun v23 h => ?_) rfl
          refine xx_if_eq (tgt := 32) C 29 rfl dX7_distance_26 (by decide) h (fun h => ?_) (fun h => ?_)
          · refine xx_aload_n C 33 rfl 0 dX7_distance_32 rfl rfl ?_
            refine xx_iload C 35 rfl 3 dX7_distance_33 rfl ?_
            refine xx_cVip (As := [.int (iI x4_8)]) (st := []) (o := 136) C 38 rfl (by decide) (ceX_136 _ _ _) rfl rfl ca_X7_targetsOfAll cv_X7_targetsOfAll w_1037 rfl ⟨Nat.le_of_ble_eq_true rfl, Nat.le_of_ble_eq_true rfl⟩ ⟨Nat.le_of_ble_eq_true rfl, Nat.le_of_ble_eq_true rfl⟩ (Nat.le_of_ble_eq_true rfl) dX7_distance_35 (fun v35 e9 => c_X7_targetsOfAll _ _ v35 e9) h (fun v35 h => ?_) rfl
            refine xx_iload_n C 39 rfl 2 dX7_distance_38 rfl rfl ?_
            refine xx_iconst C 40 rfl dX7_distance_39 ?_
            refine xx_ixor C 41 rfl dX7_distance_40 ?_
            refine xx_iand C 42 rfl dX7_distance_41 ?_
            refine xx_nm C h (fun n42 h => ?_)
            refine xx_istore (lv1 := [(4, .int (iI n42)), (0, .ref (ad 136)), (2, .int (iI a2)), (3, .int (iI x3_8)), (5, .int (iI x5_8))]) C 44 rfl (by decide) dX7_distance_42 rfl ?_
            refine xx_iload_n C 45 rfl 3 dX7_distance_44 rfl rfl ?_
            refine xx_iload C 47 rfl 0 dX7_distance_45 rfl ?_
            refine xx_ior C 48 rfl dX7_distance_47 ?_
            refine xx_nm C h (fun n48 h => ?_)
            refine xx_istore_n (lv1 := [(3, .int (iI n48)), (4, .int (iI n42)), (0, .ref (ad 136)), (2, .int (iI a2)), (5, .int (iI x5_8))]) C 49 rfl (by decide) dX7_distance_48 rfl rfl ?_
            refine xx_iincn C 52 rfl 4 (by decide) dX7_distance_49 rfl h (fun n49 h => ?_)
            refine xx_lv (lv1 := [(5, .int (iI n49)), (3, .int (iI n48)), (4, .int (iI n42)), (0, .ref (ad 136)), (2, .int (iI a2))]) rfl ?_
            refine xx_goto C 8 dX7_distance_52 (by decide) ?_
            refine xx_sub [3, 4, 1, 2, 0] rfl ?_
            exact K8 n48 n42 n49 h
          · refine xx_iload C 31 rfl 4 dX7_distance_29 rfl ?_
            exact xx_iretp C E rfl ⟨Nat.le_of_ble_eq_true rfl, Nat.le_of_ble_eq_true rfl⟩ dX7_distance_31 h
  refine xx_sub [3, 5, 2, 1, 0] rfl ?_
  exact L8 _ _ _ _ h

def f_X7_neededNames_L17 (a1 : Int) (μ : mu_T) : Nat → Int → Int → Option Int
  | 0, _, _ => none
  | fu17 + 1, x2_17, x3_17 => lt_ x3_17 6
      (bd_ (f_X7_roots μ x3_17) (fun v26 => bd_ (f_X7_reachFrom μ v26) (fun v29 => bd_ (f_X7_isIn μ v29 a1) (fun v33 => jn_ (φ := Int → Option Int) (fun x2_45 => nm_ (x3_17 + 1) (fun n45 => (f_X7_neededNames_L17 a1 μ fu17) x2_45 n45))
      (fun J45 => eq_ v33 0
      (nm_ ((or_ x2_17 (sl_ 1 x3_17))) (fun n44 => J45 n44))
      (J45 x2_17))))))
      (some x2_17)
def f_X7_neededNames (μ : mu_T) (a1 : Int) : Option Int :=
  bd_ (f_X7_reach μ) (fun v3 => bd_ (f_X7_isIn μ v3 a1) (fun v7 => eq_ v7 0
      (some 0)
      (f_X7_neededNames_L17 a1 μ 20000 0 0)))
set_option maxHeartbeats 4000000 in
set_option maxRecDepth 100000 in
theorem c_X7_neededNames {G : gp_} {ad : Nat → Nat} (μ : mu_T) (a1 : Int) (a : Int) (h : f_X7_neededNames μ a1 = some a) : mi_ yX7_neededNames cX7_neededNames 4 (some .int) ({ frames := 6, cells := 0, slots := 0, locals := 132 } : Room) G 151 ad (ceX G ad) [.ref (ad 136), .int (iI a1)] μ a μ := by
  refine mi_in (own := "UrnHeap$Paths") (lv := [(0, .ref (ad 136)), (1, .int (iI a1))]) (by decide) rfl rfl (Nat.le_of_ble_eq_true rfl) (fun X C E => ?_)
  unfold f_X7_neededNames at h
  refine xx_iconst C 1 rfl dX7_neededNames_0 ?_
  refine xx_istore_n (lv1 := [(2, .int (iI 0)), (0, .ref (ad 136)), (1, .int (iI a1))]) C 2 rfl (by decide) dX7_neededNames_1 rfl rfl ?_
  refine xx_aload_n C 3 rfl 1 dX7_neededNames_2 rfl rfl ?_
  refine xx_cVip (As := []) (st := []) (o := 136) C 6 rfl (by decide) (ceX_136 _ _ _) rfl rfl ca_X7_reach cv_X7_reach w_1066 rfl ⟨Nat.le_of_ble_eq_true rfl, Nat.le_of_ble_eq_true rfl⟩ ⟨Nat.le_of_ble_eq_true rfl, Nat.le_of_ble_eq_true rfl⟩ (Nat.le_of_ble_eq_true rfl) dX7_neededNames_3 (fun v3 e9 => c_X7_reach _ v3 e9) h (fun v3 h => ?_) rfl
  refine xx_iload_n C 7 rfl 2 dX7_neededNames_6 rfl rfl ?_
  refine xx_cSip (As := [.int (iI v3), .int (iI a1)]) (st := []) C 10 rfl  ca_X7_isIn cs_X7_isIn w_1041 rfl ⟨Nat.le_of_ble_eq_true rfl, Nat.le_of_ble_eq_true rfl⟩ ⟨Nat.le_of_ble_eq_true rfl, Nat.le_of_ble_eq_true rfl⟩ (Nat.le_of_ble_eq_true rfl) dX7_neededNames_7 (fun v7 e9 => c_X7_isIn _ _ _ v7 e9) h (fun v7 h => ?_) rfl
  refine xx_if_ne (tgt := 15) C 13 rfl dX7_neededNames_10 (by decide) h (fun h => ?_) (fun h => ?_)
  · refine xx_iconst C 16 rfl dX7_neededNames_15 ?_
    refine xx_istore_n (lv1 := [(3, .int (iI 0)), (2, .int (iI 0)), (0, .ref (ad 136)), (1, .int (iI a1))]) C 17 rfl (by decide) dX7_neededNames_16 rfl rfl ?_
    have L17 : ∀ (fu17 : Nat) (x2_17 : Int) (x3_17 : Int), f_X7_neededNames_L17 a1 μ fu17 x2_17 x3_17 = some a → wx_ G X 151 ad (ceX G ad) μ 0 0 17 [(0, .ref (ad 136)), (1, .int (iI a1)), (2, .int (iI x2_17)), (3, .int (iI x3_17))] [] := by
      intro fu17
      induction fu17 with
      | zero => intro x2_17 x3_17 h; exact nn_ h
      | succ fu17 K17 =>
        intro x2_17 x3_17 h
        rw [f_X7_neededNames_L17] at h
        generalize f_X7_neededNames_L17 a1 μ fu17 = R17 at K17 h
        refine xx_iload_n C 18 rfl 3 dX7_neededNames_17 rfl rfl ?_
        refine xx_bipush C 20 rfl dX7_neededNames_18 (by decide) ?_
        refine xx_icmp_ge (tgt := 51) C 23 rfl dX7_neededNames_20 (by decide) h (fun h => ?_) (fun h => ?_)
        · refine xx_iload_n C 52 rfl 2 dX7_neededNames_51 rfl rfl ?_
          exact xx_iretp C E rfl ⟨Nat.le_of_ble_eq_true rfl, Nat.le_of_ble_eq_true rfl⟩ dX7_neededNames_52 h
        · refine xx_aload_n C 24 rfl 0 dX7_neededNames_23 rfl rfl ?_
          refine xx_aload_n C 25 rfl 0 dX7_neededNames_24 rfl rfl ?_
          refine xx_iload_n C 26 rfl 3 dX7_neededNames_25 rfl rfl ?_
          refine xx_cVip (As := [.int (iI x3_17)]) (st := [.ref (ad 136)]) (o := 136) C 29 rfl (by decide) (ceX_136 _ _ _) rfl rfl ca_X7_roots cv_X7_roots w_1020 rfl ⟨Nat.le_of_ble_eq_true rfl, Nat.le_of_ble_eq_true rfl⟩ ⟨Nat.le_of_ble_eq_true rfl, Nat.le_of_ble_eq_true rfl⟩ (Nat.le_of_ble_eq_true rfl) dX7_neededNames_26 (fun v26 e9 => c_X7_roots _ _ v26 e9) h (fun v26 h => ?_) rfl
          refine xx_cVip (As := [.int (iI v26)]) (st := []) (o := 136) C 32 rfl (by decide) (ceX_136 _ _ _) rfl rfl ca_X7_reachFrom cv_X7_reachFrom w_1033 rfl ⟨Nat.le_of_ble_eq_true rfl, Nat.le_of_ble_eq_true rfl⟩ ⟨Nat.le_of_ble_eq_true rfl, Nat.le_of_ble_eq_true rfl⟩ (Nat.le_of_ble_eq_true rfl) dX7_neededNames_29 (fun v29 e9 => c_X7_reachFrom _ _ v29 e9) h (fun v29 h => ?_) rfl
          refine xx_iload_n C 33 rfl 1 dX7_neededNames_32 rfl rfl ?_
          refine xx_cSip (As := [.int (iI v29), .int (iI a1)]) (st := []) C 36 rfl  ca_X7_isIn cs_X7_isIn w_1041 rfl ⟨Nat.le_of_ble_eq_true rfl, Nat.le_of_ble_eq_true rfl⟩ ⟨Nat.le_of_ble_eq_true rfl, Nat.le_of_ble_eq_true rfl⟩ (Nat.le_of_ble_eq_true rfl) dX7_neededNames_33 (fun v33 e9 => c_X7_isIn _ _ _ v33 e9) h (fun v33 h => ?_) rfl
          refine jn_r (fun J => ∀ (x2_45 : Int), J x2_45 = some a → wx_ G X 151 ad (ceX G ad) μ 0 0 45 [(0, .ref (ad 136)), (1, .int (iI a1)), (2, .int (iI x2_45)), (3, .int (iI x3_17))] []) h (fun x2_45 h => ?_) (fun J45 K45 h => ?_)
          · refine xx_iincn C 48 rfl 3 (by decide) dX7_neededNames_45 rfl h (fun n45 h => ?_)
            refine xx_lv (lv1 := [(3, .int (iI n45)), (0, .ref (ad 136)), (1, .int (iI a1)), (2, .int (iI x2_45))]) rfl ?_
            refine xx_goto C 17 dX7_neededNames_48 (by decide) ?_
            refine xx_sub [1, 2, 3, 0] rfl ?_
            exact K17 x2_45 n45 h
          · refine xx_if_ne (tgt := 45) C 39 rfl dX7_neededNames_36 (by decide) h (fun h => ?_) (fun h => ?_)
            · exact K45 x2_17 h
            · refine xx_iload_n C 40 rfl 2 dX7_neededNames_39 rfl rfl ?_
              refine xx_iconst C 41 rfl dX7_neededNames_40 ?_
              refine xx_iload_n C 42 rfl 3 dX7_neededNames_41 rfl rfl ?_
              refine xx_ishl C 43 rfl dX7_neededNames_42 ?_
              refine xx_ior C 44 rfl dX7_neededNames_43 ?_
              refine xx_nm C h (fun n44 h => ?_)
              refine xx_istore_n (lv1 := [(2, .int (iI n44)), (0, .ref (ad 136)), (1, .int (iI a1)), (3, .int (iI x3_17))]) C 45 rfl (by decide) dX7_neededNames_44 rfl rfl ?_
              refine xx_sub [1, 2, 0, 3] rfl ?_
              exact K45 n44 h
    refine xx_sub [2, 3, 1, 0] rfl ?_
    exact L17 _ _ _ h
  · refine xx_iload_n C 14 rfl 0 dX7_neededNames_13 rfl rfl ?_
    exact xx_iretp C E rfl ⟨Nat.le_of_ble_eq_true rfl, Nat.le_of_ble_eq_true rfl⟩ dX7_neededNames_14 h

def f_X7_ringLength (μ : mu_T) (a1 : Int) : Option Int :=
  bd_ (f_X7_targets μ a1) (fun v3 => bd_ (f_X7_distance μ v3 a1) (fun v7 => eq_ v7 (-15)
      (some (-15))
      (some (v7 + 1))))
set_option maxHeartbeats 4000000 in
set_option maxRecDepth 100000 in
theorem c_X7_ringLength {G : gp_} {ad : Nat → Nat} (μ : mu_T) (a1 : Int) (a : Int) (h : f_X7_ringLength μ a1 = some a) : mi_ yX7_ringLength cX7_ringLength 3 (some .int) ({ frames := 5, cells := 0, slots := 0, locals := 113 } : Room) G 151 ad (ceX G ad) [.ref (ad 136), .int (iI a1)] μ a μ := by
  refine mi_in (own := "UrnHeap$Paths") (lv := [(0, .ref (ad 136)), (1, .int (iI a1))]) (by decide) rfl rfl (Nat.le_of_ble_eq_true rfl) (fun X C E => ?_)
  unfold f_X7_ringLength at h
  refine xx_aload_n C 1 rfl 0 dX7_ringLength_0 rfl rfl ?_
  refine xx_aload_n C 2 rfl 0 dX7_ringLength_1 rfl rfl ?_
  refine xx_iload_n C 3 rfl 1 dX7_ringLength_2 rfl rfl ?_
  refine xx_cVip (As := [.int (iI a1)]) (st := [.ref (ad 136)]) (o := 136) C 6 rfl (by decide) (ceX_136 _ _ _) rfl rfl ca_X7_targets cv_X7_targets w_1044 rfl ⟨Nat.le_of_ble_eq_true rfl, Nat.le_of_ble_eq_true rfl⟩ ⟨Nat.le_of_ble_eq_true rfl, Nat.le_of_ble_eq_true rfl⟩ (Nat.le_of_ble_eq_true rfl) dX7_ringLength_3 (fun v3 e9 => c_X7_targets _ _ v3 e9) h (fun v3 h => ?_) rfl
  refine xx_iload_n C 7 rfl 1 dX7_ringLength_6 rfl rfl ?_
  refine xx_cVip (As := [.int (iI v3), .int (iI a1)]) (st := []) (o := 136) C 10 rfl (by decide) (ceX_136 _ _ _) rfl rfl ca_X7_distance cv_X7_distance w_1075 rfl ⟨Nat.le_of_ble_eq_true rfl, Nat.le_of_ble_eq_true rfl⟩ ⟨Nat.le_of_ble_eq_true rfl, Nat.le_of_ble_eq_true rfl⟩ (Nat.le_of_ble_eq_true rfl) dX7_ringLength_7 (fun v7 e9 => c_X7_distance _ _ _ v7 e9) h (fun v7 h => ?_) rfl
  refine xx_istore_n (lv1 := [(2, .int (iI v7)), (0, .ref (ad 136)), (1, .int (iI a1))]) C 11 rfl (by decide) dX7_ringLength_10 rfl rfl ?_
  refine xx_iload_n C 12 rfl 0 dX7_ringLength_11 rfl rfl ?_
  refine xx_bipush C 14 rfl dX7_ringLength_12 (by decide) ?_
  refine xx_icmp_ne (tgt := 22) C 17 rfl dX7_ringLength_14 (by decide) h (fun h => ?_) (fun h => ?_)
  · refine xx_iload_n C 23 rfl 0 dX7_ringLength_22 rfl rfl ?_
    refine xx_iconst C 24 rfl dX7_ringLength_23 ?_
    refine xx_iadd C 25 rfl dX7_ringLength_24 ?_
    exact xx_iretp C E rfl ⟨Nat.le_of_ble_eq_true rfl, Nat.le_of_ble_eq_true rfl⟩ dX7_ringLength_25 h
  · refine xx_bipush C 19 rfl dX7_ringLength_17 (by decide) ?_
    refine xx_goto C 25 dX7_ringLength_19 (by decide) ?_
    exact xx_iretp C E rfl ⟨Nat.le_of_ble_eq_true rfl, Nat.le_of_ble_eq_true rfl⟩ dX7_ringLength_25 h

def f_X7_leftOver_L21 (v13 : Int) (μ : mu_T) : Nat → Int → Int → Option Int
  | 0, _, _ => none
  | fu21 + 1, x2_21, x3_21 => lt_ x3_21 24
      (bd_ (f_X2_hasUrn μ x3_21) (fun v32 => jn_ (φ := Int → Option Int) (fun x2_53 => nm_ (x3_21 + 1) (fun n53 => (f_X7_leftOver_L21 v13 μ fu21) x2_53 n53))
      (fun J53 => eq_ v32 0
      (J53 x2_21)
      (bd_ (f_X7_isIn μ v13 x3_21) (fun v40 => eq_ v40 0
      (bd_ (f_X7_bit μ x3_21) (fun v48 => nm_ ((or_ x2_21 v48)) (fun n52 => J53 n52)))
      (J53 x2_21))))))
      (some x2_21)
def f_X7_leftOver (μ : mu_T)  : Option Int :=
  bd_ (f_X7_roots μ (-15)) (fun v4 => bd_ (f_X7_rootsByRite μ 1) (fun v9 => bd_ (f_X7_reachFrom μ (or_ v4 v9)) (fun v13 => f_X7_leftOver_L21 v13 μ 20000 0 0)))
set_option maxHeartbeats 4000000 in
set_option maxRecDepth 100000 in
theorem c_X7_leftOver {G : gp_} {ad : Nat → Nat} (μ : mu_T)  (a : Int) (h : f_X7_leftOver μ  = some a) : mi_ yX7_leftOver cX7_leftOver 4 (some .int) ({ frames := 5, cells := 0, slots := 0, locals := 112 } : Room) G 151 ad (ceX G ad) [.ref (ad 136)] μ a μ := by
  refine mi_in (own := "UrnHeap$Paths") (lv := [(0, .ref (ad 136))]) (by decide) rfl rfl (Nat.le_of_ble_eq_true rfl) (fun X C E => ?_)
  unfold f_X7_leftOver at h
  refine xx_aload_n C 1 rfl 0 dX7_leftOver_0 rfl rfl ?_
  refine xx_aload_n C 2 rfl 0 dX7_leftOver_1 rfl rfl ?_
  refine xx_bipush C 4 rfl dX7_leftOver_2 (by decide) ?_
  refine xx_cVip (As := [.int (iI (-15))]) (st := [.ref (ad 136)]) (o := 136) C 7 rfl (by decide) (ceX_136 _ _ _) rfl rfl ca_X7_roots cv_X7_roots w_1020 rfl ⟨Nat.le_of_ble_eq_true rfl, Nat.le_of_ble_eq_true rfl⟩ ⟨Nat.le_of_ble_eq_true rfl, Nat.le_of_ble_eq_true rfl⟩ (Nat.le_of_ble_eq_true rfl) dX7_leftOver_4 (fun v4 e9 => c_X7_roots _ _ v4 e9) h (fun v4 h => ?_) rfl
  refine xx_aload_n C 8 rfl 0 dX7_leftOver_7 rfl rfl ?_
  refine xx_iconst C 9 rfl dX7_leftOver_8 ?_
  refine xx_cVip (As := [.int (iI 1)]) (st := [.int (iI v4), .ref (ad 136)]) (o := 136) C 12 rfl (by decide) (ceX_136 _ _ _) rfl rfl ca_X7_rootsByRite cv_X7_rootsByRite w_1024 rfl ⟨Nat.le_of_ble_eq_true rfl, Nat.le_of_ble_eq_true rfl⟩ ⟨Nat.le_of_ble_eq_true rfl, Nat.le_of_ble_eq_true rfl⟩ (Nat.le_of_ble_eq_true rfl) dX7_leftOver_9 (fun v9 e9 => c_X7_rootsByRite _ _ v9 e9) h (fun v9 h => ?_) rfl
  refine xx_ior C 13 rfl dX7_leftOver_12 ?_
  refine xx_cVip (As := [.int (iI (or_ v4 v9))]) (st := []) (o := 136) C 16 rfl (by decide) (ceX_136 _ _ _) rfl rfl ca_X7_reachFrom cv_X7_reachFrom w_1033 rfl ⟨Nat.le_of_ble_eq_true rfl, Nat.le_of_ble_eq_true rfl⟩ ⟨Nat.le_of_ble_eq_true rfl, Nat.le_of_ble_eq_true rfl⟩ (Nat.le_of_ble_eq_true rfl) dX7_leftOver_13 (fun v13 e9 => c_X7_reachFrom _ _ v13 e9) h (fun v13 h => ?_) rfl
  refine xx_istore_n (lv1 := [(1, .int (iI v13)), (0, .ref (ad 136))]) C 17 rfl (by decide) dX7_leftOver_16 rfl rfl ?_
  refine xx_iconst C 18 rfl dX7_leftOver_17 ?_
  refine xx_istore_n (lv1 := [(2, .int (iI 0)), (1, .int (iI v13)), (0, .ref (ad 136))]) C 19 rfl (by decide) dX7_leftOver_18 rfl rfl ?_
  refine xx_iconst C 20 rfl dX7_leftOver_19 ?_
  refine xx_istore_n (lv1 := [(3, .int (iI 0)), (2, .int (iI 0)), (1, .int (iI v13)), (0, .ref (ad 136))]) C 21 rfl (by decide) dX7_leftOver_20 rfl rfl ?_
  have L21 : ∀ (fu21 : Nat) (x2_21 : Int) (x3_21 : Int), f_X7_leftOver_L21 v13 μ fu21 x2_21 x3_21 = some a → wx_ G X 151 ad (ceX G ad) μ 0 0 21 [(0, .ref (ad 136)), (1, .int (iI v13)), (2, .int (iI x2_21)), (3, .int (iI x3_21))] [] := by
    intro fu21
    induction fu21 with
    | zero => intro x2_21 x3_21 h; exact nn_ h
    | succ fu21 K21 =>
      intro x2_21 x3_21 h
      rw [f_X7_leftOver_L21] at h
      generalize f_X7_leftOver_L21 v13 μ fu21 = R21 at K21 h
      refine xx_iload_n C 22 rfl 3 dX7_leftOver_21 rfl rfl ?_
      refine xx_bipush C 24 rfl dX7_leftOver_22 (by decide) ?_
      refine xx_icmp_ge (tgt := 59) C 27 rfl dX7_leftOver_24 (by decide) h (fun h => ?_) (fun h => ?_)
      · refine xx_iload_n C 60 rfl 2 dX7_leftOver_59 rfl rfl ?_
        exact xx_iretp C E rfl ⟨Nat.le_of_ble_eq_true rfl, Nat.le_of_ble_eq_true rfl⟩ dX7_leftOver_60 h
      · refine xx_aload_n C 28 rfl 0 dX7_leftOver_27 rfl rfl ?_
        refine xx_getr (fi := 0) C 31 rfl (by decide) (ceX_136 _ _ _) rfl in_X7 (by decide) rfl w_221 dX7_leftOver_28 ?_
        refine xx_iload_n C 32 rfl 3 dX7_leftOver_31 rfl rfl ?_
        refine xx_cVip (As := [.int (iI x3_21)]) (st := []) (o := 0) C 35 rfl (by decide) (ceX_0 _ _ _) rfl rfl ca_X2_hasUrn cv_X2_hasUrn w_1028 rfl ⟨Nat.le_of_ble_eq_true rfl, Nat.le_of_ble_eq_true rfl⟩ ⟨Nat.le_of_ble_eq_true rfl, Nat.le_of_ble_eq_true rfl⟩ (Nat.le_of_ble_eq_true rfl) dX7_leftOver_32 (fun v32 e9 => c_X2_hasUrn _ _ v32 e9) h (fun v32 h => ?_) rfl
        refine jn_r (fun J => ∀ (x2_53 : Int), J x2_53 = some a → wx_ G X 151 ad (ceX G ad) μ 0 0 53 [(0, .ref (ad 136)), (1, .int (iI v13)), (2, .int (iI x2_53)), (3, .int (iI x3_21))] []) h (fun x2_53 h => ?_) (fun J53 K53 h => ?_)
        · refine xx_iincn C 56 rfl 3 (by decide) dX7_leftOver_53 rfl h (fun n53 h => ?_)
          refine xx_lv (lv1 := [(3, .int (iI n53)), (0, .ref (ad 136)), (1, .int (iI v13)), (2, .int (iI x2_53))]) rfl ?_
          refine xx_goto C 21 dX7_leftOver_56 (by decide) ?_
          refine xx_sub [1, 2, 3, 0] rfl ?_
          exact K21 x2_53 n53 h
        · refine xx_if_eq (tgt := 53) C 38 rfl dX7_leftOver_35 (by decide) h (fun h => ?_) (fun h => ?_)
          · exact K53 x2_21 h
          · refine xx_iload_n C 39 rfl 1 dX7_leftOver_38 rfl rfl ?_
            refine xx_iload_n C 40 rfl 3 dX7_leftOver_39 rfl rfl ?_
            refine xx_cSip (As := [.int (iI v13), .int (iI x3_21)]) (st := []) C 43 rfl  ca_X7_isIn cs_X7_isIn w_1041 rfl ⟨Nat.le_of_ble_eq_true rfl, Nat.le_of_ble_eq_true rfl⟩ ⟨Nat.le_of_ble_eq_true rfl, Nat.le_of_ble_eq_true rfl⟩ (Nat.le_of_ble_eq_true rfl) dX7_leftOver_40 (fun v40 e9 => c_X7_isIn _ _ _ v40 e9) h (fun v40 h => ?_) rfl
            refine xx_if_ne (tgt := 53) C 46 rfl dX7_leftOver_43 (by decide) h (fun h => ?_) (fun h => ?_)
            · exact K53 x2_21 h
            · refine xx_iload_n C 47 rfl 2 dX7_leftOver_46 rfl rfl ?_
              refine xx_iload_n C 48 rfl 3 dX7_leftOver_47 rfl rfl ?_
              refine xx_cSip (As := [.int (iI x3_21)]) (st := [.int (iI x2_21)]) C 51 rfl  ca_X7_bit cs_X7_bit w_1029 rfl ⟨Nat.le_of_ble_eq_true rfl, Nat.le_of_ble_eq_true rfl⟩ ⟨Nat.le_of_ble_eq_true rfl, Nat.le_of_ble_eq_true rfl⟩ (Nat.le_of_ble_eq_true rfl) dX7_leftOver_48 (fun v48 e9 => c_X7_bit _ _ v48 e9) h (fun v48 h => ?_) rfl
              refine xx_ior C 52 rfl dX7_leftOver_51 ?_
              refine xx_nm C h (fun n52 h => ?_)
              refine xx_istore_n (lv1 := [(2, .int (iI n52)), (0, .ref (ad 136)), (1, .int (iI v13)), (3, .int (iI x3_21))]) C 53 rfl (by decide) dX7_leftOver_52 rfl rfl ?_
              refine xx_sub [1, 2, 0, 3] rfl ?_
              exact K53 n52 h
  refine xx_sub [3, 2, 1, 0] rfl ?_
  exact L21 _ _ _ h

def f_X7_weighAll_L2  : Nat → Int → mu_T → Option mu_T
  | 0, _, _ => none
  | fu2 + 1, x1_2, μ2 => lt_ x1_2 24
      (bd_ (f_X2_holdersOf μ2 x1_2) (fun v13 => bd_ (f_X2_threadsFrom μ2 x1_2) (fun v22 => bd_ (f_X2_hasUrn μ2 x1_2) (fun v36 => jn_ (φ := Int → Option mu_T) (fun s0_59 => wr_ μ2 137 24 x1_2 s0_59 (fun μ59 => nm_ (x1_2 + 1) (fun n60 => (f_X7_weighAll_L2 fu2) n60 μ59)))
      (fun J59 => eq_ v36 0
      (J59 0)
      (J59 (((((v13 * 5) + v22) * 24) + 24) - x1_2)))))))
      (some μ2)
def f_X7_weighAll (μ : mu_T)  : Option mu_T :=
  f_X7_weighAll_L2 20000 0 μ
set_option maxHeartbeats 4000000 in
set_option maxRecDepth 100000 in
theorem c_X7_weighAll {G : gp_} {ad : Nat → Nat} (μ : mu_T)  (μr : mu_T) (h : f_X7_weighAll μ  = some μr) : mv_ yX7_weighAll cX7_weighAll 4 ({ frames := 3, cells := 0, slots := 0, locals := 65 } : Room) G 151 ad (ceX G ad) [.ref (ad 136)] μ μr := by
  refine mv_in (own := "UrnHeap$Paths") (lv := [(0, .ref (ad 136))]) (by decide) rfl rfl (Nat.le_of_ble_eq_true rfl) (fun X C E => ?_)
  unfold f_X7_weighAll at h
  refine xx_iconst C 1 rfl dX7_weighAll_0 ?_
  refine xx_istore_n (lv1 := [(1, .int (iI 0)), (0, .ref (ad 136))]) C 2 rfl (by decide) dX7_weighAll_1 rfl rfl ?_
  have L2 : ∀ (fu2 : Nat) (x1_2 : Int) (μ2 : mu_T), f_X7_weighAll_L2 fu2 x1_2 μ2 = some μr → wx_ G X 151 ad (ceX G ad) μ2 0 0 2 [(0, .ref (ad 136)), (1, .int (iI x1_2))] [] := by
    intro fu2
    induction fu2 with
    | zero => intro x1_2 μ2 h; exact nn_ h
    | succ fu2 K2 =>
      intro x1_2 μ2 h
      rw [f_X7_weighAll_L2] at h
      generalize f_X7_weighAll_L2 fu2 = R2 at K2 h
      refine xx_iload_n C 3 rfl 1 dX7_weighAll_2 rfl rfl ?_
      refine xx_bipush C 5 rfl dX7_weighAll_3 (by decide) ?_
      refine xx_icmp_ge (tgt := 66) C 8 rfl dX7_weighAll_5 (by decide) h (fun h => ?_) (fun h => ?_)
      · exact xx_vret C E rfl ⟨Nat.le_of_ble_eq_true rfl, Nat.le_of_ble_eq_true rfl⟩ dX7_weighAll_66 h
      · refine xx_aload_n C 9 rfl 0 dX7_weighAll_8 rfl rfl ?_
        refine xx_getr (fi := 0) C 12 rfl (by decide) (ceX_136 _ _ _) rfl in_X7 (by decide) rfl w_221 dX7_weighAll_9 ?_
        refine xx_iload_n C 13 rfl 1 dX7_weighAll_12 rfl rfl ?_
        refine xx_cVip (As := [.int (iI x1_2)]) (st := []) (o := 0) C 16 rfl (by decide) (ceX_0 _ _ _) rfl rfl ca_X2_holdersOf cv_X2_holdersOf w_1088 rfl ⟨Nat.le_of_ble_eq_true rfl, Nat.le_of_ble_eq_true rfl⟩ ⟨Nat.le_of_ble_eq_true rfl, Nat.le_of_ble_eq_true rfl⟩ (Nat.le_of_ble_eq_true rfl) dX7_weighAll_13 (fun v13 e9 => c_X2_holdersOf _ _ v13 e9) h (fun v13 h => ?_) rfl
        refine xx_istore_n (lv1 := [(2, .int (iI v13)), (0, .ref (ad 136)), (1, .int (iI x1_2))]) C 17 rfl (by decide) dX7_weighAll_16 rfl rfl ?_
        refine xx_aload_n C 18 rfl 1 dX7_weighAll_17 rfl rfl ?_
        refine xx_getr (fi := 0) C 21 rfl (by decide) (ceX_136 _ _ _) rfl in_X7 (by decide) rfl w_221 dX7_weighAll_18 ?_
        refine xx_iload_n C 22 rfl 2 dX7_weighAll_21 rfl rfl ?_
        refine xx_cVip (As := [.int (iI x1_2)]) (st := []) (o := 0) C 25 rfl (by decide) (ceX_0 _ _ _) rfl rfl ca_X2_threadsFrom cv_X2_threadsFrom w_1089 rfl ⟨Nat.le_of_ble_eq_true rfl, Nat.le_of_ble_eq_true rfl⟩ ⟨Nat.le_of_ble_eq_true rfl, Nat.le_of_ble_eq_true rfl⟩ (Nat.le_of_ble_eq_true rfl) dX7_weighAll_22 (fun v22 e9 => c_X2_threadsFrom _ _ v22 e9) h (fun v22 h => ?_) rfl
        refine xx_istore_n (lv1 := [(3, .int (iI v22)), (2, .int (iI v13)), (0, .ref (ad 136)), (1, .int (iI x1_2))]) C 26 rfl (by decide) dX7_weighAll_25 rfl rfl ?_
        refine xx_aload_n C 27 rfl 2 dX7_weighAll_26 rfl rfl ?_
        refine xx_getr (fi := 1) C 30 rfl (by decide) (ceX_136 _ _ _) rfl in_X7 (by decide) rfl w_222 dX7_weighAll_27 ?_
        refine xx_iload_n C 31 rfl 3 dX7_weighAll_30 rfl rfl ?_
        refine xx_aload_n C 32 rfl 2 dX7_weighAll_31 rfl rfl ?_
        refine xx_getr (fi := 0) C 35 rfl (by decide) (ceX_136 _ _ _) rfl in_X7 (by decide) rfl w_221 dX7_weighAll_32 ?_
        refine xx_iload_n C 36 rfl 3 dX7_weighAll_35 rfl rfl ?_
        refine xx_cVip (As := [.int (iI x1_2)]) (st := [.int (iI x1_2), .ref (ad 137)]) (o := 0) C 39 rfl (by decide) (ceX_0 _ _ _) rfl rfl ca_X2_hasUrn cv_X2_hasUrn w_1028 rfl ⟨Nat.le_of_ble_eq_true rfl, Nat.le_of_ble_eq_true rfl⟩ ⟨Nat.le_of_ble_eq_true rfl, Nat.le_of_ble_eq_true rfl⟩ (Nat.le_of_ble_eq_true rfl) dX7_weighAll_36 (fun v36 e9 => c_X2_hasUrn _ _ v36 e9) h (fun v36 h => ?_) rfl
        refine jn_r (fun J => ∀ (s0_59 : Int), J s0_59 = some μr → wx_ G X 151 ad (ceX G ad) μ2 0 0 59 [(0, .ref (ad 136)), (1, .int (iI x1_2))] [.int (iI s0_59), .int (iI x1_2), .ref (ad 137)]) h (fun s0_59 h => ?_) (fun J59 K59 h => ?_)
        · refine xx_iastore C 60 rfl (by decide) (fun row => ceX_137 _ _ row) (by decide) dX7_weighAll_59 h (fun μ59 h => ?_)
          refine xx_iincn C 63 rfl 1 (by decide) dX7_weighAll_60 rfl h (fun n60 h => ?_)
          refine xx_lv (lv1 := [(1, .int (iI n60)), (0, .ref (ad 136))]) rfl ?_
          refine xx_goto C 2 dX7_weighAll_63 (by decide) ?_
          refine xx_sub [1, 0] rfl ?_
          exact K2 n60 μ59 h
        · refine xx_if_eq (tgt := 58) C 42 rfl dX7_weighAll_39 (by decide) h (fun h => ?_) (fun h => ?_)
          · refine xx_iconst C 59 rfl dX7_weighAll_58 ?_
            refine xx_sub [2, 3] rfl ?_
            exact K59 0 h
          · refine xx_iload_n C 43 rfl 1 dX7_weighAll_42 rfl rfl ?_
            refine xx_iconst C 44 rfl dX7_weighAll_43 ?_
            refine xx_imul C 45 rfl dX7_weighAll_44 ?_
            refine xx_iload_n C 46 rfl 0 dX7_weighAll_45 rfl rfl ?_
            refine xx_iadd C 47 rfl dX7_weighAll_46 ?_
            refine xx_bipush C 49 rfl dX7_weighAll_47 (by decide) ?_
            refine xx_imul C 50 rfl dX7_weighAll_49 ?_
            refine xx_bipush C 52 rfl dX7_weighAll_50 (by decide) ?_
            refine xx_iadd C 53 rfl dX7_weighAll_52 ?_
            refine xx_iload_n C 54 rfl 3 dX7_weighAll_53 rfl rfl ?_
            refine xx_isub C 55 rfl dX7_weighAll_54 ?_
            refine xx_goto C 59 dX7_weighAll_55 (by decide) ?_
            refine xx_sub [2, 3] rfl ?_
            exact K59 (((((v13 * 5) + v22) * 24) + 24) - x1_2) h
  refine xx_sub [1, 0] rfl ?_
  exact L2 _ _ _ h

