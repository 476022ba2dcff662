theorem dJ5_inflateIfNeededFor_a7421_0 : decode cJ5_inflateIfNeededFor_a7421 0 = .ok (.getstatic 18, 3) := by decide +kernel
theorem dJ5_inflateIfNeededFor_a7421_3 : decode cJ5_inflateIfNeededFor_a7421 3 = .ok (.ifCond .eq 18, 3) := by decide +kernel
theorem dJ5_inflateIfNeededFor_a7421_6 : decode cJ5_inflateIfNeededFor_a7421 6 = .ok (.aload_n 0, 1) := by decide +kernel
theorem dJ5_inflateIfNeededFor_a7421_7 : decode cJ5_inflateIfNeededFor_a7421 7 = .ok (.getfield 22, 3) := by decide +kernel
theorem dJ5_inflateIfNeededFor_a7421_10 : decode cJ5_inflateIfNeededFor_a7421 10 = .ok (.aload_n 1, 1) := by decide +kernel
theorem dJ5_inflateIfNeededFor_a7421_11 : decode cJ5_inflateIfNeededFor_a7421 11 = .ok (.invokevirtual 40, 3) := by decide +kernel
theorem dJ5_inflateIfNeededFor_a7421_14 : decode cJ5_inflateIfNeededFor_a7421 14 = .ok (.if_icmp .eq 7, 3) := by decide +kernel
theorem dJ5_inflateIfNeededFor_a7421_17 : decode cJ5_inflateIfNeededFor_a7421 17 = .ok (.aload_n 0, 1) := by decide +kernel
theorem dJ5_inflateIfNeededFor_a7421_18 : decode cJ5_inflateIfNeededFor_a7421 18 = .ok (.invokevirtual 195, 3) := by decide +kernel
theorem dJ5_inflateIfNeededFor_a7421_21 : decode cJ5_inflateIfNeededFor_a7421 21 = .ok (.return_, 1) := by decide +kernel
theorem dJ0_getBytes_840e7_0 : decode cJ0_getBytes_840e7 0 = .ok (.aload_n 0, 1) := by decide +kernel
theorem dJ0_getBytes_840e7_1 : decode cJ0_getBytes_840e7 1 = .ok (.invokevirtual 335, 3) := by decide +kernel
theorem dJ0_getBytes_840e7_4 : decode cJ0_getBytes_840e7 4 = .ok (.iload_n 3, 1) := by decide +kernel
theorem dJ0_getBytes_840e7_5 : decode cJ0_getBytes_840e7 5 = .ok (.if_icmp .ne 23, 3) := by decide +kernel
theorem dJ0_getBytes_840e7_8 : decode cJ0_getBytes_840e7 8 = .ok (.aload_n 0, 1) := by decide +kernel
theorem dJ0_getBytes_840e7_9 : decode cJ0_getBytes_840e7 9 = .ok (.getfield 9, 3) := by decide +kernel
theorem dJ0_getBytes_840e7_12 : decode cJ0_getBytes_840e7 12 = .ok (.iconst 0, 1) := by decide +kernel
theorem dJ0_getBytes_840e7_13 : decode cJ0_getBytes_840e7 13 = .ok (.aload_n 1, 1) := by decide +kernel
theorem dJ0_getBytes_840e7_14 : decode cJ0_getBytes_840e7 14 = .ok (.iload_n 2, 1) := by decide +kernel
theorem dJ0_getBytes_840e7_15 : decode cJ0_getBytes_840e7 15 = .ok (.iload_n 3, 1) := by decide +kernel
theorem dJ0_getBytes_840e7_16 : decode cJ0_getBytes_840e7 16 = .ok (.ishl, 1) := by decide +kernel
theorem dJ0_getBytes_840e7_17 : decode cJ0_getBytes_840e7 17 = .ok (.aload_n 0, 1) := by decide +kernel
theorem dJ0_getBytes_840e7_18 : decode cJ0_getBytes_840e7 18 = .ok (.getfield 9, 3) := by decide +kernel
theorem dJ0_getBytes_840e7_21 : decode cJ0_getBytes_840e7 21 = .ok (.arraylength, 1) := by decide +kernel
theorem dJ0_getBytes_840e7_22 : decode cJ0_getBytes_840e7 22 = .ok (.invokestatic 212, 3) := by decide +kernel
theorem dJ0_getBytes_840e7_25 : decode cJ0_getBytes_840e7 25 = .ok (.goto 18, 3) := by decide +kernel
theorem dJ0_getBytes_840e7_28 : decode cJ0_getBytes_840e7 28 = .ok (.aload_n 0, 1) := by decide +kernel
theorem dJ0_getBytes_840e7_29 : decode cJ0_getBytes_840e7 29 = .ok (.getfield 9, 3) := by decide +kernel
theorem dJ0_getBytes_840e7_32 : decode cJ0_getBytes_840e7 32 = .ok (.iconst 0, 1) := by decide +kernel
theorem dJ0_getBytes_840e7_33 : decode cJ0_getBytes_840e7 33 = .ok (.aload_n 1, 1) := by decide +kernel
theorem dJ0_getBytes_840e7_34 : decode cJ0_getBytes_840e7 34 = .ok (.iload_n 2, 1) := by decide +kernel
theorem dJ0_getBytes_840e7_35 : decode cJ0_getBytes_840e7 35 = .ok (.aload_n 0, 1) := by decide +kernel
theorem dJ0_getBytes_840e7_36 : decode cJ0_getBytes_840e7 36 = .ok (.getfield 9, 3) := by decide +kernel
theorem dJ0_getBytes_840e7_39 : decode cJ0_getBytes_840e7 39 = .ok (.arraylength, 1) := by decide +kernel
theorem dJ0_getBytes_840e7_40 : decode cJ0_getBytes_840e7 40 = .ok (.invokestatic 106, 3) := by decide +kernel
theorem dJ0_getBytes_840e7_43 : decode cJ0_getBytes_840e7 43 = .ok (.return_, 1) := by decide +kernel
theorem dJ5_putStringAt_47b60_0 : decode cJ5_putStringAt_47b60 0 = .ok (.aload_n 0, 1) := by decide +kernel
theorem dJ5_putStringAt_47b60_1 : decode cJ5_putStringAt_47b60 1 = .ok (.aload_n 2, 1) := by decide +kernel
theorem dJ5_putStringAt_47b60_2 : decode cJ5_putStringAt_47b60 2 = .ok (.invokevirtual 397, 3) := by decide +kernel
theorem dJ5_putStringAt_47b60_5 : decode cJ5_putStringAt_47b60 5 = .ok (.aload_n 2, 1) := by decide +kernel
theorem dJ5_putStringAt_47b60_6 : decode cJ5_putStringAt_47b60 6 = .ok (.aload_n 0, 1) := by decide +kernel
theorem dJ5_putStringAt_47b60_7 : decode cJ5_putStringAt_47b60 7 = .ok (.getfield 15, 3) := by decide +kernel
theorem dJ5_putStringAt_47b60_10 : decode cJ5_putStringAt_47b60 10 = .ok (.iload_n 1, 1) := by decide +kernel
theorem dJ5_putStringAt_47b60_11 : decode cJ5_putStringAt_47b60 11 = .ok (.aload_n 0, 1) := by decide +kernel
theorem dJ5_putStringAt_47b60_12 : decode cJ5_putStringAt_47b60 12 = .ok (.getfield 22, 3) := by decide +kernel
theorem dJ5_putStringAt_47b60_15 : decode cJ5_putStringAt_47b60 15 = .ok (.invokevirtual 399, 3) := by decide +kernel
theorem dJ5_putStringAt_47b60_18 : decode cJ5_putStringAt_47b60 18 = .ok (.return_, 1) := by decide +kernel
theorem dJ5_append_cf1ce_0 : decode cJ5_append_cf1ce 0 = .ok (.aload_n 1, 1) := by decide +kernel
theorem dJ5_append_cf1ce_1 : decode cJ5_append_cf1ce 1 = .ok (.ifnonnull 8, 3) := by decide +kernel
theorem dJ5_append_cf1ce_4 : decode cJ5_append_cf1ce 4 = .ok (.aload_n 0, 1) := by decide +kernel
theorem dJ5_append_cf1ce_5 : decode cJ5_append_cf1ce 5 = .ok (.invokevirtual 204, 3) := by decide +kernel
theorem dJ5_append_cf1ce_8 : decode cJ5_append_cf1ce 8 = .ok (.areturn, 1) := by decide +kernel
theorem dJ5_append_cf1ce_9 : decode cJ5_append_cf1ce 9 = .ok (.aload_n 1, 1) := by decide +kernel
theorem dJ5_append_cf1ce_10 : decode cJ5_append_cf1ce 10 = .ok (.invokevirtual 32, 3) := by decide +kernel
theorem dJ5_append_cf1ce_13 : decode cJ5_append_cf1ce 13 = .ok (.istore_n 2, 1) := by decide +kernel
theorem dJ5_append_cf1ce_14 : decode cJ5_append_cf1ce 14 = .ok (.aload_n 0, 1) := by decide +kernel
theorem dJ5_append_cf1ce_15 : decode cJ5_append_cf1ce 15 = .ok (.aload_n 0, 1) := by decide +kernel
theorem dJ5_append_cf1ce_16 : decode cJ5_append_cf1ce 16 = .ok (.getfield 79, 3) := by decide +kernel
theorem dJ5_append_cf1ce_19 : decode cJ5_append_cf1ce 19 = .ok (.iload_n 2, 1) := by decide +kernel
theorem dJ5_append_cf1ce_20 : decode cJ5_append_cf1ce 20 = .ok (.iadd, 1) := by decide +kernel
theorem dJ5_append_cf1ce_21 : decode cJ5_append_cf1ce 21 = .ok (.invokevirtual 100, 3) := by decide +kernel
theorem dJ5_append_cf1ce_24 : decode cJ5_append_cf1ce 24 = .ok (.aload_n 0, 1) := by decide +kernel
theorem dJ5_append_cf1ce_25 : decode cJ5_append_cf1ce 25 = .ok (.aload_n 0, 1) := by decide +kernel
theorem dJ5_append_cf1ce_26 : decode cJ5_append_cf1ce 26 = .ok (.getfield 79, 3) := by decide +kernel
theorem dJ5_append_cf1ce_29 : decode cJ5_append_cf1ce 29 = .ok (.aload_n 1, 1) := by decide +kernel
theorem dJ5_append_cf1ce_30 : decode cJ5_append_cf1ce 30 = .ok (.invokevirtual 208, 3) := by decide +kernel
theorem dJ5_append_cf1ce_33 : decode cJ5_append_cf1ce 33 = .ok (.aload_n 0, 1) := by decide +kernel
theorem dJ5_append_cf1ce_34 : decode cJ5_append_cf1ce 34 = .ok (.dup, 1) := by decide +kernel
theorem dJ5_append_cf1ce_35 : decode cJ5_append_cf1ce 35 = .ok (.getfield 79, 3) := by decide +kernel
theorem dJ5_append_cf1ce_38 : decode cJ5_append_cf1ce 38 = .ok (.iload_n 2, 1) := by decide +kernel
theorem dJ5_append_cf1ce_39 : decode cJ5_append_cf1ce 39 = .ok (.iadd, 1) := by decide +kernel
theorem dJ5_append_cf1ce_40 : decode cJ5_append_cf1ce 40 = .ok (.putfield 79, 3) := by decide +kernel
theorem dJ5_append_cf1ce_43 : decode cJ5_append_cf1ce 43 = .ok (.aload_n 0, 1) := by decide +kernel
theorem dJ5_append_cf1ce_44 : decode cJ5_append_cf1ce 44 = .ok (.areturn, 1) := by decide +kernel
theorem dJ4_append_15ec4_0 : decode cJ4_append_15ec4 0 = .ok (.aload_n 0, 1) := by decide +kernel
theorem dJ4_append_15ec4_1 : decode cJ4_append_15ec4 1 = .ok (.aload_n 1, 1) := by decide +kernel
theorem dJ4_append_15ec4_2 : decode cJ4_append_15ec4 2 = .ok (.invokespecial 29, 3) := by decide +kernel
theorem dJ4_append_15ec4_5 : decode cJ4_append_15ec4 5 = .ok (.pop, 1) := by decide +kernel
theorem dJ4_append_15ec4_6 : decode cJ4_append_15ec4 6 = .ok (.aload_n 0, 1) := by decide +kernel
theorem dJ4_append_15ec4_7 : decode cJ4_append_15ec4 7 = .ok (.areturn, 1) := by decide +kernel
theorem dJ6_getChars_ba4f3_0 : decode cJ6_getChars_ba4f3 0 = .ok (.iload_n 1, 1) := by decide +kernel
theorem dJ6_getChars_ba4f3_1 : decode cJ6_getChars_ba4f3 1 = .ok (.istore 5, 2) := by decide +kernel
theorem dJ6_getChars_ba4f3_3 : decode cJ6_getChars_ba4f3 3 = .ok (.iload_n 0, 1) := by decide +kernel
theorem dJ6_getChars_ba4f3_4 : decode cJ6_getChars_ba4f3 4 = .ok (.ifCond .ge 7, 3) := by decide +kernel
theorem dJ6_getChars_ba4f3_7 : decode cJ6_getChars_ba4f3 7 = .ok (.iconst 1, 1) := by decide +kernel
theorem dJ6_getChars_ba4f3_8 : decode cJ6_getChars_ba4f3 8 = .ok (.goto 4, 3) := by decide +kernel
theorem dJ6_getChars_ba4f3_11 : decode cJ6_getChars_ba4f3 11 = .ok (.iconst 0, 1) := by decide +kernel
theorem dJ6_getChars_ba4f3_12 : decode cJ6_getChars_ba4f3 12 = .ok (.istore 6, 2) := by decide +kernel
theorem dJ6_getChars_ba4f3_14 : decode cJ6_getChars_ba4f3 14 = .ok (.iload 6, 2) := by decide +kernel
theorem dJ6_getChars_ba4f3_16 : decode cJ6_getChars_ba4f3 16 = .ok (.ifCond .ne 6, 3) := by decide +kernel
theorem dJ6_getChars_ba4f3_19 : decode cJ6_getChars_ba4f3 19 = .ok (.iload_n 0, 1) := by decide +kernel
theorem dJ6_getChars_ba4f3_20 : decode cJ6_getChars_ba4f3 20 = .ok (.ineg, 1) := by decide +kernel
theorem dJ6_getChars_ba4f3_21 : decode cJ6_getChars_ba4f3 21 = .ok (.istore_n 0, 1) := by decide +kernel
theorem dJ6_getChars_ba4f3_22 : decode cJ6_getChars_ba4f3 22 = .ok (.iload_n 0, 1) := by decide +kernel
theorem dJ6_getChars_ba4f3_23 : decode cJ6_getChars_ba4f3 23 = .ok (.bipush (-100), 2) := by decide +kernel
theorem dJ6_getChars_ba4f3_25 : decode cJ6_getChars_ba4f3 25 = .ok (.if_icmp .gt 47, 3) := by decide +kernel
theorem dJ6_getChars_ba4f3_28 : decode cJ6_getChars_ba4f3 28 = .ok (.iload_n 0, 1) := by decide +kernel
theorem dJ6_getChars_ba4f3_29 : decode cJ6_getChars_ba4f3 29 = .ok (.bipush 100, 2) := by decide +kernel
theorem dJ6_getChars_ba4f3_31 : decode cJ6_getChars_ba4f3 31 = .ok (.idiv, 1) := by decide +kernel
theorem dJ6_getChars_ba4f3_32 : decode cJ6_getChars_ba4f3 32 = .ok (.istore_n 3, 1) := by decide +kernel
theorem dJ6_getChars_ba4f3_33 : decode cJ6_getChars_ba4f3 33 = .ok (.iload_n 3, 1) := by decide +kernel
theorem dJ6_getChars_ba4f3_34 : decode cJ6_getChars_ba4f3 34 = .ok (.bipush 100, 2) := by decide +kernel
theorem dJ6_getChars_ba4f3_36 : decode cJ6_getChars_ba4f3 36 = .ok (.imul, 1) := by decide +kernel
theorem dJ6_getChars_ba4f3_37 : decode cJ6_getChars_ba4f3 37 = .ok (.iload_n 0, 1) := by decide +kernel
theorem dJ6_getChars_ba4f3_38 : decode cJ6_getChars_ba4f3 38 = .ok (.isub, 1) := by decide +kernel
theorem dJ6_getChars_ba4f3_39 : decode cJ6_getChars_ba4f3 39 = .ok (.istore 4, 2) := by decide +kernel
theorem dJ6_getChars_ba4f3_41 : decode cJ6_getChars_ba4f3 41 = .ok (.iload_n 3, 1) := by decide +kernel
theorem dJ6_getChars_ba4f3_42 : decode cJ6_getChars_ba4f3 42 = .ok (.istore_n 0, 1) := by decide +kernel
theorem dJ6_getChars_ba4f3_43 : decode cJ6_getChars_ba4f3 43 = .ok (.aload_n 2, 1) := by decide +kernel
theorem dJ6_getChars_ba4f3_44 : decode cJ6_getChars_ba4f3 44 = .ok (.iinc 5 (-1), 3) := by decide +kernel
theorem dJ6_getChars_ba4f3_47 : decode cJ6_getChars_ba4f3 47 = .ok (.iload 5, 2) := by decide +kernel
theorem dJ6_getChars_ba4f3_49 : decode cJ6_getChars_ba4f3 49 = .ok (.getstatic 83, 3) := by decide +kernel
theorem dJ6_getChars_ba4f3_52 : decode cJ6_getChars_ba4f3 52 = .ok (.iload 4, 2) := by decide +kernel
theorem dJ6_getChars_ba4f3_54 : decode cJ6_getChars_ba4f3 54 = .ok (.baload, 1) := by decide +kernel
theorem dJ6_getChars_ba4f3_55 : decode cJ6_getChars_ba4f3 55 = .ok (.bastore, 1) := by decide +kernel
theorem dJ6_getChars_ba4f3_56 : decode cJ6_getChars_ba4f3 56 = .ok (.aload_n 2, 1) := by decide +kernel
theorem dJ6_getChars_ba4f3_57 : decode cJ6_getChars_ba4f3 57 = .ok (.iinc 5 (-1), 3) := by decide +kernel
theorem dJ6_getChars_ba4f3_60 : decode cJ6_getChars_ba4f3 60 = .ok (.iload 5, 2) := by decide +kernel
theorem dJ6_getChars_ba4f3_62 : decode cJ6_getChars_ba4f3 62 = .ok (.getstatic 87, 3) := by decide +kernel
theorem dJ6_getChars_ba4f3_65 : decode cJ6_getChars_ba4f3 65 = .ok (.iload 4, 2) := by decide +kernel
theorem dJ6_getChars_ba4f3_67 : decode cJ6_getChars_ba4f3 67 = .ok (.baload, 1) := by decide +kernel
theorem dJ6_getChars_ba4f3_68 : decode cJ6_getChars_ba4f3 68 = .ok (.bastore, 1) := by decide +kernel
theorem dJ6_getChars_ba4f3_69 : decode cJ6_getChars_ba4f3 69 = .ok (.goto (-47), 3) := by decide +kernel
theorem dJ6_getChars_ba4f3_72 : decode cJ6_getChars_ba4f3 72 = .ok (.aload_n 2, 1) := by decide +kernel
theorem dJ6_getChars_ba4f3_73 : decode cJ6_getChars_ba4f3 73 = .ok (.iinc 5 (-1), 3) := by decide +kernel
theorem dJ6_getChars_ba4f3_76 : decode cJ6_getChars_ba4f3 76 = .ok (.iload 5, 2) := by decide +kernel
theorem dJ6_getChars_ba4f3_78 : decode cJ6_getChars_ba4f3 78 = .ok (.getstatic 83, 3) := by decide +kernel
theorem dJ6_getChars_ba4f3_81 : decode cJ6_getChars_ba4f3 81 = .ok (.iload_n 0, 1) := by decide +kernel
theorem dJ6_getChars_ba4f3_82 : decode cJ6_getChars_ba4f3 82 = .ok (.ineg, 1) := by decide +kernel
theorem dJ6_getChars_ba4f3_83 : decode cJ6_getChars_ba4f3 83 = .ok (.baload, 1) := by decide +kernel
theorem dJ6_getChars_ba4f3_84 : decode cJ6_getChars_ba4f3 84 = .ok (.bastore, 1) := by decide +kernel
theorem dJ6_getChars_ba4f3_85 : decode cJ6_getChars_ba4f3 85 = .ok (.iload_n 0, 1) := by decide +kernel
theorem dJ6_getChars_ba4f3_86 : decode cJ6_getChars_ba4f3 86 = .ok (.bipush (-9), 2) := by decide +kernel
theorem dJ6_getChars_ba4f3_88 : decode cJ6_getChars_ba4f3 88 = .ok (.if_icmp .ge 16, 3) := by decide +kernel
theorem dJ6_getChars_ba4f3_91 : decode cJ6_getChars_ba4f3 91 = .ok (.aload_n 2, 1) := by decide +kernel
theorem dJ6_getChars_ba4f3_92 : decode cJ6_getChars_ba4f3 92 = .ok (.iinc 5 (-1), 3) := by decide +kernel
theorem dJ6_getChars_ba4f3_95 : decode cJ6_getChars_ba4f3 95 = .ok (.iload 5, 2) := by decide +kernel
theorem dJ6_getChars_ba4f3_97 : decode cJ6_getChars_ba4f3 97 = .ok (.getstatic 87, 3) := by decide +kernel
theorem dJ6_getChars_ba4f3_100 : decode cJ6_getChars_ba4f3 100 = .ok (.iload_n 0, 1) := by decide +kernel
theorem dJ6_getChars_ba4f3_101 : decode cJ6_getChars_ba4f3 101 = .ok (.ineg, 1) := by decide +kernel
theorem dJ6_getChars_ba4f3_102 : decode cJ6_getChars_ba4f3 102 = .ok (.baload, 1) := by decide +kernel
theorem dJ6_getChars_ba4f3_103 : decode cJ6_getChars_ba4f3 103 = .ok (.bastore, 1) := by decide +kernel
theorem dJ6_getChars_ba4f3_104 : decode cJ6_getChars_ba4f3 104 = .ok (.iload 6, 2) := by decide +kernel
theorem dJ6_getChars_ba4f3_106 : decode cJ6_getChars_ba4f3 106 = .ok (.ifCond .eq 12, 3) := by decide +kernel
theorem dJ6_getChars_ba4f3_109 : decode cJ6_getChars_ba4f3 109 = .ok (.aload_n 2, 1) := by decide +kernel
theorem dJ6_getChars_ba4f3_110 : decode cJ6_getChars_ba4f3 110 = .ok (.iinc 5 (-1), 3) := by decide +kernel
theorem dJ6_getChars_ba4f3_113 : decode cJ6_getChars_ba4f3 113 = .ok (.iload 5, 2) := by decide +kernel
theorem dJ6_getChars_ba4f3_115 : decode cJ6_getChars_ba4f3 115 = .ok (.bipush 45, 2) := by decide +kernel
theorem dJ6_getChars_ba4f3_117 : decode cJ6_getChars_ba4f3 117 = .ok (.bastore, 1) := by decide +kernel
theorem dJ6_getChars_ba4f3_118 : decode cJ6_getChars_ba4f3 118 = .ok (.iload 5, 2) := by decide +kernel
theorem dJ6_getChars_ba4f3_120 : decode cJ6_getChars_ba4f3 120 = .ok (.ireturn, 1) := by decide +kernel
theorem dJ5_append_c97b9_0 : decode cJ5_append_c97b9 0 = .ok (.aload_n 0, 1) := by decide +kernel
theorem dJ5_append_c97b9_1 : decode cJ5_append_c97b9 1 = .ok (.getfield 79, 3) := by decide +kernel
theorem dJ5_append_c97b9_4 : decode cJ5_append_c97b9 4 = .ok (.istore_n 2, 1) := by decide +kernel
theorem dJ5_append_c97b9_5 : decode cJ5_append_c97b9 5 = .ok (.iload_n 2, 1) := by decide +kernel
theorem dJ5_append_c97b9_6 : decode cJ5_append_c97b9 6 = .ok (.iload_n 1, 1) := by decide +kernel
theorem dJ5_append_c97b9_7 : decode cJ5_append_c97b9 7 = .ok (.invokestatic 245, 3) := by decide +kernel
theorem dJ5_append_c97b9_10 : decode cJ5_append_c97b9 10 = .ok (.iadd, 1) := by decide +kernel
theorem dJ5_append_c97b9_11 : decode cJ5_append_c97b9 11 = .ok (.istore_n 3, 1) := by decide +kernel
theorem dJ5_append_c97b9_12 : decode cJ5_append_c97b9 12 = .ok (.aload_n 0, 1) := by decide +kernel
theorem dJ5_append_c97b9_13 : decode cJ5_append_c97b9 13 = .ok (.iload_n 3, 1) := by decide +kernel
theorem dJ5_append_c97b9_14 : decode cJ5_append_c97b9 14 = .ok (.invokevirtual 100, 3) := by decide +kernel
theorem dJ5_append_c97b9_17 : decode cJ5_append_c97b9 17 = .ok (.aload_n 0, 1) := by decide +kernel
theorem dJ5_append_c97b9_18 : decode cJ5_append_c97b9 18 = .ok (.invokevirtual 83, 3) := by decide +kernel
theorem dJ5_append_c97b9_21 : decode cJ5_append_c97b9 21 = .ok (.ifCond .eq 16, 3) := by decide +kernel
theorem dJ5_append_c97b9_24 : decode cJ5_append_c97b9 24 = .ok (.iload_n 1, 1) := by decide +kernel
theorem dJ5_append_c97b9_25 : decode cJ5_append_c97b9 25 = .ok (.iload_n 3, 1) := by decide +kernel
theorem dJ5_append_c97b9_26 : decode cJ5_append_c97b9 26 = .ok (.aload_n 0, 1) := by decide +kernel
theorem dJ5_append_c97b9_27 : decode cJ5_append_c97b9 27 = .ok (.getfield 15, 3) := by decide +kernel
theorem dJ5_append_c97b9_30 : decode cJ5_append_c97b9 30 = .ok (.invokestatic 248, 3) := by decide +kernel
theorem dJ5_append_c97b9_33 : decode cJ5_append_c97b9 33 = .ok (.pop, 1) := by decide +kernel
theorem dJ5_append_c97b9_34 : decode cJ5_append_c97b9 34 = .ok (.goto 14, 3) := by decide +kernel
theorem dJ5_append_c97b9_37 : decode cJ5_append_c97b9 37 = .ok (.iload_n 1, 1) := by decide +kernel
theorem dJ5_append_c97b9_38 : decode cJ5_append_c97b9 38 = .ok (.iload_n 2, 1) := by decide +kernel
theorem dJ5_append_c97b9_39 : decode cJ5_append_c97b9 39 = .ok (.iload_n 3, 1) := by decide +kernel
theorem dJ5_append_c97b9_40 : decode cJ5_append_c97b9 40 = .ok (.aload_n 0, 1) := by decide +kernel
theorem dJ5_append_c97b9_41 : decode cJ5_append_c97b9 41 = .ok (.getfield 15, 3) := by decide +kernel
theorem dJ5_append_c97b9_44 : decode cJ5_append_c97b9 44 = .ok (.invokestatic 251, 3) := by decide +kernel
theorem dJ5_append_c97b9_47 : decode cJ5_append_c97b9 47 = .ok (.pop, 1) := by decide +kernel
theorem dJ5_append_c97b9_48 : decode cJ5_append_c97b9 48 = .ok (.aload_n 0, 1) := by decide +kernel
theorem dJ5_append_c97b9_49 : decode cJ5_append_c97b9 49 = .ok (.iload_n 3, 1) := by decide +kernel
theorem dJ5_append_c97b9_50 : decode cJ5_append_c97b9 50 = .ok (.putfield 79, 3) := by decide +kernel
theorem dJ5_append_c97b9_53 : decode cJ5_append_c97b9 53 = .ok (.aload_n 0, 1) := by decide +kernel
theorem dJ5_append_c97b9_54 : decode cJ5_append_c97b9 54 = .ok (.areturn, 1) := by decide +kernel
theorem dJ4_append_bf812_0 : decode cJ4_append_bf812 0 = .ok (.aload_n 0, 1) := by decide +kernel
theorem dJ4_append_bf812_1 : decode cJ4_append_bf812 1 = .ok (.iload_n 1, 1) := by decide +kernel
theorem dJ4_append_bf812_2 : decode cJ4_append_bf812 2 = .ok (.invokespecial 53, 3) := by decide +kernel
theorem dJ4_append_bf812_5 : decode cJ4_append_bf812 5 = .ok (.pop, 1) := by decide +kernel
theorem dJ4_append_bf812_6 : decode cJ4_append_bf812 6 = .ok (.aload_n 0, 1) := by decide +kernel
theorem dJ4_append_bf812_7 : decode cJ4_append_bf812 7 = .ok (.areturn, 1) := by decide +kernel
theorem dJ5_getValue_6d5f1_0 : decode cJ5_getValue_6d5f1 0 = .ok (.aload_n 0, 1) := by decide +kernel
theorem dJ5_getValue_6d5f1_1 : decode cJ5_getValue_6d5f1 1 = .ok (.getfield 15, 3) := by decide +kernel
theorem dJ5_getValue_6d5f1_4 : decode cJ5_getValue_6d5f1 4 = .ok (.areturn, 1) := by decide +kernel
theorem dJ7_checkLength_df160_0 : decode cJ7_checkLength_df160 0 = .ok (.iload_n 1, 1) := by decide +kernel
theorem dJ7_checkLength_df160_1 : decode cJ7_checkLength_df160 1 = .ok (.iload_n 0, 1) := by decide +kernel
theorem dJ7_checkLength_df160_2 : decode cJ7_checkLength_df160 2 = .ok (.if_icmp .ge 35, 3) := by decide +kernel
theorem dJ7_checkLength_df160_5 : decode cJ7_checkLength_df160 5 = .ok (.new 43, 3) := by decide +kernel
theorem dJ7_checkLength_df160_8 : decode cJ7_checkLength_df160 8 = .ok (.dup, 1) := by decide +kernel
theorem dJ7_checkLength_df160_9 : decode cJ7_checkLength_df160 9 = .ok (.new 45, 3) := by decide +kernel
theorem dJ7_checkLength_df160_12 : decode cJ7_checkLength_df160 12 = .ok (.dup, 1) := by decide +kernel
theorem dJ7_checkLength_df160_13 : decode cJ7_checkLength_df160 13 = .ok (.invokespecial 47, 3) := by decide +kernel
theorem dJ7_checkLength_df160_16 : decode cJ7_checkLength_df160 16 = .ok (.iload_n 0, 1) := by decide +kernel
theorem dJ7_checkLength_df160_17 : decode cJ7_checkLength_df160 17 = .ok (.invokevirtual 54, 3) := by decide +kernel
theorem dJ7_checkLength_df160_20 : decode cJ7_checkLength_df160 20 = .ok (.ldc_w 337, 3) := by decide +kernel
theorem dJ7_checkLength_df160_23 : decode cJ7_checkLength_df160 23 = .ok (.invokevirtual 50, 3) := by decide +kernel
theorem dJ7_checkLength_df160_26 : decode cJ7_checkLength_df160 26 = .ok (.iload_n 1, 1) := by decide +kernel
theorem dJ7_checkLength_df160_27 : decode cJ7_checkLength_df160 27 = .ok (.invokevirtual 54, 3) := by decide +kernel
theorem dJ7_checkLength_df160_30 : decode cJ7_checkLength_df160 30 = .ok (.invokevirtual 61, 3) := by decide +kernel
theorem dJ7_checkLength_df160_33 : decode cJ7_checkLength_df160 33 = .ok (.invokespecial 65, 3) := by decide +kernel
theorem dJ7_checkLength_df160_36 : decode cJ7_checkLength_df160 36 = .ok (.athrow, 1) := by decide +kernel
theorem dJ7_checkLength_df160_37 : decode cJ7_checkLength_df160 37 = .ok (.return_, 1) := by decide +kernel
def f_J5_ensureCapacityInternal_d00df_o0 (μ : mu_T) (a1 : Int) : Option mu_T :=
  nm_ (bl_ μ 1) (fun v4 => nm_ (μ 0 1) (fun v6 => nm_ ((sr_ v4 v6)) (fun n10 => lt_ 0 (a1 - n10)
      (none)
      (some μ))))
set_option maxHeartbeats 4000000 in
set_option maxRecDepth 100000 in
theorem c_J5_ensureCapacityInternal_d00df_o0 {G : gp_} {ad : Nat → Nat} (μ : mu_T) (a1 : Int) (μr : mu_T) (h : f_J5_ensureCapacityInternal_d00df_o0 μ a1 = some μr) : mv_ yJ5_ensureCapacityInternal_d00df cJ5_ensureCapacityInternal_d00df 3 ({ frames := 0, cells := 0, slots := 0, locals := 0 } : Room) G 2 ad (ceS G ad) [.ref (ad 0), .int (iI a1)] μ μr := by
  refine mv_in (own := "java/lang/AbstractStringBuilder") (lv := [(0, .ref (ad 0)), (1, .int (iI a1))]) (by decide) rfl rfl (Nat.le_of_ble_eq_true rfl) (fun X C E => ?_)
  unfold f_J5_ensureCapacityInternal_d00df_o0 at h
  refine xx_aload_n C 1 rfl 0 dJ5_ensureCapacityInternal_d00df_0 rfl rfl ?_
  refine xx_getr (fi := 0) C 4 rfl (by decide) (ceS_0 _ _ _) rfl in_J4 (by decide) rfl w_281 dJ5_ensureCapacityInternal_d00df_1 ?_
  refine xx_blen C 5 rfl (by decide) (fun _ => rfl) dJ5_ensureCapacityInternal_d00df_4 h (fun v4 h => ?_)
  refine xx_aload_n C 6 rfl 0 dJ5_ensureCapacityInternal_d00df_5 rfl rfl ?_
  refine xx_geti (fi := 1) (j := 1) C 9 rfl (by decide) (ceS_0 _ _ _) rfl in_J4 (by decide) rfl w_282 dJ5_ensureCapacityInternal_d00df_6 h (fun v6 h => ?_)
  refine xx_ishr C 10 rfl dJ5_ensureCapacityInternal_d00df_9 ?_
  refine xx_nm C h (fun n10 h => ?_)
  refine xx_istore_n (lv1 := [(2, .int (iI n10)), (0, .ref (ad 0)), (1, .int (iI a1))]) C 11 rfl (by decide) dJ5_ensureCapacityInternal_d00df_10 rfl rfl ?_
  refine xx_iload_n C 12 rfl 2 dJ5_ensureCapacityInternal_d00df_11 rfl rfl ?_
  refine xx_iload_n C 13 rfl 0 dJ5_ensureCapacityInternal_d00df_12 rfl rfl ?_
  refine xx_isub C 14 rfl dJ5_ensureCapacityInternal_d00df_13 ?_
  refine xx_if_le (tgt := 38) C 17 rfl dJ5_ensureCapacityInternal_d00df_14 (by decide) h (fun h => ?_) (fun h => ?_)
  · exact xx_vret C E rfl ⟨Nat.le_of_ble_eq_true rfl, Nat.le_of_ble_eq_true rfl⟩ dJ5_ensureCapacityInternal_d00df_38 h
  · refine xx_aload_n C 18 rfl 1 dJ5_ensureCapacityInternal_d00df_17 rfl rfl ?_
    refine xx_aload_n C 19 rfl 1 dJ5_ensureCapacityInternal_d00df_18 rfl rfl ?_
    refine xx_getr (fi := 0) C 22 rfl (by decide) (ceS_0 _ _ _) rfl in_J4 (by decide) rfl w_281 dJ5_ensureCapacityInternal_d00df_19 ?_
    refine xx_aload_n C 23 rfl 1 dJ5_ensureCapacityInternal_d00df_22 rfl rfl ?_
    refine xx_iload_n C 24 rfl 2 dJ5_ensureCapacityInternal_d00df_23 rfl rfl ?_
    exact nn_ h

def f_J5_inflateIfNeededFor_a7421_o0 (μ : mu_T) (a1 : Int) : Option Unit :=
  eq_ 1 0
      (some ())
      (nm_ (μ 0 1) (fun v7 => gd_ (0 ≤ a1 ∧ a1 < 16) (bd_ (f_J0_coder_7d493 μ a1) (fun v11 => eq_ v7 v11
      (some ())
      (none)))))
set_option maxHeartbeats 4000000 in
set_option maxRecDepth 100000 in
theorem c_J5_inflateIfNeededFor_a7421_o0 {G : gp_} {ad : Nat → Nat} (μ : mu_T) (a1 : Int) (u9 : Unit) (h : f_J5_inflateIfNeededFor_a7421_o0 μ a1 = some u9) : mv_ yJ5_inflateIfNeededFor_a7421 cJ5_inflateIfNeededFor_a7421 2 ({ frames := 1, cells := 0, slots := 0, locals := 20 } : Room) G 2 ad (ceS G ad) [.ref (ad 0), .ref (G.2.1 (200 + (a1 : Int).toNat))] μ μ := by
  refine mv_in (own := "java/lang/AbstractStringBuilder") (lv := [(0, .ref (ad 0)), (1, .ref (G.2.1 (200 + (a1 : Int).toNat)))]) (by decide) rfl rfl (Nat.le_of_ble_eq_true rfl) (fun X C E => ?_)
  unfold f_J5_inflateIfNeededFor_a7421_o0 at h
  refine xx_gcs C 3 rfl w_272 dJ5_inflateIfNeededFor_a7421_0 ?_
  refine xx_if_eq (tgt := 21) C 6 rfl dJ5_inflateIfNeededFor_a7421_3 (by decide) h (fun h => ?_) (fun h => ?_)
  · exact xx_vretp C E rfl ⟨Nat.le_of_ble_eq_true rfl, Nat.le_of_ble_eq_true rfl⟩ dJ5_inflateIfNeededFor_a7421_21 h
  · refine xx_aload_n C 7 rfl 0 dJ5_inflateIfNeededFor_a7421_6 rfl rfl ?_
    refine xx_geti (fi := 1) (j := 1) C 10 rfl (by decide) (ceS_0 _ _ _) rfl in_J4 (by decide) rfl w_282 dJ5_inflateIfNeededFor_a7421_7 h (fun v7 h => ?_)
    refine xx_aload_n C 11 rfl 1 dJ5_inflateIfNeededFor_a7421_10 rfl rfl ?_
    refine xx_cKip (As := []) (st := [.int (iI v7)]) (z := a1) C 14 rfl rfl ca_J0_coder_7d493 cv_J0_coder_7d493 w_707 rfl ⟨Nat.le_of_ble_eq_true rfl, Nat.le_of_ble_eq_true rfl⟩ ⟨Nat.le_of_ble_eq_true rfl, Nat.le_of_ble_eq_true rfl⟩ (Nat.le_of_ble_eq_true rfl) dJ5_inflateIfNeededFor_a7421_11 (fun v11 e9 => c_J0_coder_7d493 _ _ v11 e9) h (fun v11 h => ?_) rfl
    refine xx_icmp_eq (tgt := 21) C 17 rfl dJ5_inflateIfNeededFor_a7421_14 (by decide) h (fun h => ?_) (fun h => ?_)
    · exact xx_vretp C E rfl ⟨Nat.le_of_ble_eq_true rfl, Nat.le_of_ble_eq_true rfl⟩ dJ5_inflateIfNeededFor_a7421_21 h
    · refine xx_aload_n C 18 rfl 0 dJ5_inflateIfNeededFor_a7421_17 rfl rfl ?_
      exact nn_ h

def f_J0_getBytes_840e7_o1 (μ : mu_T) (a0 : Int) (a2 : Int) (a3 : Int) : Option mu_T :=
  gd_ (0 ≤ a0 ∧ a0 < 16) (bd_ (f_J0_coder_7d493 μ a0) (fun v1 => eq_ v1 a3
      (gd_ (0 ≤ a0 ∧ a0 < 16) (gd_ (0 ≤ a0 ∧ a0 < 16) (gd_ (0 ≤ a0 ∧ a0 < 16) (as_ μ a0 0 1 (sl_ a2 a3) (sn_ a0) (fun μ22 => some μ22)))))
      (gd_ (0 ≤ a0 ∧ a0 < 16) (gd_ (0 ≤ a0 ∧ a0 < 16) (gd_ (0 ≤ a0 ∧ a0 < 16) (none))))))
set_option maxHeartbeats 4000000 in
set_option maxRecDepth 100000 in
theorem c_J0_getBytes_840e7_o1 {G : gp_} {ad : Nat → Nat} (μ : mu_T) (a0 : Int) (a2 : Int) (a3 : Int) (μr : mu_T) (h : f_J0_getBytes_840e7_o1 μ a0 a2 a3 = some μr) : mv_ yJ0_getBytes_840e7 cJ0_getBytes_840e7 4 ({ frames := 1, cells := 0, slots := 0, locals := 20 } : Room) G 2 ad (ceS G ad) [.ref (G.2.1 (200 + (a0 : Int).toNat)), .ref (ad 1), .int (iI a2), .int (iI a3)] μ μr := by
  refine mv_in (own := "java/lang/String") (lv := [(0, .ref (G.2.1 (200 + (a0 : Int).toNat))), (1, .ref (ad 1)), (2, .int (iI a2)), (3, .int (iI a3))]) (by decide) rfl rfl (Nat.le_of_ble_eq_true rfl) (fun X C E => ?_)
  unfold f_J0_getBytes_840e7_o1 at h
  refine xx_aload_n C 1 rfl 0 dJ0_getBytes_840e7_0 rfl rfl ?_
  refine xx_cKip (As := []) (st := []) (z := a0) C 4 rfl rfl ca_J0_coder_7d493 cv_J0_coder_7d493 w_694 rfl ⟨Nat.le_of_ble_eq_true rfl, Nat.le_of_ble_eq_true rfl⟩ ⟨Nat.le_of_ble_eq_true rfl, Nat.le_of_ble_eq_true rfl⟩ (Nat.le_of_ble_eq_true rfl) dJ0_getBytes_840e7_1 (fun v1 e9 => c_J0_coder_7d493 _ _ v1 e9) h (fun v1 h => ?_) rfl
  refine xx_iload_n C 5 rfl 3 dJ0_getBytes_840e7_4 rfl rfl ?_
  refine xx_icmp_ne (tgt := 28) C 8 rfl dJ0_getBytes_840e7_5 (by decide) h (fun h => ?_) (fun h => ?_)
  · refine xx_aload_n C 29 rfl 0 dJ0_getBytes_840e7_28 rfl rfl ?_
    refine xx_strv C 32 rfl w_805 dJ0_getBytes_840e7_29 h (fun h => ?_)
    refine xx_iconst C 33 rfl dJ0_getBytes_840e7_32 ?_
    refine xx_aload_n C 34 rfl 1 dJ0_getBytes_840e7_33 rfl rfl ?_
    refine xx_iload_n C 35 rfl 2 dJ0_getBytes_840e7_34 rfl rfl ?_
    refine xx_aload_n C 36 rfl 0 dJ0_getBytes_840e7_35 rfl rfl ?_
    refine xx_strv C 39 rfl w_805 dJ0_getBytes_840e7_36 h (fun h => ?_)
    refine xx_svlen C 40 rfl dJ0_getBytes_840e7_39 h (fun h => ?_)
    exact nn_ h
  · refine xx_aload_n C 9 rfl 0 dJ0_getBytes_840e7_8 rfl rfl ?_
    refine xx_strv C 12 rfl w_805 dJ0_getBytes_840e7_9 h (fun h => ?_)
    refine xx_iconst C 13 rfl dJ0_getBytes_840e7_12 ?_
    refine xx_aload_n C 14 rfl 1 dJ0_getBytes_840e7_13 rfl rfl ?_
    refine xx_iload_n C 15 rfl 2 dJ0_getBytes_840e7_14 rfl rfl ?_
    refine xx_iload_n C 16 rfl 3 dJ0_getBytes_840e7_15 rfl rfl ?_
    refine xx_ishl C 17 rfl dJ0_getBytes_840e7_16 ?_
    refine xx_aload_n C 18 rfl 0 dJ0_getBytes_840e7_17 rfl rfl ?_
    refine xx_strv C 21 rfl w_805 dJ0_getBytes_840e7_18 h (fun h => ?_)
    refine xx_svlen C 22 rfl dJ0_getBytes_840e7_21 h (fun h => ?_)
    refine xx_acopyS (q2 := 1) C 25 rfl (by decide) (fun _ => rfl) ⟨w_731, w_421, w_420, w_40⟩ ⟨Nat.le_of_ble_eq_true rfl, Nat.le_of_ble_eq_true rfl⟩ dJ0_getBytes_840e7_22 h (fun μ22 h => ?_)
    refine xx_goto C 43 dJ0_getBytes_840e7_25 (by decide) ?_
    exact xx_vret C E rfl ⟨Nat.le_of_ble_eq_true rfl, Nat.le_of_ble_eq_true rfl⟩ dJ0_getBytes_840e7_43 h

def f_J5_putStringAt_47b60_o0 (μ : mu_T) (a1 : Int) (a2 : Int) : Option mu_T :=
  bd_ (f_J5_inflateIfNeededFor_a7421_o0 μ a2) (fun u2 => nm_ (μ 0 1) (fun v12 => gd_ (0 ≤ a2 ∧ a2 < 16) (bd_ (f_J0_getBytes_840e7_o1 μ a2 a1 v12) (fun μ15 => some μ15))))
set_option maxHeartbeats 4000000 in
set_option maxRecDepth 100000 in
theorem c_J5_putStringAt_47b60_o0 {G : gp_} {ad : Nat → Nat} (μ : mu_T) (a1 : Int) (a2 : Int) (μr : mu_T) (h : f_J5_putStringAt_47b60_o0 μ a1 a2 = some μr) : mv_ yJ5_putStringAt_47b60 cJ5_putStringAt_47b60 3 ({ frames := 2, cells := 0, slots := 0, locals := 43 } : Room) G 2 ad (ceS G ad) [.ref (ad 0), .int (iI a1), .ref (G.2.1 (200 + (a2 : Int).toNat))] μ μr := by
  refine mv_in (own := "java/lang/AbstractStringBuilder") (lv := [(0, .ref (ad 0)), (1, .int (iI a1)), (2, .ref (G.2.1 (200 + (a2 : Int).toNat)))]) (by decide) rfl rfl (Nat.le_of_ble_eq_true rfl) (fun X C E => ?_)
  unfold f_J5_putStringAt_47b60_o0 at h
  refine xx_aload_n C 1 rfl 0 dJ5_putStringAt_47b60_0 rfl rfl ?_
  refine xx_aload_n C 2 rfl 2 dJ5_putStringAt_47b60_1 rfl rfl ?_
  refine xx_cUvp (As := [.ref (G.2.1 (200 + (a2 : Int).toNat))]) (st := []) (o := 0) C 5 rfl (by decide) (ceS_0 _ _ _) rfl ca_J5_inflateIfNeededFor_a7421 cu_J5_inflateIfNeededFor_a7421 se_J5_inflateIfNeededFor_a7421 w_703 rfl ⟨Nat.le_of_ble_eq_true rfl, Nat.le_of_ble_eq_true rfl⟩ ⟨Nat.le_of_ble_eq_true rfl, Nat.le_of_ble_eq_true rfl⟩ (Nat.le_of_ble_eq_true rfl) dJ5_putStringAt_47b60_2 (fun u2 e9 => c_J5_inflateIfNeededFor_a7421_o0 _ _ u2 e9) h (fun u2 h => ?_) rfl
  refine xx_aload_n C 6 rfl 2 dJ5_putStringAt_47b60_5 rfl rfl ?_
  refine xx_aload_n C 7 rfl 0 dJ5_putStringAt_47b60_6 rfl rfl ?_
  refine xx_getr (fi := 0) C 10 rfl (by decide) (ceS_0 _ _ _) rfl in_J4 (by decide) rfl w_281 dJ5_putStringAt_47b60_7 ?_
  refine xx_iload_n C 11 rfl 1 dJ5_putStringAt_47b60_10 rfl rfl ?_
  refine xx_aload_n C 12 rfl 0 dJ5_putStringAt_47b60_11 rfl rfl ?_
  refine xx_geti (fi := 1) (j := 1) C 15 rfl (by decide) (ceS_0 _ _ _) rfl in_J4 (by decide) rfl w_282 dJ5_putStringAt_47b60_12 h (fun v12 h => ?_)
  refine xx_cKv (As := [.ref (ad 1), .int (iI a1), .int (iI v12)]) (st := []) (z := a2) C 18 rfl rfl ca_J0_getBytes_840e7 cv_J0_getBytes_840e7 w_727 rfl ⟨Nat.le_of_ble_eq_true rfl, Nat.le_of_ble_eq_true rfl⟩ ⟨Nat.le_of_ble_eq_true rfl, Nat.le_of_ble_eq_true rfl⟩ (Nat.le_of_ble_eq_true rfl) dJ5_putStringAt_47b60_15 (fun μ15 e9 => c_J0_getBytes_840e7_o1 _ _ _ _ μ15 e9) h (fun μ15 h => ?_) rfl
  exact xx_vret C E rfl ⟨Nat.le_of_ble_eq_true rfl, Nat.le_of_ble_eq_true rfl⟩ dJ5_putStringAt_47b60_18 h

def f_J5_append_cf1ce_o0 (μ : mu_T) (a1 : Int) : Option mu_T :=
  gd_ (0 ≤ a1 ∧ a1 < 16) (bd_ (f_J0_length_8abf5 μ a1) (fun v10 => nm_ (μ 0 3) (fun v16 => bd_ (f_J5_ensureCapacityInternal_d00df_o0 μ (v16 + v10)) (fun μ21 => nm_ (μ21 0 3) (fun v26 => bd_ (f_J5_putStringAt_47b60_o0 μ21 v26 a1) (fun μ30 => nm_ (μ30 0 3) (fun v35 => wf_ μ30 0 3 (v35 + v10) (fun μ40 => some μ40))))))))
set_option maxHeartbeats 4000000 in
set_option maxRecDepth 100000 in
theorem c_J5_append_cf1ce_o0 {G : gp_} {ad : Nat → Nat} (μ : mu_T) (a1 : Int) (μr : mu_T) (h : f_J5_append_cf1ce_o0 μ a1 = some μr) : mo_ yJ5_append_cf1ce cJ5_append_cf1ce 3 (some (Jvm.ClassFile.FieldType.object "java/lang/AbstractStringBuilder")) ({ frames := 3, cells := 0, slots := 0, locals := 65 } : Room) G 2 ad (ceS G ad) [.ref (ad 0), .ref (G.2.1 (200 + (a1 : Int).toNat))] μ 0 μr := by
  refine mo_in (own := "java/lang/AbstractStringBuilder") (lv := [(0, .ref (ad 0)), (1, .ref (G.2.1 (200 + (a1 : Int).toNat)))]) (by decide) rfl rfl (Nat.le_of_ble_eq_true rfl) (fun X C E => ?_)
  unfold f_J5_append_cf1ce_o0 at h
  refine xx_aload_n C 1 rfl 1 dJ5_append_cf1ce_0 rfl rfl ?_
  refine xx_ifnonnull C 9 dJ5_append_cf1ce_1 (by decide) ?_
  refine xx_aload_n C 10 rfl 1 dJ5_append_cf1ce_9 rfl rfl ?_
  refine xx_cKip (As := []) (st := []) (z := a1) C 13 rfl rfl ca_J0_length_8abf5 cv_J0_length_8abf5 w_690 rfl ⟨Nat.le_of_ble_eq_true rfl, Nat.le_of_ble_eq_true rfl⟩ ⟨Nat.le_of_ble_eq_true rfl, Nat.le_of_ble_eq_true rfl⟩ (Nat.le_of_ble_eq_true rfl) dJ5_append_cf1ce_10 (fun v10 e9 => c_J0_length_8abf5 _ _ v10 e9) h (fun v10 h => ?_) rfl
  refine xx_istore_n (lv1 := [(2, .int (iI v10)), (0, .ref (ad 0)), (1, .ref (G.2.1 (200 + (a1 : Int).toNat)))]) C 14 rfl (by decide) dJ5_append_cf1ce_13 rfl rfl ?_
  refine xx_aload_n C 15 rfl 1 dJ5_append_cf1ce_14 rfl rfl ?_
  refine xx_aload_n C 16 rfl 1 dJ5_append_cf1ce_15 rfl rfl ?_
  refine xx_geti (fi := 3) (j := 3) C 19 rfl (by decide) (ceS_0 _ _ _) rfl in_J4 (by decide) rfl w_285 dJ5_append_cf1ce_16 h (fun v16 h => ?_)
  refine xx_iload_n C 20 rfl 0 dJ5_append_cf1ce_19 rfl rfl ?_
  refine xx_iadd C 21 rfl dJ5_append_cf1ce_20 ?_
  refine xx_cUv (As := [.int (iI (v16 + v10))]) (st := []) (o := 0) C 24 rfl (by decide) (ceS_0 _ _ _) rfl ca_J5_ensureCapacityInternal_d00df cu_J5_ensureCapacityInternal_d00df se_J5_ensureCapacityInternal_d00df w_628 rfl ⟨Nat.le_of_ble_eq_true rfl, Nat.le_of_ble_eq_true rfl⟩ ⟨Nat.le_of_ble_eq_true rfl, Nat.le_of_ble_eq_true rfl⟩ (Nat.le_of_ble_eq_true rfl) dJ5_append_cf1ce_21 (fun μ21 e9 => c_J5_ensureCapacityInternal_d00df_o0 _ _ μ21 e9) h (fun μ21 h => ?_) rfl
  refine xx_aload_n C 25 rfl 1 dJ5_append_cf1ce_24 rfl rfl ?_
  refine xx_aload_n C 26 rfl 1 dJ5_append_cf1ce_25 rfl rfl ?_
  refine xx_geti (fi := 3) (j := 3) C 29 rfl (by decide) (ceS_0 _ _ _) rfl in_J4 (by decide) rfl w_285 dJ5_append_cf1ce_26 h (fun v26 h => ?_)
  refine xx_aload_n C 30 rfl 2 dJ5_append_cf1ce_29 rfl rfl ?_
  refine xx_cUv (As := [.int (iI v26), .ref (G.2.1 (200 + (a1 : Int).toNat))]) (st := []) (o := 0) C 33 rfl (by decide) (ceS_0 _ _ _) rfl ca_J5_putStringAt_47b60 cu_J5_putStringAt_47b60 se_J5_putStringAt_47b60 w_699 rfl ⟨Nat.le_of_ble_eq_true rfl, Nat.le_of_ble_eq_true rfl⟩ ⟨Nat.le_of_ble_eq_true rfl, Nat.le_of_ble_eq_true rfl⟩ (Nat.le_of_ble_eq_true rfl) dJ5_append_cf1ce_30 (fun μ30 e9 => c_J5_putStringAt_47b60_o0 _ _ _ μ30 e9) h (fun μ30 h => ?_) rfl
  refine xx_aload_n C 34 rfl 1 dJ5_append_cf1ce_33 rfl rfl ?_
  refine xx_dup C 35 rfl dJ5_append_cf1ce_34 rfl ?_
  refine xx_geti (fi := 3) (j := 3) C 38 rfl (by decide) (ceS_0 _ _ _) rfl in_J4 (by decide) rfl w_285 dJ5_append_cf1ce_35 h (fun v35 h => ?_)
  refine xx_iload_n C 39 rfl 0 dJ5_append_cf1ce_38 rfl rfl ?_
  refine xx_iadd C 40 rfl dJ5_append_cf1ce_39 ?_
  refine xx_puti (fi := 3) (j := 3) C 43 rfl (by decide) (ceS_0 _ _ _) (puS_3 _ _ _ _) rfl in_J4 tyJ4 tyJ4_ok nmJ4 (by decide) (Nat.le_of_ble_eq_true rfl) ⟨rfl, rfl⟩ w_285 dJ5_append_cf1ce_40 h (fun μ40 h => ?_)
  refine xx_aload_n C 44 rfl 1 dJ5_append_cf1ce_43 rfl rfl ?_
  exact xx_aret C E (Or.inl ⟨_, rfl⟩) ⟨Nat.le_of_ble_eq_true rfl, Nat.le_of_ble_eq_true rfl⟩ dJ5_append_cf1ce_44 h

def f_J4_append_15ec4_o0 (μ : mu_T) (a1 : Int) : Option mu_T :=
  bd_ (f_J5_append_cf1ce_o0 μ a1) (fun μ2 => some μ2)
set_option maxHeartbeats 4000000 in
set_option maxRecDepth 100000 in
theorem c_J4_append_15ec4_o0 {G : gp_} {ad : Nat → Nat} (μ : mu_T) (a1 : Int) (μr : mu_T) (h : f_J4_append_15ec4_o0 μ a1 = some μr) : mo_ yJ4_append_15ec4 cJ4_append_15ec4 2 (some (Jvm.ClassFile.FieldType.object "java/lang/StringBuilder")) ({ frames := 4, cells := 0, slots := 0, locals := 87 } : Room) G 2 ad (ceS G ad) [.ref (ad 0), .ref (G.2.1 (200 + (a1 : Int).toNat))] μ 0 μr := by
  refine mo_in (own := "java/lang/StringBuilder") (lv := [(0, .ref (ad 0)), (1, .ref (G.2.1 (200 + (a1 : Int).toNat)))]) (by decide) rfl rfl (Nat.le_of_ble_eq_true rfl) (fun X C E => ?_)
  unfold f_J4_append_15ec4_o0 at h
  refine xx_aload_n C 1 rfl 0 dJ4_append_15ec4_0 rfl rfl ?_
  refine xx_aload_n C 2 rfl 1 dJ4_append_15ec4_1 rfl rfl ?_
  refine xx_cPr (As := [.ref (G.2.1 (200 + (a1 : Int).toNat))]) (st := []) (o := 0) C 5 rfl (by decide) (ceS_0 _ _ _) rfl ca_J5_append_cf1ce cu_J5_append_cf1ce w_294 w_621 rfl ⟨Nat.le_of_ble_eq_true rfl, Nat.le_of_ble_eq_true rfl⟩ ⟨Nat.le_of_ble_eq_true rfl, Nat.le_of_ble_eq_true rfl⟩ (Nat.le_of_ble_eq_true rfl) dJ4_append_15ec4_2 (fun μ2 e9 => c_J5_append_cf1ce_o0 _ _ μ2 e9) h (fun μ2 h => ?_) rfl
  refine xx_pop C 6 rfl dJ4_append_15ec4_5 rfl ?_
  refine xx_aload_n C 7 rfl 0 dJ4_append_15ec4_6 rfl rfl ?_
  exact xx_aret C E (Or.inl ⟨_, rfl⟩) ⟨Nat.le_of_ble_eq_true rfl, Nat.le_of_ble_eq_true rfl⟩ dJ4_append_15ec4_7 h

def f_J5_isLatin1_aae02_o0 (μ : mu_T)  : Option Int :=
  eq_ 1 0
      (some 0)
      (nm_ (μ 0 1) (fun v7 => eq_ v7 0
      (some 1)
      (some 0)))
set_option maxHeartbeats 4000000 in
set_option maxRecDepth 100000 in
theorem c_J5_isLatin1_aae02_o0 {G : gp_} {ad : Nat → Nat} (μ : mu_T)  (a : Int) (h : f_J5_isLatin1_aae02_o0 μ  = some a) : mi_ yJ5_isLatin1_aae02 cJ5_isLatin1_aae02 1 (some .boolean) ({ frames := 0, cells := 0, slots := 0, locals := 0 } : Room) G 2 ad (ceS G ad) [.ref (ad 0)] μ a μ := by
  refine mi_in (own := "java/lang/AbstractStringBuilder") (lv := [(0, .ref (ad 0))]) (by decide) rfl rfl (Nat.le_of_ble_eq_true rfl) (fun X C E => ?_)
  unfold f_J5_isLatin1_aae02_o0 at h
  refine xx_gcs C 3 rfl w_272 dJ5_isLatin1_aae02_0 ?_
  refine xx_if_eq (tgt := 17) C 6 rfl dJ5_isLatin1_aae02_3 (by decide) h (fun h => ?_) (fun h => ?_)
  · refine xx_iconst C 18 rfl dJ5_isLatin1_aae02_17 ?_
    exact xx_zretl C E rfl rfl ⟨Nat.le_of_ble_eq_true rfl, Nat.le_of_ble_eq_true rfl⟩ dJ5_isLatin1_aae02_18 h
  · refine xx_aload_n C 7 rfl 0 dJ5_isLatin1_aae02_6 rfl rfl ?_
    refine xx_geti (fi := 1) (j := 1) C 10 rfl (by decide) (ceS_0 _ _ _) rfl in_J4 (by decide) rfl w_282 dJ5_isLatin1_aae02_7 h (fun v7 h => ?_)
    refine xx_if_ne (tgt := 17) C 13 rfl dJ5_isLatin1_aae02_10 (by decide) h (fun h => ?_) (fun h => ?_)
    · refine xx_iconst C 18 rfl dJ5_isLatin1_aae02_17 ?_
      exact xx_zretl C E rfl rfl ⟨Nat.le_of_ble_eq_true rfl, Nat.le_of_ble_eq_true rfl⟩ dJ5_isLatin1_aae02_18 h
    · refine xx_iconst C 14 rfl dJ5_isLatin1_aae02_13 ?_
      refine xx_goto C 18 dJ5_isLatin1_aae02_14 (by decide) ?_
      exact xx_zretl C E rfl rfl ⟨Nat.le_of_ble_eq_true rfl, Nat.le_of_ble_eq_true rfl⟩ dJ5_isLatin1_aae02_18 h

def f_J6_getChars_ba4f3_o1_L22 (J72 : Int → Int → mu_T → Option (Int × mu_T)) : Nat → Int → Int → mu_T → Option (Int × mu_T)
  | 0, _, _, _ => none
  | fu22 + 1, x0_22, x5_22, μ22 => lt_ (-100) x0_22
      (J72 x0_22 x5_22 μ22)
      (dv_ x0_22 100 (fun v31 => nm_ (((v31 * 100) - x0_22)) (fun n39 => nm_ (x5_22 + (-1)) (fun n44 => gd_ (0 ≤ n39 ∧ n39 < 100) (wb_ μ22 1 n44 (48 + n39 % 10) (fun μ55 => nm_ (n44 + (-1)) (fun n57 => gd_ (0 ≤ n39 ∧ n39 < 100) (wb_ μ55 1 n57 (48 + n39 / 10) (fun μ68 => (f_J6_getChars_ba4f3_o1_L22 J72 fu22) v31 n57 μ68)))))))))
def f_J6_getChars_ba4f3_o1 (μ : mu_T) (a0 : Int) (a1 : Int) : Option (Int × mu_T) :=
  jn_ (φ := Int → Option (Int × mu_T)) (fun s0_12 => jn_ (φ := Int → Option (Int × mu_T)) (fun x0_22 => jn_ (φ := Int → Int → mu_T → Option (Int × mu_T)) (fun x0_72 x5_72 μ72 => nm_ (x5_72 + (-1)) (fun n73 => gd_ (0 ≤ (-x0_72) ∧ (-x0_72) < 100) (wb_ μ72 1 n73 (48 + (-x0_72) % 10) (fun μ84 => jn_ (φ := Int → mu_T → Option (Int × mu_T)) (fun x5_104 μ104 => eq_ s0_12 0
      (some (x5_104, μ104))
      (nm_ (x5_104 + (-1)) (fun n110 => wb_ μ104 1 n110 45 (fun μ117 => some (n110, μ117)))))
      (fun J104 => lt_ x0_72 (-9)
      (nm_ (n73 + (-1)) (fun n92 => gd_ (0 ≤ (-x0_72) ∧ (-x0_72) < 100) (wb_ μ84 1 n92 (48 + (-x0_72) / 10) (fun μ103 => J104 n92 μ103))))
      (J104 n73 μ84))))))
      (fun J72 => f_J6_getChars_ba4f3_o1_L22 J72 20000 x0_22 a1 μ))
      (fun J22 => eq_ s0_12 0
      (nm_ ((-a0)) (fun n21 => J22 n21))
      (J22 a0)))
      (fun J12 => lt_ a0 0
      (J12 1)
      (J12 0))
set_option maxHeartbeats 4000000 in
set_option maxRecDepth 100000 in
theorem c_J6_getChars_ba4f3_o1 {G : gp_} {ad : Nat → Nat} (μ : mu_T) (a0 : Int) (a1 : Int) (a : Int) (μr : mu_T) (h : f_J6_getChars_ba4f3_o1 μ a0 a1 = some (a, μr)) : mi_ yJ6_getChars_ba4f3 cJ6_getChars_ba4f3 7 (some .int) ({ frames := 0, cells := 0, slots := 0, locals := 0 } : Room) G 2 ad (ceS G ad) [.int (iI a0), .int (iI a1), .ref (ad 1)] μ a μr := by
  refine mi_in (own := "java/lang/Integer") (lv := [(0, .int (iI a0)), (1, .int (iI a1)), (2, .ref (ad 1))]) (by decide) rfl rfl (Nat.le_of_ble_eq_true rfl) (fun X C E => ?_)
  unfold f_J6_getChars_ba4f3_o1 at h
  refine xx_iload_n C 1 rfl 1 dJ6_getChars_ba4f3_0 rfl rfl ?_
  refine xx_istore (lv1 := [(5, .int (iI a1)), (0, .int (iI a0)), (1, .int (iI a1)), (2, .ref (ad 1))]) C 3 rfl (by decide) dJ6_getChars_ba4f3_1 rfl ?_
  refine xx_iload_n C 4 rfl 1 dJ6_getChars_ba4f3_3 rfl rfl ?_
  refine jn_r (fun J => ∀ (s0_12 : Int), J s0_12 = some (a, μr) → wx_ G X 2 ad (ceS G ad) μ 0 0 12 [(0, .int (iI a0)), (2, .ref (ad 1)), (5, .int (iI a1))] [.int (iI s0_12)]) h (fun s0_12 h => ?_) (fun J12 K12 h => ?_)
  · refine xx_istore (lv1 := [(6, .int (iI s0_12)), (0, .int (iI a0)), (2, .ref (ad 1)), (5, .int (iI a1))]) C 14 rfl (by decide) dJ6_getChars_ba4f3_12 rfl ?_
    refine xx_iload C 16 rfl 0 dJ6_getChars_ba4f3_14 rfl ?_
    refine jn_r (fun J => ∀ (x0_22 : Int), J x0_22 = some (a, μr) → wx_ G X 2 ad (ceS G ad) μ 0 0 22 [(0, .int (iI x0_22)), (2, .ref (ad 1)), (5, .int (iI a1)), (6, .int (iI s0_12))] []) h (fun x0_22 h => ?_) (fun J22 K22 h => ?_)
    · refine jn_r (fun J => ∀ (x0_72 : Int) (x5_72 : Int) (μ72 : mu_T), J x0_72 x5_72 μ72 = some (a, μr) → wx_ G X 2 ad (ceS G ad) μ72 0 0 72 [(0, .int (iI x0_72)), (2, .ref (ad 1)), (5, .int (iI x5_72)), (6, .int (iI s0_12))] []) h (fun x0_72 x5_72 μ72 h => ?_) (fun J72 K72 h => ?_)
      · refine xx_aload_n C 73 rfl 1 dJ6_getChars_ba4f3_72 rfl rfl ?_
        refine xx_iincn C 76 rfl 2 (by decide) dJ6_getChars_ba4f3_73 rfl h (fun n73 h => ?_)
        refine xx_lv (lv1 := [(5, .int (iI n73)), (0, .int (iI x0_72)), (2, .ref (ad 1)), (6, .int (iI s0_12))]) rfl ?_
        refine xx_iload C 78 rfl 0 dJ6_getChars_ba4f3_76 rfl ?_
        refine xx_gd1 C 81 rfl w_746 dJ6_getChars_ba4f3_78 ?_
        refine xx_iload_n C 82 rfl 1 dJ6_getChars_ba4f3_81 rfl rfl ?_
        refine xx_ineg C 83 rfl dJ6_getChars_ba4f3_82 ?_
        refine xx_d1ld C 84 rfl dJ6_getChars_ba4f3_83 h (fun h => ?_)
        refine xx_bastore C 85 rfl (by decide) (fun _ => rfl) dJ6_getChars_ba4f3_84 h (fun μ84 h => ?_)
        refine xx_iload_n C 86 rfl 1 dJ6_getChars_ba4f3_85 rfl rfl ?_
        refine xx_bipush C 88 rfl dJ6_getChars_ba4f3_86 (by decide) ?_
        refine jn_r (fun J => ∀ (x5_104 : Int) (μ104 : mu_T), J x5_104 μ104 = some (a, μr) → wx_ G X 2 ad (ceS G ad) μ104 0 0 104 [(2, .ref (ad 1)), (5, .int (iI x5_104)), (6, .int (iI s0_12))] []) h (fun x5_104 μ104 h => ?_) (fun J104 K104 h => ?_)
        · refine xx_iload C 106 rfl 2 dJ6_getChars_ba4f3_104 rfl ?_
          refine xx_if_eq (tgt := 118) C 109 rfl dJ6_getChars_ba4f3_106 (by decide) h (fun h => ?_) (fun h => ?_)
          · refine xx_iload C 120 rfl 1 dJ6_getChars_ba4f3_118 rfl ?_
            exact xx_iret C E rfl ⟨Nat.le_of_ble_eq_true rfl, Nat.le_of_ble_eq_true rfl⟩ dJ6_getChars_ba4f3_120 h
          · refine xx_aload_n C 110 rfl 0 dJ6_getChars_ba4f3_109 rfl rfl ?_
            refine xx_iincn C 113 rfl 1 (by decide) dJ6_getChars_ba4f3_110 rfl h (fun n110 h => ?_)
            refine xx_lv (lv1 := [(5, .int (iI n110)), (2, .ref (ad 1)), (6, .int (iI s0_12))]) rfl ?_
            refine xx_iload C 115 rfl 0 dJ6_getChars_ba4f3_113 rfl ?_
            refine xx_bipush C 117 rfl dJ6_getChars_ba4f3_115 (by decide) ?_
            refine xx_bastore C 118 rfl (by decide) (fun _ => rfl) dJ6_getChars_ba4f3_117 h (fun μ117 h => ?_)
            refine xx_iload C 120 rfl 0 dJ6_getChars_ba4f3_118 rfl ?_
            exact xx_iret C E rfl ⟨Nat.le_of_ble_eq_true rfl, Nat.le_of_ble_eq_true rfl⟩ dJ6_getChars_ba4f3_120 h
        · refine xx_icmp_ge (tgt := 104) C 91 rfl dJ6_getChars_ba4f3_88 (by decide) h (fun h => ?_) (fun h => ?_)
          · refine xx_sub [2, 0, 3] rfl ?_
            exact K104 n73 μ84 h
          · refine xx_aload_n C 92 rfl 2 dJ6_getChars_ba4f3_91 rfl rfl ?_
            refine xx_iincn C 95 rfl 0 (by decide) dJ6_getChars_ba4f3_92 rfl h (fun n92 h => ?_)
            refine xx_lv (lv1 := [(5, .int (iI n92)), (0, .int (iI x0_72)), (2, .ref (ad 1)), (6, .int (iI s0_12))]) rfl ?_
            refine xx_iload C 97 rfl 0 dJ6_getChars_ba4f3_95 rfl ?_
            refine xx_gd0 C 100 rfl w_748 dJ6_getChars_ba4f3_97 ?_
            refine xx_iload_n C 101 rfl 1 dJ6_getChars_ba4f3_100 rfl rfl ?_
            refine xx_ineg C 102 rfl dJ6_getChars_ba4f3_101 ?_
            refine xx_d0ld C 103 rfl dJ6_getChars_ba4f3_102 h (fun h => ?_)
            refine xx_bastore C 104 rfl (by decide) (fun _ => rfl) dJ6_getChars_ba4f3_103 h (fun μ103 h => ?_)
            refine xx_sub [2, 0, 3] rfl ?_
            exact K104 n92 μ103 h
      · have L22 : ∀ (fu22 : Nat) (x0_22 : Int) (x5_22 : Int) (μ22 : mu_T), f_J6_getChars_ba4f3_o1_L22 J72 fu22 x0_22 x5_22 μ22 = some (a, μr) → wx_ G X 2 ad (ceS G ad) μ22 0 0 22 [(0, .int (iI x0_22)), (2, .ref (ad 1)), (5, .int (iI x5_22)), (6, .int (iI s0_12))] [] := by
          intro fu22
          induction fu22 with
          | zero => intro x0_22 x5_22 μ22 h; exact nn_ h
          | succ fu22 K22 =>
            intro x0_22 x5_22 μ22 h
            rw [f_J6_getChars_ba4f3_o1_L22] at h
            generalize f_J6_getChars_ba4f3_o1_L22 J72 fu22 = R22 at K22 h
            refine xx_iload_n C 23 rfl 0 dJ6_getChars_ba4f3_22 rfl rfl ?_
            refine xx_bipush C 25 rfl dJ6_getChars_ba4f3_23 (by decide) ?_
            refine xx_icmp_gt (tgt := 72) C 28 rfl dJ6_getChars_ba4f3_25 (by decide) h (fun h => ?_) (fun h => ?_)
            · exact K72 x0_22 x5_22 μ22 h
            · refine xx_iload_n C 29 rfl 0 dJ6_getChars_ba4f3_28 rfl rfl ?_
              refine xx_bipush C 31 rfl dJ6_getChars_ba4f3_29 (by decide) ?_
              refine xx_idiv C 32 rfl dJ6_getChars_ba4f3_31 h (fun v31 h => ?_)
              refine xx_istore_n (lv1 := [(3, .int (iI v31)), (0, .int (iI x0_22)), (2, .ref (ad 1)), (5, .int (iI x5_22)), (6, .int (iI s0_12))]) C 33 rfl (by decide) dJ6_getChars_ba4f3_32 rfl rfl ?_
              refine xx_iload_n C 34 rfl 0 dJ6_getChars_ba4f3_33 rfl rfl ?_
              refine xx_bipush C 36 rfl dJ6_getChars_ba4f3_34 (by decide) ?_
              refine xx_imul C 37 rfl dJ6_getChars_ba4f3_36 ?_
              refine xx_iload_n C 38 rfl 1 dJ6_getChars_ba4f3_37 rfl rfl ?_
              refine xx_isub C 39 rfl dJ6_getChars_ba4f3_38 ?_
              refine xx_nm C h (fun n39 h => ?_)
              refine xx_istore (lv1 := [(4, .int (iI n39)), (3, .int (iI v31)), (0, .int (iI x0_22)), (2, .ref (ad 1)), (5, .int (iI x5_22)), (6, .int (iI s0_12))]) C 41 rfl (by decide) dJ6_getChars_ba4f3_39 rfl ?_
              refine xx_iload_n C 42 rfl 1 dJ6_getChars_ba4f3_41 rfl rfl ?_
              refine xx_istore_n (lv1 := [(0, .int (iI v31)), (4, .int (iI n39)), (3, .int (iI v31)), (2, .ref (ad 1)), (5, .int (iI x5_22)), (6, .int (iI s0_12))]) C 43 rfl (by decide) dJ6_getChars_ba4f3_42 rfl rfl ?_
              refine xx_aload_n C 44 rfl 3 dJ6_getChars_ba4f3_43 rfl rfl ?_
              refine xx_iincn C 47 rfl 4 (by decide) dJ6_getChars_ba4f3_44 rfl h (fun n44 h => ?_)
              refine xx_lv (lv1 := [(5, .int (iI n44)), (0, .int (iI v31)), (4, .int (iI n39)), (3, .int (iI v31)), (2, .ref (ad 1)), (6, .int (iI s0_12))]) rfl ?_
              refine xx_iload C 49 rfl 0 dJ6_getChars_ba4f3_47 rfl ?_
              refine xx_gd1 C 52 rfl w_746 dJ6_getChars_ba4f3_49 ?_
              refine xx_iload C 54 rfl 2 dJ6_getChars_ba4f3_52 rfl ?_
              refine xx_d1ld C 55 rfl dJ6_getChars_ba4f3_54 h (fun h => ?_)
              refine xx_bastore C 56 rfl (by decide) (fun _ => rfl) dJ6_getChars_ba4f3_55 h (fun μ55 h => ?_)
              refine xx_aload_n C 57 rfl 4 dJ6_getChars_ba4f3_56 rfl rfl ?_
              refine xx_iincn C 60 rfl 0 (by decide) dJ6_getChars_ba4f3_57 rfl h (fun n57 h => ?_)
              refine xx_lv (lv1 := [(5, .int (iI n57)), (0, .int (iI v31)), (4, .int (iI n39)), (3, .int (iI v31)), (2, .ref (ad 1)), (6, .int (iI s0_12))]) rfl ?_
              refine xx_iload C 62 rfl 0 dJ6_getChars_ba4f3_60 rfl ?_
              refine xx_gd0 C 65 rfl w_748 dJ6_getChars_ba4f3_62 ?_
              refine xx_iload C 67 rfl 2 dJ6_getChars_ba4f3_65 rfl ?_
              refine xx_d0ld C 68 rfl dJ6_getChars_ba4f3_67 h (fun h => ?_)
              refine xx_bastore C 69 rfl (by decide) (fun _ => rfl) dJ6_getChars_ba4f3_68 h (fun μ68 h => ?_)
              refine xx_goto C 22 dJ6_getChars_ba4f3_69 (by decide) ?_
              refine xx_sub [1, 4, 0, 5] rfl ?_
              exact K22 v31 n57 μ68 h
        exact L22 _ _ _ _ h
    · refine xx_if_ne (tgt := 22) C 19 rfl dJ6_getChars_ba4f3_16 (by decide) h (fun h => ?_) (fun h => ?_)
      · refine xx_sub [1, 2, 3, 0] rfl ?_
        exact K22 a0 h
      · refine xx_iload_n C 20 rfl 1 dJ6_getChars_ba4f3_19 rfl rfl ?_
        refine xx_ineg C 21 rfl dJ6_getChars_ba4f3_20 ?_
        refine xx_nm C h (fun n21 h => ?_)
        refine xx_istore_n (lv1 := [(0, .int (iI n21)), (6, .int (iI s0_12)), (2, .ref (ad 1)), (5, .int (iI a1))]) C 22 rfl (by decide) dJ6_getChars_ba4f3_21 rfl rfl ?_
        refine xx_sub [0, 2, 3, 1] rfl ?_
        exact K22 n21 h
  · refine xx_if_ge (tgt := 11) C 7 rfl dJ6_getChars_ba4f3_4 (by decide) h (fun h => ?_) (fun h => ?_)
    · refine xx_iconst C 12 rfl dJ6_getChars_ba4f3_11 ?_
      refine xx_sub [1, 3, 0] rfl ?_
      exact K12 0 h
    · refine xx_iconst C 8 rfl dJ6_getChars_ba4f3_7 ?_
      refine xx_goto C 12 dJ6_getChars_ba4f3_8 (by decide) ?_
      refine xx_sub [1, 3, 0] rfl ?_
      exact K12 1 h

def f_J5_append_c97b9_o0 (μ : mu_T) (a1 : Int) : Option mu_T :=
  nm_ (μ 0 3) (fun v1 => bd_ (f_J6_stringSize_0f7a4 μ a1) (fun v7 => nm_ ((v1 + v7)) (fun n11 => bd_ (f_J5_ensureCapacityInternal_d00df_o0 μ n11) (fun μ14 => bd_ (f_J5_isLatin1_aae02_o0 μ14) (fun v18 => jn_ (φ := mu_T → Option mu_T) (fun μ48 => wf_ μ48 0 3 n11 (fun μ50 => some μ50))
      (fun J48 => eq_ v18 0
      (none)
      (bp_ (f_J6_getChars_ba4f3_o1 μ14 a1 n11) (fun v30 μ30 => J48 μ30))))))))
set_option maxHeartbeats 4000000 in
set_option maxRecDepth 100000 in
theorem c_J5_append_c97b9_o0 {G : gp_} {ad : Nat → Nat} (μ : mu_T) (a1 : Int) (μr : mu_T) (h : f_J5_append_c97b9_o0 μ a1 = some μr) : mo_ yJ5_append_c97b9 cJ5_append_c97b9 4 (some (Jvm.ClassFile.FieldType.object "java/lang/AbstractStringBuilder")) ({ frames := 1, cells := 0, slots := 0, locals := 26 } : Room) G 2 ad (ceS G ad) [.ref (ad 0), .int (iI a1)] μ 0 μr := by
  refine mo_in (own := "java/lang/AbstractStringBuilder") (lv := [(0, .ref (ad 0)), (1, .int (iI a1))]) (by decide) rfl rfl (Nat.le_of_ble_eq_true rfl) (fun X C E => ?_)
  unfold f_J5_append_c97b9_o0 at h
  refine xx_aload_n C 1 rfl 0 dJ5_append_c97b9_0 rfl rfl ?_
  refine xx_geti (fi := 3) (j := 3) C 4 rfl (by decide) (ceS_0 _ _ _) rfl in_J4 (by decide) rfl w_285 dJ5_append_c97b9_1 h (fun v1 h => ?_)
  refine xx_istore_n (lv1 := [(2, .int (iI v1)), (0, .ref (ad 0)), (1, .int (iI a1))]) C 5 rfl (by decide) dJ5_append_c97b9_4 rfl rfl ?_
  refine xx_iload_n C 6 rfl 0 dJ5_append_c97b9_5 rfl rfl ?_
  refine xx_iload_n C 7 rfl 2 dJ5_append_c97b9_6 rfl rfl ?_
  refine xx_cSip (As := [.int (iI a1)]) (st := [.int (iI v1)]) C 10 rfl  ca_J6_stringSize_0f7a4 cs_J6_stringSize_0f7a4 w_740 rfl ⟨Nat.le_of_ble_eq_true rfl, Nat.le_of_ble_eq_true rfl⟩ ⟨Nat.le_of_ble_eq_true rfl, Nat.le_of_ble_eq_true rfl⟩ (Nat.le_of_ble_eq_true rfl) dJ5_append_c97b9_7 (fun v7 e9 => c_J6_stringSize_0f7a4 _ _ v7 e9) h (fun v7 h => ?_) rfl
  refine xx_iadd C 11 rfl dJ5_append_c97b9_10 ?_
  refine xx_nm C h (fun n11 h => ?_)
  refine xx_istore_n (lv1 := [(3, .int (iI n11)), (2, .int (iI v1)), (0, .ref (ad 0)), (1, .int (iI a1))]) C 12 rfl (by decide) dJ5_append_c97b9_11 rfl rfl ?_
  refine xx_aload_n C 13 rfl 2 dJ5_append_c97b9_12 rfl rfl ?_
  refine xx_iload_n C 14 rfl 0 dJ5_append_c97b9_13 rfl rfl ?_
  refine xx_cUv (As := [.int (iI n11)]) (st := []) (o := 0) C 17 rfl (by decide) (ceS_0 _ _ _) rfl ca_J5_ensureCapacityInternal_d00df cu_J5_ensureCapacityInternal_d00df se_J5_ensureCapacityInternal_d00df w_628 rfl ⟨Nat.le_of_ble_eq_true rfl, Nat.le_of_ble_eq_true rfl⟩ ⟨Nat.le_of_ble_eq_true rfl, Nat.le_of_ble_eq_true rfl⟩ (Nat.le_of_ble_eq_true rfl) dJ5_append_c97b9_14 (fun μ14 e9 => c_J5_ensureCapacityInternal_d00df_o0 _ _ μ14 e9) h (fun μ14 h => ?_) rfl
  refine xx_aload_n C 18 rfl 2 dJ5_append_c97b9_17 rfl rfl ?_
  refine xx_cUip (As := []) (st := []) (o := 0) C 21 rfl (by decide) (ceS_0 _ _ _) rfl ca_J5_isLatin1_aae02 cu_J5_isLatin1_aae02 se_J5_isLatin1_aae02 w_659 rfl ⟨Nat.le_of_ble_eq_true rfl, Nat.le_of_ble_eq_true rfl⟩ ⟨Nat.le_of_ble_eq_true rfl, Nat.le_of_ble_eq_true rfl⟩ (Nat.le_of_ble_eq_true rfl) dJ5_append_c97b9_18 (fun v18 e9 => c_J5_isLatin1_aae02_o0 _ v18 e9) h (fun v18 h => ?_) rfl
  refine jn_r (fun J => ∀ (μ48 : mu_T), J μ48 = some μr → wx_ G X 2 ad (ceS G ad) μ48 0 0 48 [(0, .ref (ad 0)), (3, .int (iI n11))] []) h (fun μ48 h => ?_) (fun J48 K48 h => ?_)
  · refine xx_aload_n C 49 rfl 0 dJ5_append_c97b9_48 rfl rfl ?_
    refine xx_iload_n C 50 rfl 1 dJ5_append_c97b9_49 rfl rfl ?_
    refine xx_puti (fi := 3) (j := 3) C 53 rfl (by decide) (ceS_0 _ _ _) (puS_3 _ _ _ _) rfl in_J4 tyJ4 tyJ4_ok nmJ4 (by decide) (Nat.le_of_ble_eq_true rfl) ⟨rfl, rfl⟩ w_285 dJ5_append_c97b9_50 h (fun μ50 h => ?_)
    refine xx_aload_n C 54 rfl 0 dJ5_append_c97b9_53 rfl rfl ?_
    exact xx_aret C E (Or.inl ⟨_, rfl⟩) ⟨Nat.le_of_ble_eq_true rfl, Nat.le_of_ble_eq_true rfl⟩ dJ5_append_c97b9_54 h
  · refine xx_if_eq (tgt := 37) C 24 rfl dJ5_append_c97b9_21 (by decide) h (fun h => ?_) (fun h => ?_)
    · refine xx_iload_n C 38 rfl 3 dJ5_append_c97b9_37 rfl rfl ?_
      refine xx_iload_n C 39 rfl 1 dJ5_append_c97b9_38 rfl rfl ?_
      refine xx_iload_n C 40 rfl 0 dJ5_append_c97b9_39 rfl rfl ?_
      refine xx_aload_n C 41 rfl 2 dJ5_append_c97b9_40 rfl rfl ?_
      refine xx_getr (fi := 0) C 44 rfl (by decide) (ceS_0 _ _ _) rfl in_J4 (by decide) rfl w_281 dJ5_append_c97b9_41 ?_
      exact nn_ h
    · refine xx_iload_n C 25 rfl 3 dJ5_append_c97b9_24 rfl rfl ?_
      refine xx_iload_n C 26 rfl 0 dJ5_append_c97b9_25 rfl rfl ?_
      refine xx_aload_n C 27 rfl 2 dJ5_append_c97b9_26 rfl rfl ?_
      refine xx_getr (fi := 0) C 30 rfl (by decide) (ceS_0 _ _ _) rfl in_J4 (by decide) rfl w_281 dJ5_append_c97b9_27 ?_
      refine xx_cSi (As := [.int (iI a1), .int (iI n11), .ref (ad 1)]) (st := []) C 33 rfl  ca_J6_getChars_ba4f3 cs_J6_getChars_ba4f3 w_743 rfl ⟨Nat.le_of_ble_eq_true rfl, Nat.le_of_ble_eq_true rfl⟩ ⟨Nat.le_of_ble_eq_true rfl, Nat.le_of_ble_eq_true rfl⟩ (Nat.le_of_ble_eq_true rfl) dJ5_append_c97b9_30 (fun v30 μ30 e9 => c_J6_getChars_ba4f3_o1 _ _ _ v30 μ30 e9) h (fun v30 μ30 h => ?_) rfl
      refine xx_pop C 34 rfl dJ5_append_c97b9_33 rfl ?_
      refine xx_goto C 48 dJ5_append_c97b9_34 (by decide) ?_
      refine xx_sub [2, 0] rfl ?_
      exact K48 μ30 h

def f_J4_append_bf812_o0 (μ : mu_T) (a1 : Int) : Option mu_T :=
  bd_ (f_J5_append_c97b9_o0 μ a1) (fun μ2 => some μ2)
set_option maxHeartbeats 4000000 in
set_option maxRecDepth 100000 in
theorem c_J4_append_bf812_o0 {G : gp_} {ad : Nat → Nat} (μ : mu_T) (a1 : Int) (μr : mu_T) (h : f_J4_append_bf812_o0 μ a1 = some μr) : mo_ yJ4_append_bf812 cJ4_append_bf812 2 (some (Jvm.ClassFile.FieldType.object "java/lang/StringBuilder")) ({ frames := 2, cells := 0, slots := 0, locals := 49 } : Room) G 2 ad (ceS G ad) [.ref (ad 0), .int (iI a1)] μ 0 μr := by
  refine mo_in (own := "java/lang/StringBuilder") (lv := [(0, .ref (ad 0)), (1, .int (iI a1))]) (by decide) rfl rfl (Nat.le_of_ble_eq_true rfl) (fun X C E => ?_)
  unfold f_J4_append_bf812_o0 at h
  refine xx_aload_n C 1 rfl 0 dJ4_append_bf812_0 rfl rfl ?_
  refine xx_iload_n C 2 rfl 1 dJ4_append_bf812_1 rfl rfl ?_
  refine xx_cPr (As := [.int (iI a1)]) (st := []) (o := 0) C 5 rfl (by decide) (ceS_0 _ _ _) rfl ca_J5_append_c97b9 cu_J5_append_c97b9 w_294 w_737 rfl ⟨Nat.le_of_ble_eq_true rfl, Nat.le_of_ble_eq_true rfl⟩ ⟨Nat.le_of_ble_eq_true rfl, Nat.le_of_ble_eq_true rfl⟩ (Nat.le_of_ble_eq_true rfl) dJ4_append_bf812_2 (fun μ2 e9 => c_J5_append_c97b9_o0 _ _ μ2 e9) h (fun μ2 h => ?_) rfl
  refine xx_pop C 6 rfl dJ4_append_bf812_5 rfl ?_
  refine xx_aload_n C 7 rfl 0 dJ4_append_bf812_6 rfl rfl ?_
  exact xx_aret C E (Or.inl ⟨_, rfl⟩) ⟨Nat.le_of_ble_eq_true rfl, Nat.le_of_ble_eq_true rfl⟩ dJ4_append_bf812_7 h

def f_J5_length_8abf5_o0 (μ : mu_T)  : Option Int :=
  nm_ (μ 0 3) (fun v1 => some v1)
set_option maxHeartbeats 4000000 in
set_option maxRecDepth 100000 in
theorem c_J5_length_8abf5_o0 {G : gp_} {ad : Nat → Nat} (μ : mu_T)  (a : Int) (h : f_J5_length_8abf5_o0 μ  = some a) : mi_ yJ5_length_8abf5 cJ5_length_8abf5 1 (some .int) ({ frames := 0, cells := 0, slots := 0, locals := 0 } : Room) G 2 ad (ceS G ad) [.ref (ad 0)] μ a μ := by
  refine mi_in (own := "java/lang/AbstractStringBuilder") (lv := [(0, .ref (ad 0))]) (by decide) rfl rfl (Nat.le_of_ble_eq_true rfl) (fun X C E => ?_)
  unfold f_J5_length_8abf5_o0 at h
  refine xx_aload_n C 1 rfl 0 dJ5_length_8abf5_0 rfl rfl ?_
  refine xx_geti (fi := 3) (j := 3) C 4 rfl (by decide) (ceS_0 _ _ _) rfl in_J4 (by decide) rfl w_285 dJ5_length_8abf5_1 h (fun v1 h => ?_)
  exact xx_iretp C E rfl ⟨Nat.le_of_ble_eq_true rfl, Nat.le_of_ble_eq_true rfl⟩ dJ5_length_8abf5_4 h

def f_J4_length_8abf5_o0 (μ : mu_T)  : Option Int :=
  bd_ (f_J5_length_8abf5_o0 μ) (fun v1 => some v1)
set_option maxHeartbeats 4000000 in
set_option maxRecDepth 100000 in
theorem c_J4_length_8abf5_o0 {G : gp_} {ad : Nat → Nat} (μ : mu_T)  (a : Int) (h : f_J4_length_8abf5_o0 μ  = some a) : mi_ yJ4_length_8abf5 cJ4_length_8abf5 1 (some .int) ({ frames := 1, cells := 0, slots := 0, locals := 20 } : Room) G 2 ad (ceS G ad) [.ref (ad 0)] μ a μ := by
  refine mi_in (own := "java/lang/StringBuilder") (lv := [(0, .ref (ad 0))]) (by decide) rfl rfl (Nat.le_of_ble_eq_true rfl) (fun X C E => ?_)
  unfold f_J4_length_8abf5_o0 at h
  refine xx_aload_n C 1 rfl 0 dJ4_length_8abf5_0 rfl rfl ?_
  refine xx_cPip (As := []) (st := []) (o := 0) C 4 rfl (by decide) (ceS_0 _ _ _) rfl ca_J5_length_8abf5 cu_J5_length_8abf5 w_294 w_390 rfl ⟨Nat.le_of_ble_eq_true rfl, Nat.le_of_ble_eq_true rfl⟩ ⟨Nat.le_of_ble_eq_true rfl, Nat.le_of_ble_eq_true rfl⟩ (Nat.le_of_ble_eq_true rfl) dJ4_length_8abf5_1 (fun v1 e9 => c_J5_length_8abf5_o0 _ v1 e9) h (fun v1 h => ?_) rfl
  exact xx_iretp C E rfl ⟨Nat.le_of_ble_eq_true rfl, Nat.le_of_ble_eq_true rfl⟩ dJ4_length_8abf5_4 h

def f_J5_getValue_6d5f1_o0 (μ : mu_T)  : Option mu_T :=
  some μ
set_option maxHeartbeats 4000000 in
set_option maxRecDepth 100000 in
theorem c_J5_getValue_6d5f1_o0 {G : gp_} {ad : Nat → Nat} (μ : mu_T)  (μr : mu_T) (h : f_J5_getValue_6d5f1_o0 μ  = some μr) : mo_ yJ5_getValue_6d5f1 cJ5_getValue_6d5f1 1 (some (Jvm.ClassFile.FieldType.array Jvm.ClassFile.FieldType.byte)) ({ frames := 0, cells := 0, slots := 0, locals := 0 } : Room) G 2 ad (ceS G ad) [.ref (ad 0)] μ 1 μr := by
  refine mo_in (own := "java/lang/AbstractStringBuilder") (lv := [(0, .ref (ad 0))]) (by decide) rfl rfl (Nat.le_of_ble_eq_true rfl) (fun X C E => ?_)
  unfold f_J5_getValue_6d5f1_o0 at h
  refine xx_aload_n C 1 rfl 0 dJ5_getValue_6d5f1_0 rfl rfl ?_
  refine xx_getr (fi := 0) C 4 rfl (by decide) (ceS_0 _ _ _) rfl in_J4 (by decide) rfl w_281 dJ5_getValue_6d5f1_1 ?_
  exact xx_aret C E (Or.inr rfl) ⟨Nat.le_of_ble_eq_true rfl, Nat.le_of_ble_eq_true rfl⟩ dJ5_getValue_6d5f1_4 h

def f_J7_checkLength_df160 (μ : mu_T) (a0 : Int) (a1 : Int) : Option mu_T :=
  lt_ a1 a0
      (none)
      (some μ)
set_option maxHeartbeats 4000000 in
set_option maxRecDepth 100000 in
theorem c_J7_checkLength_df160 {G : gp_} {ad : Nat → Nat} (μ : mu_T) (a0 : Int) (a1 : Int) (μr : mu_T) (h : f_J7_checkLength_df160 μ a0 a1 = some μr) : mv_ yJ7_checkLength_df160 cJ7_checkLength_df160 2 ({ frames := 0, cells := 0, slots := 0, locals := 0 } : Room) G 2 ad (ceS G ad) [.int (iI a0), .int (iI a1)] μ μr := by
  refine mv_in (own := "java/util/Arrays") (lv := [(0, .int (iI a0)), (1, .int (iI a1))]) (by decide) rfl rfl (Nat.le_of_ble_eq_true rfl) (fun X C E => ?_)
  unfold f_J7_checkLength_df160 at h
  refine xx_iload_n C 1 rfl 1 dJ7_checkLength_df160_0 rfl rfl ?_
  refine xx_iload_n C 2 rfl 0 dJ7_checkLength_df160_1 rfl rfl ?_
  refine xx_icmp_ge (tgt := 37) C 5 rfl dJ7_checkLength_df160_2 (by decide) h (fun h => ?_) (fun h => ?_)
  · exact xx_vret C E rfl ⟨Nat.le_of_ble_eq_true rfl, Nat.le_of_ble_eq_true rfl⟩ dJ7_checkLength_df160_37 h
  · exact nn_ h

