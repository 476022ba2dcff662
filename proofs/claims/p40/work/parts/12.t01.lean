theorem dJ5_length_8abf5_0 : decode cJ5_length_8abf5 0 = .ok (.aload_n 0, 1) := by decide +kernel
theorem dJ5_length_8abf5_1 : decode cJ5_length_8abf5 1 = .ok (.getfield 79, 3) := by decide +kernel
theorem dJ5_length_8abf5_4 : decode cJ5_length_8abf5 4 = .ok (.ireturn, 1) := by decide +kernel
theorem dJ4_length_8abf5_0 : decode cJ4_length_8abf5 0 = .ok (.aload_n 0, 1) := by decide +kernel
theorem dJ4_length_8abf5_1 : decode cJ4_length_8abf5 1 = .ok (.invokespecial 343, 3) := by decide +kernel
theorem dJ4_length_8abf5_4 : decode cJ4_length_8abf5 4 = .ok (.ireturn, 1) := by decide +kernel
theorem dJ8_hugeLength_7cf53_0 : decode cJ8_hugeLength_7cf53 0 = .ok (.iload_n 0, 1) := by decide +kernel
theorem dJ8_hugeLength_7cf53_1 : decode cJ8_hugeLength_7cf53 1 = .ok (.iload_n 1, 1) := by decide +kernel
theorem dJ8_hugeLength_7cf53_2 : decode cJ8_hugeLength_7cf53 2 = .ok (.iadd, 1) := by decide +kernel
theorem dJ8_hugeLength_7cf53_3 : decode cJ8_hugeLength_7cf53 3 = .ok (.istore_n 2, 1) := by decide +kernel
theorem dJ8_hugeLength_7cf53_4 : decode cJ8_hugeLength_7cf53 4 = .ok (.iload_n 2, 1) := by decide +kernel
theorem dJ8_hugeLength_7cf53_5 : decode cJ8_hugeLength_7cf53 5 = .ok (.ifCond .ge 44, 3) := by decide +kernel
theorem dJ8_hugeLength_7cf53_8 : decode cJ8_hugeLength_7cf53 8 = .ok (.new 204, 3) := by decide +kernel
theorem dJ8_hugeLength_7cf53_11 : decode cJ8_hugeLength_7cf53 11 = .ok (.dup, 1) := by decide +kernel
theorem dJ8_hugeLength_7cf53_12 : decode cJ8_hugeLength_7cf53 12 = .ok (.new 89, 3) := by decide +kernel
theorem dJ8_hugeLength_7cf53_15 : decode cJ8_hugeLength_7cf53 15 = .ok (.dup, 1) := by decide +kernel
theorem dJ8_hugeLength_7cf53_16 : decode cJ8_hugeLength_7cf53 16 = .ok (.invokespecial 91, 3) := by decide +kernel
theorem dJ8_hugeLength_7cf53_19 : decode cJ8_hugeLength_7cf53 19 = .ok (.ldc 206, 2) := by decide +kernel
theorem dJ8_hugeLength_7cf53_21 : decode cJ8_hugeLength_7cf53 21 = .ok (.invokevirtual 94, 3) := by decide +kernel
theorem dJ8_hugeLength_7cf53_24 : decode cJ8_hugeLength_7cf53 24 = .ok (.iload_n 0, 1) := by decide +kernel
theorem dJ8_hugeLength_7cf53_25 : decode cJ8_hugeLength_7cf53 25 = .ok (.invokevirtual 98, 3) := by decide +kernel
theorem dJ8_hugeLength_7cf53_28 : decode cJ8_hugeLength_7cf53 28 = .ok (.ldc 208, 2) := by decide +kernel
theorem dJ8_hugeLength_7cf53_30 : decode cJ8_hugeLength_7cf53 30 = .ok (.invokevirtual 94, 3) := by decide +kernel
theorem dJ8_hugeLength_7cf53_33 : decode cJ8_hugeLength_7cf53 33 = .ok (.iload_n 1, 1) := by decide +kernel
theorem dJ8_hugeLength_7cf53_34 : decode cJ8_hugeLength_7cf53 34 = .ok (.invokevirtual 98, 3) := by decide +kernel
theorem dJ8_hugeLength_7cf53_37 : decode cJ8_hugeLength_7cf53 37 = .ok (.ldc 210, 2) := by decide +kernel
theorem dJ8_hugeLength_7cf53_39 : decode cJ8_hugeLength_7cf53 39 = .ok (.invokevirtual 94, 3) := by decide +kernel
theorem dJ8_hugeLength_7cf53_42 : decode cJ8_hugeLength_7cf53 42 = .ok (.invokevirtual 101, 3) := by decide +kernel
theorem dJ8_hugeLength_7cf53_45 : decode cJ8_hugeLength_7cf53 45 = .ok (.invokespecial 212, 3) := by decide +kernel
theorem dJ8_hugeLength_7cf53_48 : decode cJ8_hugeLength_7cf53 48 = .ok (.athrow, 1) := by decide +kernel
theorem dJ8_hugeLength_7cf53_49 : decode cJ8_hugeLength_7cf53 49 = .ok (.iload_n 2, 1) := by decide +kernel
theorem dJ8_hugeLength_7cf53_50 : decode cJ8_hugeLength_7cf53 50 = .ok (.ldc 200, 2) := by decide +kernel
theorem dJ8_hugeLength_7cf53_52 : decode cJ8_hugeLength_7cf53 52 = .ok (.if_icmp .gt 6, 3) := by decide +kernel
theorem dJ8_hugeLength_7cf53_55 : decode cJ8_hugeLength_7cf53 55 = .ok (.ldc 200, 2) := by decide +kernel
theorem dJ8_hugeLength_7cf53_57 : decode cJ8_hugeLength_7cf53 57 = .ok (.ireturn, 1) := by decide +kernel
theorem dJ8_hugeLength_7cf53_58 : decode cJ8_hugeLength_7cf53 58 = .ok (.iload_n 2, 1) := by decide +kernel
theorem dJ8_hugeLength_7cf53_59 : decode cJ8_hugeLength_7cf53 59 = .ok (.ireturn, 1) := by decide +kernel
theorem dJ8_newLength_cabcc_0 : decode cJ8_newLength_cabcc 0 = .ok (.iload_n 0, 1) := by decide +kernel
theorem dJ8_newLength_cabcc_1 : decode cJ8_newLength_cabcc 1 = .ok (.iload_n 1, 1) := by decide +kernel
theorem dJ8_newLength_cabcc_2 : decode cJ8_newLength_cabcc 2 = .ok (.iload_n 2, 1) := by decide +kernel
theorem dJ8_newLength_cabcc_3 : decode cJ8_newLength_cabcc 3 = .ok (.invokestatic 194, 3) := by decide +kernel
theorem dJ8_newLength_cabcc_6 : decode cJ8_newLength_cabcc 6 = .ok (.iadd, 1) := by decide +kernel
theorem dJ8_newLength_cabcc_7 : decode cJ8_newLength_cabcc 7 = .ok (.istore_n 3, 1) := by decide +kernel
theorem dJ8_newLength_cabcc_8 : decode cJ8_newLength_cabcc 8 = .ok (.iconst 0, 1) := by decide +kernel
theorem dJ8_newLength_cabcc_9 : decode cJ8_newLength_cabcc 9 = .ok (.iload_n 3, 1) := by decide +kernel
theorem dJ8_newLength_cabcc_10 : decode cJ8_newLength_cabcc 10 = .ok (.if_icmp .ge 11, 3) := by decide +kernel
theorem dJ8_newLength_cabcc_13 : decode cJ8_newLength_cabcc 13 = .ok (.iload_n 3, 1) := by decide +kernel
theorem dJ8_newLength_cabcc_14 : decode cJ8_newLength_cabcc 14 = .ok (.ldc 200, 2) := by decide +kernel
theorem dJ8_newLength_cabcc_16 : decode cJ8_newLength_cabcc 16 = .ok (.if_icmp .gt 5, 3) := by decide +kernel
theorem dJ8_newLength_cabcc_19 : decode cJ8_newLength_cabcc 19 = .ok (.iload_n 3, 1) := by decide +kernel
theorem dJ8_newLength_cabcc_20 : decode cJ8_newLength_cabcc 20 = .ok (.ireturn, 1) := by decide +kernel
theorem dJ8_newLength_cabcc_21 : decode cJ8_newLength_cabcc 21 = .ok (.iload_n 0, 1) := by decide +kernel
theorem dJ8_newLength_cabcc_22 : decode cJ8_newLength_cabcc 22 = .ok (.iload_n 1, 1) := by decide +kernel
theorem dJ8_newLength_cabcc_23 : decode cJ8_newLength_cabcc 23 = .ok (.invokestatic 201, 3) := by decide +kernel
theorem dJ8_newLength_cabcc_26 : decode cJ8_newLength_cabcc 26 = .ok (.ireturn, 1) := by decide +kernel
theorem dJ5_newCapacity_0f7a4_0 : decode cJ5_newCapacity_0f7a4 0 = .ok (.aload_n 0, 1) := by decide +kernel
theorem dJ5_newCapacity_0f7a4_1 : decode cJ5_newCapacity_0f7a4 1 = .ok (.getfield 15, 3) := by decide +kernel
theorem dJ5_newCapacity_0f7a4_4 : decode cJ5_newCapacity_0f7a4 4 = .ok (.arraylength, 1) := by decide +kernel
theorem dJ5_newCapacity_0f7a4_5 : decode cJ5_newCapacity_0f7a4 5 = .ok (.istore_n 2, 1) := by decide +kernel
theorem dJ5_newCapacity_0f7a4_6 : decode cJ5_newCapacity_0f7a4 6 = .ok (.iload_n 1, 1) := by decide +kernel
theorem dJ5_newCapacity_0f7a4_7 : decode cJ5_newCapacity_0f7a4 7 = .ok (.aload_n 0, 1) := by decide +kernel
theorem dJ5_newCapacity_0f7a4_8 : decode cJ5_newCapacity_0f7a4 8 = .ok (.getfield 22, 3) := by decide +kernel
theorem dJ5_newCapacity_0f7a4_11 : decode cJ5_newCapacity_0f7a4 11 = .ok (.ishl, 1) := by decide +kernel
theorem dJ5_newCapacity_0f7a4_12 : decode cJ5_newCapacity_0f7a4 12 = .ok (.istore_n 3, 1) := by decide +kernel
theorem dJ5_newCapacity_0f7a4_13 : decode cJ5_newCapacity_0f7a4 13 = .ok (.iload_n 3, 1) := by decide +kernel
theorem dJ5_newCapacity_0f7a4_14 : decode cJ5_newCapacity_0f7a4 14 = .ok (.iload_n 2, 1) := by decide +kernel
theorem dJ5_newCapacity_0f7a4_15 : decode cJ5_newCapacity_0f7a4 15 = .ok (.isub, 1) := by decide +kernel
theorem dJ5_newCapacity_0f7a4_16 : decode cJ5_newCapacity_0f7a4 16 = .ok (.istore 4, 2) := by decide +kernel
theorem dJ5_newCapacity_0f7a4_18 : decode cJ5_newCapacity_0f7a4 18 = .ok (.iload_n 2, 1) := by decide +kernel
theorem dJ5_newCapacity_0f7a4_19 : decode cJ5_newCapacity_0f7a4 19 = .ok (.iload 4, 2) := by decide +kernel
theorem dJ5_newCapacity_0f7a4_21 : decode cJ5_newCapacity_0f7a4 21 = .ok (.iload_n 2, 1) := by decide +kernel
theorem dJ5_newCapacity_0f7a4_22 : decode cJ5_newCapacity_0f7a4 22 = .ok (.iconst 2, 1) := by decide +kernel
theorem dJ5_newCapacity_0f7a4_23 : decode cJ5_newCapacity_0f7a4 23 = .ok (.aload_n 0, 1) := by decide +kernel
theorem dJ5_newCapacity_0f7a4_24 : decode cJ5_newCapacity_0f7a4 24 = .ok (.getfield 22, 3) := by decide +kernel
theorem dJ5_newCapacity_0f7a4_27 : decode cJ5_newCapacity_0f7a4 27 = .ok (.ishl, 1) := by decide +kernel
theorem dJ5_newCapacity_0f7a4_28 : decode cJ5_newCapacity_0f7a4 28 = .ok (.iadd, 1) := by decide +kernel
theorem dJ5_newCapacity_0f7a4_29 : decode cJ5_newCapacity_0f7a4 29 = .ok (.invokestatic 114, 3) := by decide +kernel
theorem dJ5_newCapacity_0f7a4_32 : decode cJ5_newCapacity_0f7a4 32 = .ok (.istore 5, 2) := by decide +kernel
theorem dJ5_newCapacity_0f7a4_34 : decode cJ5_newCapacity_0f7a4 34 = .ok (.iload 5, 2) := by decide +kernel
theorem dJ5_newCapacity_0f7a4_36 : decode cJ5_newCapacity_0f7a4 36 = .ok (.ldc 39, 2) := by decide +kernel
theorem dJ5_newCapacity_0f7a4_38 : decode cJ5_newCapacity_0f7a4 38 = .ok (.if_icmp .ne 13, 3) := by decide +kernel
theorem dJ5_newCapacity_0f7a4_41 : decode cJ5_newCapacity_0f7a4 41 = .ok (.new 120, 3) := by decide +kernel
theorem dJ5_newCapacity_0f7a4_44 : decode cJ5_newCapacity_0f7a4 44 = .ok (.dup, 1) := by decide +kernel
theorem dJ5_newCapacity_0f7a4_45 : decode cJ5_newCapacity_0f7a4 45 = .ok (.ldc 122, 2) := by decide +kernel
theorem dJ5_newCapacity_0f7a4_47 : decode cJ5_newCapacity_0f7a4 47 = .ok (.invokespecial 124, 3) := by decide +kernel
theorem dJ5_newCapacity_0f7a4_50 : decode cJ5_newCapacity_0f7a4 50 = .ok (.athrow, 1) := by decide +kernel
theorem dJ5_newCapacity_0f7a4_51 : decode cJ5_newCapacity_0f7a4 51 = .ok (.iload 5, 2) := by decide +kernel
theorem dJ5_newCapacity_0f7a4_53 : decode cJ5_newCapacity_0f7a4 53 = .ok (.aload_n 0, 1) := by decide +kernel
theorem dJ5_newCapacity_0f7a4_54 : decode cJ5_newCapacity_0f7a4 54 = .ok (.getfield 22, 3) := by decide +kernel
theorem dJ5_newCapacity_0f7a4_57 : decode cJ5_newCapacity_0f7a4 57 = .ok (.ishr, 1) := by decide +kernel
theorem dJ5_newCapacity_0f7a4_58 : decode cJ5_newCapacity_0f7a4 58 = .ok (.ireturn, 1) := by decide +kernel
theorem dJ5_ensureCapacityInternal_d00df_0 : decode cJ5_ensureCapacityInternal_d00df 0 = .ok (.aload_n 0, 1) := by decide +kernel
theorem dJ5_ensureCapacityInternal_d00df_1 : decode cJ5_ensureCapacityInternal_d00df 1 = .ok (.getfield 15, 3) := by decide +kernel
theorem dJ5_ensureCapacityInternal_d00df_4 : decode cJ5_ensureCapacityInternal_d00df 4 = .ok (.arraylength, 1) := by decide +kernel
theorem dJ5_ensureCapacityInternal_d00df_5 : decode cJ5_ensureCapacityInternal_d00df 5 = .ok (.aload_n 0, 1) := by decide +kernel
theorem dJ5_ensureCapacityInternal_d00df_6 : decode cJ5_ensureCapacityInternal_d00df 6 = .ok (.getfield 22, 3) := by decide +kernel
theorem dJ5_ensureCapacityInternal_d00df_9 : decode cJ5_ensureCapacityInternal_d00df 9 = .ok (.ishr, 1) := by decide +kernel
theorem dJ5_ensureCapacityInternal_d00df_10 : decode cJ5_ensureCapacityInternal_d00df 10 = .ok (.istore_n 2, 1) := by decide +kernel
theorem dJ5_ensureCapacityInternal_d00df_11 : decode cJ5_ensureCapacityInternal_d00df 11 = .ok (.iload_n 1, 1) := by decide +kernel
theorem dJ5_ensureCapacityInternal_d00df_12 : decode cJ5_ensureCapacityInternal_d00df 12 = .ok (.iload_n 2, 1) := by decide +kernel
theorem dJ5_ensureCapacityInternal_d00df_13 : decode cJ5_ensureCapacityInternal_d00df 13 = .ok (.isub, 1) := by decide +kernel
theorem dJ5_ensureCapacityInternal_d00df_14 : decode cJ5_ensureCapacityInternal_d00df 14 = .ok (.ifCond .le 24, 3) := by decide +kernel
theorem dJ5_ensureCapacityInternal_d00df_17 : decode cJ5_ensureCapacityInternal_d00df 17 = .ok (.aload_n 0, 1) := by decide +kernel
theorem dJ5_ensureCapacityInternal_d00df_18 : decode cJ5_ensureCapacityInternal_d00df 18 = .ok (.aload_n 0, 1) := by decide +kernel
theorem dJ5_ensureCapacityInternal_d00df_19 : decode cJ5_ensureCapacityInternal_d00df 19 = .ok (.getfield 15, 3) := by decide +kernel
theorem dJ5_ensureCapacityInternal_d00df_22 : decode cJ5_ensureCapacityInternal_d00df 22 = .ok (.aload_n 0, 1) := by decide +kernel
theorem dJ5_ensureCapacityInternal_d00df_23 : decode cJ5_ensureCapacityInternal_d00df 23 = .ok (.iload_n 1, 1) := by decide +kernel
theorem dJ5_ensureCapacityInternal_d00df_24 : decode cJ5_ensureCapacityInternal_d00df 24 = .ok (.invokevirtual 104, 3) := by decide +kernel
theorem dJ5_ensureCapacityInternal_d00df_27 : decode cJ5_ensureCapacityInternal_d00df 27 = .ok (.aload_n 0, 1) := by decide +kernel
theorem dJ5_ensureCapacityInternal_d00df_28 : decode cJ5_ensureCapacityInternal_d00df 28 = .ok (.getfield 22, 3) := by decide +kernel
theorem dJ5_ensureCapacityInternal_d00df_31 : decode cJ5_ensureCapacityInternal_d00df 31 = .ok (.ishl, 1) := by decide +kernel
theorem dJ5_ensureCapacityInternal_d00df_32 : decode cJ5_ensureCapacityInternal_d00df 32 = .ok (.invokestatic 108, 3) := by decide +kernel
theorem dJ5_ensureCapacityInternal_d00df_35 : decode cJ5_ensureCapacityInternal_d00df 35 = .ok (.putfield 15, 3) := by decide +kernel
theorem dJ5_ensureCapacityInternal_d00df_38 : decode cJ5_ensureCapacityInternal_d00df 38 = .ok (.return_, 1) := by decide +kernel
theorem dJ5_isLatin1_aae02_0 : decode cJ5_isLatin1_aae02 0 = .ok (.getstatic 18, 3) := by decide +kernel
theorem dJ5_isLatin1_aae02_3 : decode cJ5_isLatin1_aae02 3 = .ok (.ifCond .eq 14, 3) := by decide +kernel
theorem dJ5_isLatin1_aae02_6 : decode cJ5_isLatin1_aae02 6 = .ok (.aload_n 0, 1) := by decide +kernel
theorem dJ5_isLatin1_aae02_7 : decode cJ5_isLatin1_aae02 7 = .ok (.getfield 22, 3) := by decide +kernel
theorem dJ5_isLatin1_aae02_10 : decode cJ5_isLatin1_aae02 10 = .ok (.ifCond .ne 7, 3) := by decide +kernel
theorem dJ5_isLatin1_aae02_13 : decode cJ5_isLatin1_aae02 13 = .ok (.iconst 1, 1) := by decide +kernel
theorem dJ5_isLatin1_aae02_14 : decode cJ5_isLatin1_aae02 14 = .ok (.goto 4, 3) := by decide +kernel
theorem dJ5_isLatin1_aae02_17 : decode cJ5_isLatin1_aae02 17 = .ok (.iconst 0, 1) := by decide +kernel
theorem dJ5_isLatin1_aae02_18 : decode cJ5_isLatin1_aae02 18 = .ok (.ireturn, 1) := by decide +kernel
theorem dJ5_append_3fe6f_0 : decode cJ5_append_3fe6f 0 = .ok (.aload_n 0, 1) := by decide +kernel
theorem dJ5_append_3fe6f_1 : decode cJ5_append_3fe6f 1 = .ok (.aload_n 0, 1) := by decide +kernel
theorem dJ5_append_3fe6f_2 : decode cJ5_append_3fe6f 2 = .ok (.getfield 79, 3) := by decide +kernel
theorem dJ5_append_3fe6f_5 : decode cJ5_append_3fe6f 5 = .ok (.iconst 1, 1) := by decide +kernel
theorem dJ5_append_3fe6f_6 : decode cJ5_append_3fe6f 6 = .ok (.iadd, 1) := by decide +kernel
theorem dJ5_append_3fe6f_7 : decode cJ5_append_3fe6f 7 = .ok (.invokevirtual 100, 3) := by decide +kernel
theorem dJ5_append_3fe6f_10 : decode cJ5_append_3fe6f 10 = .ok (.aload_n 0, 1) := by decide +kernel
theorem dJ5_append_3fe6f_11 : decode cJ5_append_3fe6f 11 = .ok (.invokevirtual 83, 3) := by decide +kernel
theorem dJ5_append_3fe6f_14 : decode cJ5_append_3fe6f 14 = .ok (.ifCond .eq 31, 3) := by decide +kernel
theorem dJ5_append_3fe6f_17 : decode cJ5_append_3fe6f 17 = .ok (.iload_n 1, 1) := by decide +kernel
theorem dJ5_append_3fe6f_18 : decode cJ5_append_3fe6f 18 = .ok (.invokestatic 191, 3) := by decide +kernel
theorem dJ5_append_3fe6f_21 : decode cJ5_append_3fe6f 21 = .ok (.ifCond .eq 24, 3) := by decide +kernel
theorem dJ5_append_3fe6f_24 : decode cJ5_append_3fe6f 24 = .ok (.aload_n 0, 1) := by decide +kernel
theorem dJ5_append_3fe6f_25 : decode cJ5_append_3fe6f 25 = .ok (.getfield 15, 3) := by decide +kernel
theorem dJ5_append_3fe6f_28 : decode cJ5_append_3fe6f 28 = .ok (.aload_n 0, 1) := by decide +kernel
theorem dJ5_append_3fe6f_29 : decode cJ5_append_3fe6f 29 = .ok (.dup, 1) := by decide +kernel
theorem dJ5_append_3fe6f_30 : decode cJ5_append_3fe6f 30 = .ok (.getfield 79, 3) := by decide +kernel
theorem dJ5_append_3fe6f_33 : decode cJ5_append_3fe6f 33 = .ok (.dup_x1, 1) := by decide +kernel
theorem dJ5_append_3fe6f_34 : decode cJ5_append_3fe6f 34 = .ok (.iconst 1, 1) := by decide +kernel
theorem dJ5_append_3fe6f_35 : decode cJ5_append_3fe6f 35 = .ok (.iadd, 1) := by decide +kernel
theorem dJ5_append_3fe6f_36 : decode cJ5_append_3fe6f 36 = .ok (.putfield 79, 3) := by decide +kernel
theorem dJ5_append_3fe6f_39 : decode cJ5_append_3fe6f 39 = .ok (.iload_n 1, 1) := by decide +kernel
theorem dJ5_append_3fe6f_40 : decode cJ5_append_3fe6f 40 = .ok (.i2b, 1) := by decide +kernel
theorem dJ5_append_3fe6f_41 : decode cJ5_append_3fe6f 41 = .ok (.bastore, 1) := by decide +kernel
theorem dJ5_append_3fe6f_42 : decode cJ5_append_3fe6f 42 = .ok (.goto 33, 3) := by decide +kernel
theorem dJ5_append_3fe6f_45 : decode cJ5_append_3fe6f 45 = .ok (.aload_n 0, 1) := by decide +kernel
theorem dJ5_append_3fe6f_46 : decode cJ5_append_3fe6f 46 = .ok (.invokevirtual 83, 3) := by decide +kernel
theorem dJ5_append_3fe6f_49 : decode cJ5_append_3fe6f 49 = .ok (.ifCond .eq 7, 3) := by decide +kernel
theorem dJ5_append_3fe6f_52 : decode cJ5_append_3fe6f 52 = .ok (.aload_n 0, 1) := by decide +kernel
theorem dJ5_append_3fe6f_53 : decode cJ5_append_3fe6f 53 = .ok (.invokevirtual 195, 3) := by decide +kernel
theorem dJ5_append_3fe6f_56 : decode cJ5_append_3fe6f 56 = .ok (.aload_n 0, 1) := by decide +kernel
theorem dJ5_append_3fe6f_57 : decode cJ5_append_3fe6f 57 = .ok (.getfield 15, 3) := by decide +kernel
theorem dJ5_append_3fe6f_60 : decode cJ5_append_3fe6f 60 = .ok (.aload_n 0, 1) := by decide +kernel
theorem dJ5_append_3fe6f_61 : decode cJ5_append_3fe6f 61 = .ok (.dup, 1) := by decide +kernel
theorem dJ5_append_3fe6f_62 : decode cJ5_append_3fe6f 62 = .ok (.getfield 79, 3) := by decide +kernel
theorem dJ5_append_3fe6f_65 : decode cJ5_append_3fe6f 65 = .ok (.dup_x1, 1) := by decide +kernel
theorem dJ5_append_3fe6f_66 : decode cJ5_append_3fe6f 66 = .ok (.iconst 1, 1) := by decide +kernel
theorem dJ5_append_3fe6f_67 : decode cJ5_append_3fe6f 67 = .ok (.iadd, 1) := by decide +kernel
theorem dJ5_append_3fe6f_68 : decode cJ5_append_3fe6f 68 = .ok (.putfield 79, 3) := by decide +kernel
theorem dJ5_append_3fe6f_71 : decode cJ5_append_3fe6f 71 = .ok (.iload_n 1, 1) := by decide +kernel
theorem dJ5_append_3fe6f_72 : decode cJ5_append_3fe6f 72 = .ok (.invokestatic 197, 3) := by decide +kernel
theorem dJ5_append_3fe6f_75 : decode cJ5_append_3fe6f 75 = .ok (.aload_n 0, 1) := by decide +kernel
theorem dJ5_append_3fe6f_76 : decode cJ5_append_3fe6f 76 = .ok (.areturn, 1) := by decide +kernel
theorem dJ4_append_cf468_0 : decode cJ4_append_cf468 0 = .ok (.aload_n 0, 1) := by decide +kernel
theorem dJ4_append_cf468_1 : decode cJ4_append_cf468 1 = .ok (.iload_n 1, 1) := by decide +kernel
theorem dJ4_append_cf468_2 : decode cJ4_append_cf468 2 = .ok (.invokespecial 50, 3) := by decide +kernel
theorem dJ4_append_cf468_5 : decode cJ4_append_cf468 5 = .ok (.pop, 1) := by decide +kernel
theorem dJ4_append_cf468_6 : decode cJ4_append_cf468 6 = .ok (.aload_n 0, 1) := by decide +kernel
theorem dJ4_append_cf468_7 : decode cJ4_append_cf468 7 = .ok (.areturn, 1) := by decide +kernel
theorem dX6_addSign_0 : decode cX6_addSign 0 = .ok (.iload_n 1, 1) := by decide +kernel
theorem dX6_addSign_1 : decode cX6_addSign 1 = .ok (.bipush 32, 2) := by decide +kernel
theorem dX6_addSign_3 : decode cX6_addSign 3 = .ok (.if_icmp .lt 9, 3) := by decide +kernel
theorem dX6_addSign_6 : decode cX6_addSign 6 = .ok (.iload_n 1, 1) := by decide +kernel
theorem dX6_addSign_7 : decode cX6_addSign 7 = .ok (.bipush 126, 2) := by decide +kernel
theorem dX6_addSign_9 : decode cX6_addSign 9 = .ok (.if_icmp .le 6, 3) := by decide +kernel
theorem dX6_addSign_12 : decode cX6_addSign 12 = .ok (.bipush (-12), 2) := by decide +kernel
theorem dX6_addSign_14 : decode cX6_addSign 14 = .ok (.ireturn, 1) := by decide +kernel
theorem dX6_addSign_15 : decode cX6_addSign 15 = .ok (.aload_n 0, 1) := by decide +kernel
theorem dX6_addSign_16 : decode cX6_addSign 16 = .ok (.getfield 12, 3) := by decide +kernel
theorem dX6_addSign_19 : decode cX6_addSign 19 = .ok (.invokevirtual 44, 3) := by decide +kernel
theorem dX6_addSign_22 : decode cX6_addSign 22 = .ok (.bipush 60, 2) := by decide +kernel
theorem dX6_addSign_24 : decode cX6_addSign 24 = .ok (.if_icmp .lt 6, 3) := by decide +kernel
theorem dX6_addSign_27 : decode cX6_addSign 27 = .ok (.bipush (-13), 2) := by decide +kernel
theorem dX6_addSign_29 : decode cX6_addSign 29 = .ok (.ireturn, 1) := by decide +kernel
theorem dX6_addSign_30 : decode cX6_addSign 30 = .ok (.aload_n 0, 1) := by decide +kernel
theorem dX6_addSign_31 : decode cX6_addSign 31 = .ok (.getfield 12, 3) := by decide +kernel
theorem dX6_addSign_34 : decode cX6_addSign 34 = .ok (.iload_n 1, 1) := by decide +kernel
theorem dX6_addSign_35 : decode cX6_addSign 35 = .ok (.i2c, 1) := by decide +kernel
theorem dX6_addSign_36 : decode cX6_addSign 36 = .ok (.invokevirtual 48, 3) := by decide +kernel
theorem dX6_addSign_39 : decode cX6_addSign 39 = .ok (.pop, 1) := by decide +kernel
theorem dX6_addSign_40 : decode cX6_addSign 40 = .ok (.aload_n 0, 1) := by decide +kernel
theorem dX6_addSign_41 : decode cX6_addSign 41 = .ok (.getfield 12, 3) := by decide +kernel
theorem dX6_addSign_44 : decode cX6_addSign 44 = .ok (.invokevirtual 44, 3) := by decide +kernel
theorem dX6_addSign_47 : decode cX6_addSign 47 = .ok (.ireturn, 1) := by decide +kernel
theorem dX6_signs_0 : decode cX6_signs 0 = .ok (.aload_n 0, 1) := by decide +kernel
theorem dX6_signs_1 : decode cX6_signs 1 = .ok (.getfield 12, 3) := by decide +kernel
theorem dX6_signs_4 : decode cX6_signs 4 = .ok (.invokevirtual 44, 3) := by decide +kernel
theorem dX6_signs_7 : decode cX6_signs 7 = .ok (.ireturn, 1) := by decide +kernel
theorem dJ7_rangeCheck_23922_0 : decode cJ7_rangeCheck_23922 0 = .ok (.iload_n 1, 1) := by decide +kernel
theorem dJ7_rangeCheck_23922_1 : decode cJ7_rangeCheck_23922 1 = .ok (.iload_n 2, 1) := by decide +kernel
theorem dJ7_rangeCheck_23922_2 : decode cJ7_rangeCheck_23922 2 = .ok (.if_icmp .le 44, 3) := by decide +kernel
theorem dJ7_rangeCheck_23922_5 : decode cJ7_rangeCheck_23922 5 = .ok (.new 43, 3) := by decide +kernel
theorem dJ7_rangeCheck_23922_8 : decode cJ7_rangeCheck_23922 8 = .ok (.dup, 1) := by decide +kernel
theorem dJ7_rangeCheck_23922_9 : decode cJ7_rangeCheck_23922 9 = .ok (.new 45, 3) := by decide +kernel
theorem dJ7_rangeCheck_23922_12 : decode cJ7_rangeCheck_23922 12 = .ok (.dup, 1) := by decide +kernel
theorem dJ7_rangeCheck_23922_13 : decode cJ7_rangeCheck_23922 13 = .ok (.invokespecial 47, 3) := by decide +kernel
theorem dJ7_rangeCheck_23922_16 : decode cJ7_rangeCheck_23922 16 = .ok (.ldc 48, 2) := by decide +kernel
theorem dJ7_rangeCheck_23922_18 : decode cJ7_rangeCheck_23922 18 = .ok (.invokevirtual 50, 3) := by decide +kernel
theorem dJ7_rangeCheck_23922_21 : decode cJ7_rangeCheck_23922 21 = .ok (.iload_n 1, 1) := by decide +kernel
theorem dJ7_rangeCheck_23922_22 : decode cJ7_rangeCheck_23922 22 = .ok (.invokevirtual 54, 3) := by decide +kernel
theorem dJ7_rangeCheck_23922_25 : decode cJ7_rangeCheck_23922 25 = .ok (.ldc 57, 2) := by decide +kernel
theorem dJ7_rangeCheck_23922_27 : decode cJ7_rangeCheck_23922 27 = .ok (.invokevirtual 50, 3) := by decide +kernel
theorem dJ7_rangeCheck_23922_30 : decode cJ7_rangeCheck_23922 30 = .ok (.iload_n 2, 1) := by decide +kernel
theorem dJ7_rangeCheck_23922_31 : decode cJ7_rangeCheck_23922 31 = .ok (.invokevirtual 54, 3) := by decide +kernel
theorem dJ7_rangeCheck_23922_34 : decode cJ7_rangeCheck_23922 34 = .ok (.ldc 59, 2) := by decide +kernel
theorem dJ7_rangeCheck_23922_36 : decode cJ7_rangeCheck_23922 36 = .ok (.invokevirtual 50, 3) := by decide +kernel
theorem dJ7_rangeCheck_23922_39 : decode cJ7_rangeCheck_23922 39 = .ok (.invokevirtual 61, 3) := by decide +kernel
theorem dJ7_rangeCheck_23922_42 : decode cJ7_rangeCheck_23922 42 = .ok (.invokespecial 65, 3) := by decide +kernel
theorem dJ7_rangeCheck_23922_45 : decode cJ7_rangeCheck_23922 45 = .ok (.athrow, 1) := by decide +kernel
theorem dJ7_rangeCheck_23922_46 : decode cJ7_rangeCheck_23922 46 = .ok (.iload_n 1, 1) := by decide +kernel
theorem dJ7_rangeCheck_23922_47 : decode cJ7_rangeCheck_23922 47 = .ok (.ifCond .ge 12, 3) := by decide +kernel
theorem dJ7_rangeCheck_23922_50 : decode cJ7_rangeCheck_23922 50 = .ok (.new 68, 3) := by decide +kernel
theorem dJ7_rangeCheck_23922_53 : decode cJ7_rangeCheck_23922 53 = .ok (.dup, 1) := by decide +kernel
theorem dJ7_rangeCheck_23922_54 : decode cJ7_rangeCheck_23922 54 = .ok (.iload_n 1, 1) := by decide +kernel
theorem dJ7_rangeCheck_23922_55 : decode cJ7_rangeCheck_23922 55 = .ok (.invokespecial 70, 3) := by decide +kernel
theorem dJ7_rangeCheck_23922_58 : decode cJ7_rangeCheck_23922 58 = .ok (.athrow, 1) := by decide +kernel
theorem dJ7_rangeCheck_23922_59 : decode cJ7_rangeCheck_23922 59 = .ok (.iload_n 2, 1) := by decide +kernel
theorem dJ7_rangeCheck_23922_60 : decode cJ7_rangeCheck_23922 60 = .ok (.iload_n 0, 1) := by decide +kernel
theorem dJ7_rangeCheck_23922_61 : decode cJ7_rangeCheck_23922 61 = .ok (.if_icmp .le 12, 3) := by decide +kernel
theorem dJ7_rangeCheck_23922_64 : decode cJ7_rangeCheck_23922 64 = .ok (.new 68, 3) := by decide +kernel
theorem dJ7_rangeCheck_23922_67 : decode cJ7_rangeCheck_23922 67 = .ok (.dup, 1) := by decide +kernel
theorem dJ7_rangeCheck_23922_68 : decode cJ7_rangeCheck_23922 68 = .ok (.iload_n 2, 1) := by decide +kernel
theorem dJ7_rangeCheck_23922_69 : decode cJ7_rangeCheck_23922 69 = .ok (.invokespecial 70, 3) := by decide +kernel
theorem dJ7_rangeCheck_23922_72 : decode cJ7_rangeCheck_23922 72 = .ok (.athrow, 1) := by decide +kernel
theorem dJ7_rangeCheck_23922_73 : decode cJ7_rangeCheck_23922 73 = .ok (.return_, 1) := by decide +kernel
theorem dJ7_fill_eb02e_0 : decode cJ7_fill_eb02e 0 = .ok (.aload_n 0, 1) := by decide +kernel
theorem dJ7_fill_eb02e_1 : decode cJ7_fill_eb02e 1 = .ok (.arraylength, 1) := by decide +kernel
theorem dJ7_fill_eb02e_2 : decode cJ7_fill_eb02e 2 = .ok (.iload_n 1, 1) := by decide +kernel
theorem dJ7_fill_eb02e_3 : decode cJ7_fill_eb02e 3 = .ok (.iload_n 2, 1) := by decide +kernel
theorem dJ7_fill_eb02e_4 : decode cJ7_fill_eb02e 4 = .ok (.invokestatic 13, 3) := by decide +kernel
theorem dJ7_fill_eb02e_7 : decode cJ7_fill_eb02e 7 = .ok (.iload_n 1, 1) := by decide +kernel
theorem dJ7_fill_eb02e_8 : decode cJ7_fill_eb02e 8 = .ok (.istore 4, 2) := by decide +kernel
theorem dJ7_fill_eb02e_10 : decode cJ7_fill_eb02e 10 = .ok (.iload 4, 2) := by decide +kernel
theorem dJ7_fill_eb02e_12 : decode cJ7_fill_eb02e 12 = .ok (.iload_n 2, 1) := by decide +kernel
theorem dJ7_fill_eb02e_13 : decode cJ7_fill_eb02e 13 = .ok (.if_icmp .ge 14, 3) := by decide +kernel
theorem dJ7_fill_eb02e_16 : decode cJ7_fill_eb02e 16 = .ok (.aload_n 0, 1) := by decide +kernel
theorem dJ7_fill_eb02e_17 : decode cJ7_fill_eb02e 17 = .ok (.iload 4, 2) := by decide +kernel
theorem dJ7_fill_eb02e_19 : decode cJ7_fill_eb02e 19 = .ok (.iload_n 3, 1) := by decide +kernel
theorem dJ7_fill_eb02e_20 : decode cJ7_fill_eb02e 20 = .ok (.bastore, 1) := by decide +kernel
theorem dJ7_fill_eb02e_21 : decode cJ7_fill_eb02e 21 = .ok (.iinc 4 1, 3) := by decide +kernel
theorem dJ7_fill_eb02e_24 : decode cJ7_fill_eb02e 24 = .ok (.goto (-14), 3) := by decide +kernel
theorem dJ7_fill_eb02e_27 : decode cJ7_fill_eb02e 27 = .ok (.return_, 1) := by decide +kernel
theorem dJ1_fillNull_b72d1_0 : decode cJ1_fillNull_b72d1 0 = .ok (.aload_n 0, 1) := by decide +kernel
theorem dJ1_fillNull_b72d1_1 : decode cJ1_fillNull_b72d1 1 = .ok (.iload_n 1, 1) := by decide +kernel
theorem dJ1_fillNull_b72d1_2 : decode cJ1_fillNull_b72d1 2 = .ok (.iload_n 2, 1) := by decide +kernel
theorem dJ1_fillNull_b72d1_3 : decode cJ1_fillNull_b72d1 3 = .ok (.iconst 0, 1) := by decide +kernel
theorem dJ1_fillNull_b72d1_4 : decode cJ1_fillNull_b72d1 4 = .ok (.invokestatic 236, 3) := by decide +kernel
theorem dJ1_fillNull_b72d1_7 : decode cJ1_fillNull_b72d1 7 = .ok (.return_, 1) := by decide +kernel
theorem dJ5_setLength_d00df_0 : decode cJ5_setLength_d00df 0 = .ok (.iload_n 1, 1) := by decide +kernel
theorem dJ5_setLength_d00df_1 : decode cJ5_setLength_d00df 1 = .ok (.ifCond .ge 12, 3) := by decide +kernel
theorem dJ5_setLength_d00df_4 : decode cJ5_setLength_d00df 4 = .ok (.new 129, 3) := by decide +kernel
theorem dJ5_setLength_d00df_7 : decode cJ5_setLength_d00df 7 = .ok (.dup, 1) := by decide +kernel
theorem dJ5_setLength_d00df_8 : decode cJ5_setLength_d00df 8 = .ok (.iload_n 1, 1) := by decide +kernel
theorem dJ5_setLength_d00df_9 : decode cJ5_setLength_d00df 9 = .ok (.invokespecial 131, 3) := by decide +kernel
theorem dJ5_setLength_d00df_12 : decode cJ5_setLength_d00df 12 = .ok (.athrow, 1) := by decide +kernel
theorem dJ5_setLength_d00df_13 : decode cJ5_setLength_d00df 13 = .ok (.aload_n 0, 1) := by decide +kernel
theorem dJ5_setLength_d00df_14 : decode cJ5_setLength_d00df 14 = .ok (.iload_n 1, 1) := by decide +kernel
theorem dJ5_setLength_d00df_15 : decode cJ5_setLength_d00df 15 = .ok (.invokevirtual 100, 3) := by decide +kernel
theorem dJ5_setLength_d00df_18 : decode cJ5_setLength_d00df 18 = .ok (.aload_n 0, 1) := by decide +kernel
theorem dJ5_setLength_d00df_19 : decode cJ5_setLength_d00df 19 = .ok (.getfield 79, 3) := by decide +kernel
theorem dJ5_setLength_d00df_22 : decode cJ5_setLength_d00df 22 = .ok (.iload_n 1, 1) := by decide +kernel
theorem dJ5_setLength_d00df_23 : decode cJ5_setLength_d00df 23 = .ok (.if_icmp .ge 40, 3) := by decide +kernel
theorem dJ5_setLength_d00df_26 : decode cJ5_setLength_d00df 26 = .ok (.aload_n 0, 1) := by decide +kernel
theorem dJ5_setLength_d00df_27 : decode cJ5_setLength_d00df 27 = .ok (.invokevirtual 83, 3) := by decide +kernel
theorem dJ5_setLength_d00df_30 : decode cJ5_setLength_d00df 30 = .ok (.ifCond .eq 18, 3) := by decide +kernel
theorem dJ5_setLength_d00df_33 : decode cJ5_setLength_d00df 33 = .ok (.aload_n 0, 1) := by decide +kernel
theorem dJ5_setLength_d00df_34 : decode cJ5_setLength_d00df 34 = .ok (.getfield 15, 3) := by decide +kernel
theorem dJ5_setLength_d00df_37 : decode cJ5_setLength_d00df 37 = .ok (.aload_n 0, 1) := by decide +kernel
theorem dJ5_setLength_d00df_38 : decode cJ5_setLength_d00df 38 = .ok (.getfield 79, 3) := by decide +kernel
theorem dJ5_setLength_d00df_41 : decode cJ5_setLength_d00df 41 = .ok (.iload_n 1, 1) := by decide +kernel
theorem dJ5_setLength_d00df_42 : decode cJ5_setLength_d00df 42 = .ok (.invokestatic 133, 3) := by decide +kernel
theorem dJ5_setLength_d00df_45 : decode cJ5_setLength_d00df 45 = .ok (.goto 31, 3) := by decide +kernel
theorem dJ5_setLength_d00df_48 : decode cJ5_setLength_d00df 48 = .ok (.aload_n 0, 1) := by decide +kernel
theorem dJ5_setLength_d00df_49 : decode cJ5_setLength_d00df 49 = .ok (.getfield 15, 3) := by decide +kernel
theorem dJ5_setLength_d00df_52 : decode cJ5_setLength_d00df 52 = .ok (.aload_n 0, 1) := by decide +kernel
theorem dJ5_setLength_d00df_53 : decode cJ5_setLength_d00df 53 = .ok (.getfield 79, 3) := by decide +kernel
theorem dJ5_setLength_d00df_56 : decode cJ5_setLength_d00df 56 = .ok (.iload_n 1, 1) := by decide +kernel
theorem dJ5_setLength_d00df_57 : decode cJ5_setLength_d00df 57 = .ok (.invokestatic 137, 3) := by decide +kernel
theorem dJ5_setLength_d00df_60 : decode cJ5_setLength_d00df 60 = .ok (.goto 16, 3) := by decide +kernel
theorem dJ5_setLength_d00df_63 : decode cJ5_setLength_d00df 63 = .ok (.aload_n 0, 1) := by decide +kernel
theorem dJ5_setLength_d00df_64 : decode cJ5_setLength_d00df 64 = .ok (.getfield 79, 3) := by decide +kernel
theorem dJ5_setLength_d00df_67 : decode cJ5_setLength_d00df 67 = .ok (.iload_n 1, 1) := by decide +kernel
theorem dJ5_setLength_d00df_68 : decode cJ5_setLength_d00df 68 = .ok (.if_icmp .le 8, 3) := by decide +kernel
theorem dJ5_setLength_d00df_71 : decode cJ5_setLength_d00df 71 = .ok (.aload_n 0, 1) := by decide +kernel
theorem dJ5_setLength_d00df_72 : decode cJ5_setLength_d00df 72 = .ok (.iconst 1, 1) := by decide +kernel
theorem dJ5_setLength_d00df_73 : decode cJ5_setLength_d00df 73 = .ok (.putfield 73, 3) := by decide +kernel
theorem dJ5_setLength_d00df_76 : decode cJ5_setLength_d00df 76 = .ok (.aload_n 0, 1) := by decide +kernel
theorem dJ5_setLength_d00df_77 : decode cJ5_setLength_d00df 77 = .ok (.iload_n 1, 1) := by decide +kernel
theorem dJ5_setLength_d00df_78 : decode cJ5_setLength_d00df 78 = .ok (.putfield 79, 3) := by decide +kernel
theorem dJ5_setLength_d00df_81 : decode cJ5_setLength_d00df 81 = .ok (.return_, 1) := by decide +kernel
theorem dJ4_setLength_d00df_0 : decode cJ4_setLength_d00df 0 = .ok (.aload_n 0, 1) := by decide +kernel
theorem dJ4_setLength_d00df_1 : decode cJ4_setLength_d00df 1 = .ok (.iload_n 1, 1) := by decide +kernel
theorem dJ4_setLength_d00df_2 : decode cJ4_setLength_d00df 2 = .ok (.invokespecial 333, 3) := by decide +kernel
theorem dJ4_setLength_d00df_5 : decode cJ4_setLength_d00df 5 = .ok (.return_, 1) := by decide +kernel
theorem dX6_clearText_0 : decode cX6_clearText 0 = .ok (.aload_n 0, 1) := by decide +kernel
theorem dX6_clearText_1 : decode cX6_clearText 1 = .ok (.getfield 12, 3) := by decide +kernel
theorem dX6_clearText_4 : decode cX6_clearText 4 = .ok (.iconst 0, 1) := by decide +kernel
theorem dX6_clearText_5 : decode cX6_clearText 5 = .ok (.invokevirtual 52, 3) := by decide +kernel
theorem dX6_clearText_8 : decode cX6_clearText 8 = .ok (.return_, 1) := by decide +kernel
theorem dJ5_charAt_5068e_0 : decode cJ5_charAt_5068e 0 = .ok (.aload_n 0, 1) := by decide +kernel
theorem dJ5_charAt_5068e_1 : decode cJ5_charAt_5068e 1 = .ok (.getfield 22, 3) := by decide +kernel
theorem dJ5_charAt_5068e_4 : decode cJ5_charAt_5068e 4 = .ok (.istore_n 2, 1) := by decide +kernel
theorem dJ5_charAt_5068e_5 : decode cJ5_charAt_5068e 5 = .ok (.aload_n 0, 1) := by decide +kernel
theorem dJ5_charAt_5068e_6 : decode cJ5_charAt_5068e 6 = .ok (.getfield 15, 3) := by decide +kernel
theorem dJ5_charAt_5068e_9 : decode cJ5_charAt_5068e 9 = .ok (.astore_n 3, 1) := by decide +kernel
theorem dJ5_charAt_5068e_10 : decode cJ5_charAt_5068e 10 = .ok (.aload_n 0, 1) := by decide +kernel
theorem dJ5_charAt_5068e_11 : decode cJ5_charAt_5068e 11 = .ok (.getfield 79, 3) := by decide +kernel
theorem dJ5_charAt_5068e_14 : decode cJ5_charAt_5068e 14 = .ok (.aload_n 3, 1) := by decide +kernel
theorem dJ5_charAt_5068e_15 : decode cJ5_charAt_5068e 15 = .ok (.arraylength, 1) := by decide +kernel
theorem dJ5_charAt_5068e_16 : decode cJ5_charAt_5068e 16 = .ok (.iload_n 2, 1) := by decide +kernel
theorem dJ5_charAt_5068e_17 : decode cJ5_charAt_5068e 17 = .ok (.ishr, 1) := by decide +kernel
theorem dJ5_charAt_5068e_18 : decode cJ5_charAt_5068e 18 = .ok (.invokestatic 138, 3) := by decide +kernel
theorem dJ5_charAt_5068e_21 : decode cJ5_charAt_5068e 21 = .ok (.istore 4, 2) := by decide +kernel
theorem dJ5_charAt_5068e_23 : decode cJ5_charAt_5068e 23 = .ok (.iload_n 1, 1) := by decide +kernel
theorem dJ5_charAt_5068e_24 : decode cJ5_charAt_5068e 24 = .ok (.iload 4, 2) := by decide +kernel
theorem dJ5_charAt_5068e_26 : decode cJ5_charAt_5068e 26 = .ok (.invokestatic 144, 3) := by decide +kernel
theorem dJ5_charAt_5068e_29 : decode cJ5_charAt_5068e 29 = .ok (.iload_n 2, 1) := by decide +kernel
theorem dJ5_charAt_5068e_30 : decode cJ5_charAt_5068e 30 = .ok (.ifCond .ne 12, 3) := by decide +kernel
theorem dJ5_charAt_5068e_33 : decode cJ5_charAt_5068e 33 = .ok (.aload_n 3, 1) := by decide +kernel
theorem dJ5_charAt_5068e_34 : decode cJ5_charAt_5068e 34 = .ok (.iload_n 1, 1) := by decide +kernel
theorem dJ5_charAt_5068e_35 : decode cJ5_charAt_5068e 35 = .ok (.baload, 1) := by decide +kernel
theorem dJ5_charAt_5068e_36 : decode cJ5_charAt_5068e 36 = .ok (.sipush 255, 3) := by decide +kernel
theorem dJ5_charAt_5068e_39 : decode cJ5_charAt_5068e 39 = .ok (.iand, 1) := by decide +kernel
theorem dJ5_charAt_5068e_40 : decode cJ5_charAt_5068e 40 = .ok (.i2c, 1) := by decide +kernel
theorem dJ5_charAt_5068e_41 : decode cJ5_charAt_5068e 41 = .ok (.ireturn, 1) := by decide +kernel
theorem dJ5_charAt_5068e_42 : decode cJ5_charAt_5068e 42 = .ok (.aload_n 3, 1) := by decide +kernel
theorem dJ5_charAt_5068e_43 : decode cJ5_charAt_5068e 43 = .ok (.iload_n 1, 1) := by decide +kernel
theorem dJ5_charAt_5068e_44 : decode cJ5_charAt_5068e 44 = .ok (.invokestatic 148, 3) := by decide +kernel
theorem dJ5_charAt_5068e_47 : decode cJ5_charAt_5068e 47 = .ok (.ireturn, 1) := by decide +kernel
theorem dJ4_charAt_5068e_0 : decode cJ4_charAt_5068e 0 = .ok (.aload_n 0, 1) := by decide +kernel
theorem dJ4_charAt_5068e_1 : decode cJ4_charAt_5068e 1 = .ok (.iload_n 1, 1) := by decide +kernel
theorem dJ4_charAt_5068e_2 : decode cJ4_charAt_5068e 2 = .ok (.invokespecial 329, 3) := by decide +kernel
theorem dJ4_charAt_5068e_5 : decode cJ4_charAt_5068e 5 = .ok (.ireturn, 1) := by decide +kernel
theorem dX6_valueAt_0 : decode cX6_valueAt 0 = .ok (.iload_n 1, 1) := by decide +kernel
theorem dX6_valueAt_1 : decode cX6_valueAt 1 = .ok (.ifCond .lt 14, 3) := by decide +kernel
theorem dX6_valueAt_4 : decode cX6_valueAt 4 = .ok (.iload_n 1, 1) := by decide +kernel
theorem dX6_valueAt_5 : decode cX6_valueAt 5 = .ok (.aload_n 0, 1) := by decide +kernel
theorem dX6_valueAt_6 : decode cX6_valueAt 6 = .ok (.getfield 12, 3) := by decide +kernel
theorem dX6_valueAt_9 : decode cX6_valueAt 9 = .ok (.invokevirtual 44, 3) := by decide +kernel
theorem dX6_valueAt_12 : decode cX6_valueAt 12 = .ok (.if_icmp .lt 5, 3) := by decide +kernel
theorem dX6_valueAt_15 : decode cX6_valueAt 15 = .ok (.iconst (-1), 1) := by decide +kernel
theorem dX6_valueAt_16 : decode cX6_valueAt 16 = .ok (.ireturn, 1) := by decide +kernel
theorem dX6_valueAt_17 : decode cX6_valueAt 17 = .ok (.aload_n 0, 1) := by decide +kernel
theorem dX6_valueAt_18 : decode cX6_valueAt 18 = .ok (.getfield 12, 3) := by decide +kernel
theorem dX6_valueAt_21 : decode cX6_valueAt 21 = .ok (.iload_n 1, 1) := by decide +kernel
theorem dX6_valueAt_22 : decode cX6_valueAt 22 = .ok (.invokevirtual 100, 3) := by decide +kernel
theorem dX6_valueAt_25 : decode cX6_valueAt 25 = .ok (.istore_n 3, 1) := by decide +kernel
theorem dX6_valueAt_26 : decode cX6_valueAt 26 = .ok (.iload_n 2, 1) := by decide +kernel
theorem dX6_valueAt_27 : decode cX6_valueAt 27 = .ok (.bipush 35, 2) := by decide +kernel
theorem dX6_valueAt_29 : decode cX6_valueAt 29 = .ok (.if_icmp .eq 9, 3) := by decide +kernel
theorem dX6_valueAt_32 : decode cX6_valueAt 32 = .ok (.iload_n 2, 1) := by decide +kernel
theorem dX6_valueAt_33 : decode cX6_valueAt 33 = .ok (.bipush 36, 2) := by decide +kernel
theorem dX6_valueAt_35 : decode cX6_valueAt 35 = .ok (.if_icmp .ne 24, 3) := by decide +kernel
theorem dX6_valueAt_38 : decode cX6_valueAt 38 = .ok (.iload_n 3, 1) := by decide +kernel
theorem dX6_valueAt_39 : decode cX6_valueAt 39 = .ok (.bipush 48, 2) := by decide +kernel
theorem dX6_valueAt_41 : decode cX6_valueAt 41 = .ok (.if_icmp .lt 16, 3) := by decide +kernel
theorem dX6_valueAt_44 : decode cX6_valueAt 44 = .ok (.iload_n 3, 1) := by decide +kernel
theorem dX6_valueAt_45 : decode cX6_valueAt 45 = .ok (.bipush 57, 2) := by decide +kernel
theorem dX6_valueAt_47 : decode cX6_valueAt 47 = .ok (.if_icmp .gt 10, 3) := by decide +kernel
theorem dX6_valueAt_50 : decode cX6_valueAt 50 = .ok (.iload_n 3, 1) := by decide +kernel
theorem dX6_valueAt_51 : decode cX6_valueAt 51 = .ok (.bipush 48, 2) := by decide +kernel
theorem dX6_valueAt_53 : decode cX6_valueAt 53 = .ok (.isub, 1) := by decide +kernel
theorem dX6_valueAt_54 : decode cX6_valueAt 54 = .ok (.goto 4, 3) := by decide +kernel
theorem dX6_valueAt_57 : decode cX6_valueAt 57 = .ok (.iconst (-1), 1) := by decide +kernel
theorem dX6_valueAt_58 : decode cX6_valueAt 58 = .ok (.ireturn, 1) := by decide +kernel
theorem dX6_valueAt_59 : decode cX6_valueAt 59 = .ok (.iload_n 2, 1) := by decide +kernel
theorem dX6_valueAt_60 : decode cX6_valueAt 60 = .ok (.bipush 64, 2) := by decide +kernel
theorem dX6_valueAt_62 : decode cX6_valueAt 62 = .ok (.if_icmp .ne 24, 3) := by decide +kernel
theorem dX6_valueAt_65 : decode cX6_valueAt 65 = .ok (.iload_n 3, 1) := by decide +kernel
theorem dX6_valueAt_66 : decode cX6_valueAt 66 = .ok (.bipush 97, 2) := by decide +kernel
theorem dX6_valueAt_68 : decode cX6_valueAt 68 = .ok (.if_icmp .lt 16, 3) := by decide +kernel
theorem dX6_valueAt_71 : decode cX6_valueAt 71 = .ok (.iload_n 3, 1) := by decide +kernel
theorem dX6_valueAt_72 : decode cX6_valueAt 72 = .ok (.bipush 103, 2) := by decide +kernel
theorem dX6_valueAt_74 : decode cX6_valueAt 74 = .ok (.if_icmp .ge 10, 3) := by decide +kernel
theorem dX6_valueAt_77 : decode cX6_valueAt 77 = .ok (.iload_n 3, 1) := by decide +kernel
theorem dX6_valueAt_78 : decode cX6_valueAt 78 = .ok (.bipush 97, 2) := by decide +kernel
theorem dX6_valueAt_80 : decode cX6_valueAt 80 = .ok (.isub, 1) := by decide +kernel
theorem dX6_valueAt_81 : decode cX6_valueAt 81 = .ok (.goto 4, 3) := by decide +kernel
theorem dX6_valueAt_84 : decode cX6_valueAt 84 = .ok (.iconst (-1), 1) := by decide +kernel
theorem dX6_valueAt_85 : decode cX6_valueAt 85 = .ok (.ireturn, 1) := by decide +kernel
theorem dX6_valueAt_86 : decode cX6_valueAt 86 = .ok (.iload_n 3, 1) := by decide +kernel
theorem dX6_valueAt_87 : decode cX6_valueAt 87 = .ok (.iload_n 2, 1) := by decide +kernel
theorem dX6_valueAt_88 : decode cX6_valueAt 88 = .ok (.if_icmp .ne 7, 3) := by decide +kernel
theorem dX6_valueAt_91 : decode cX6_valueAt 91 = .ok (.iconst 0, 1) := by decide +kernel
theorem dX6_valueAt_92 : decode cX6_valueAt 92 = .ok (.goto 4, 3) := by decide +kernel
theorem dX6_valueAt_95 : decode cX6_valueAt 95 = .ok (.iconst (-1), 1) := by decide +kernel
theorem dX6_valueAt_96 : decode cX6_valueAt 96 = .ok (.ireturn, 1) := by decide +kernel
theorem dX6_readSign_0 : decode cX6_readSign 0 = .ok (.aload_n 0, 1) := by decide +kernel
theorem dX6_readSign_1 : decode cX6_readSign 1 = .ok (.aload_n 0, 1) := by decide +kernel
theorem dX6_readSign_2 : decode cX6_readSign 2 = .ok (.getfield 41, 3) := by decide +kernel
theorem dX6_readSign_5 : decode cX6_readSign 5 = .ok (.iload_n 1, 1) := by decide +kernel
theorem dX6_readSign_6 : decode cX6_readSign 6 = .ok (.invokevirtual 101, 3) := by decide +kernel
theorem dX6_readSign_9 : decode cX6_readSign 9 = .ok (.istore_n 2, 1) := by decide +kernel
theorem dX6_readSign_10 : decode cX6_readSign 10 = .ok (.iload_n 2, 1) := by decide +kernel
theorem dX6_readSign_11 : decode cX6_readSign 11 = .ok (.ifCond .ge 5, 3) := by decide +kernel
theorem dX6_readSign_14 : decode cX6_readSign 14 = .ok (.iconst (-1), 1) := by decide +kernel
theorem dX6_readSign_15 : decode cX6_readSign 15 = .ok (.ireturn, 1) := by decide +kernel
theorem dX6_readSign_16 : decode cX6_readSign 16 = .ok (.aload_n 0, 1) := by decide +kernel
theorem dX6_readSign_17 : decode cX6_readSign 17 = .ok (.dup, 1) := by decide +kernel
theorem dX6_readSign_18 : decode cX6_readSign 18 = .ok (.getfield 41, 3) := by decide +kernel
theorem dX6_readSign_21 : decode cX6_readSign 21 = .ok (.iconst 1, 1) := by decide +kernel
theorem dX6_readSign_22 : decode cX6_readSign 22 = .ok (.iadd, 1) := by decide +kernel
theorem dX6_readSign_23 : decode cX6_readSign 23 = .ok (.putfield 41, 3) := by decide +kernel
theorem dX6_readSign_26 : decode cX6_readSign 26 = .ok (.iload_n 1, 1) := by decide +kernel
theorem dX6_readSign_27 : decode cX6_readSign 27 = .ok (.bipush 35, 2) := by decide +kernel
theorem dX6_readSign_29 : decode cX6_readSign 29 = .ok (.if_icmp .ne 15, 3) := by decide +kernel
theorem dX6_readSign_32 : decode cX6_readSign 32 = .ok (.aload_n 0, 1) := by decide +kernel
theorem dX6_readSign_33 : decode cX6_readSign 33 = .ok (.aload_n 0, 1) := by decide +kernel
theorem dX6_readSign_34 : decode cX6_readSign 34 = .ok (.getfield 41, 3) := by decide +kernel
theorem dX6_readSign_37 : decode cX6_readSign 37 = .ok (.iload_n 1, 1) := by decide +kernel
theorem dX6_readSign_38 : decode cX6_readSign 38 = .ok (.invokevirtual 101, 3) := by decide +kernel
theorem dX6_readSign_41 : decode cX6_readSign 41 = .ok (.goto 4, 3) := by decide +kernel
theorem dX6_readSign_44 : decode cX6_readSign 44 = .ok (.iconst (-1), 1) := by decide +kernel
theorem dX6_readSign_45 : decode cX6_readSign 45 = .ok (.istore_n 3, 1) := by decide +kernel
theorem dX6_readSign_46 : decode cX6_readSign 46 = .ok (.iload_n 3, 1) := by decide +kernel
theorem dX6_readSign_47 : decode cX6_readSign 47 = .ok (.ifCond .lt 20, 3) := by decide +kernel
theorem dX6_readSign_50 : decode cX6_readSign 50 = .ok (.aload_n 0, 1) := by decide +kernel
theorem dX6_readSign_51 : decode cX6_readSign 51 = .ok (.dup, 1) := by decide +kernel
theorem dX6_readSign_52 : decode cX6_readSign 52 = .ok (.getfield 41, 3) := by decide +kernel
theorem dX6_readSign_55 : decode cX6_readSign 55 = .ok (.iconst 1, 1) := by decide +kernel
theorem dX6_readSign_56 : decode cX6_readSign 56 = .ok (.iadd, 1) := by decide +kernel
theorem dX6_readSign_57 : decode cX6_readSign 57 = .ok (.putfield 41, 3) := by decide +kernel
theorem dX6_readSign_60 : decode cX6_readSign 60 = .ok (.iload_n 2, 1) := by decide +kernel
theorem dX6_readSign_61 : decode cX6_readSign 61 = .ok (.bipush 10, 2) := by decide +kernel
theorem dX6_readSign_63 : decode cX6_readSign 63 = .ok (.imul, 1) := by decide +kernel
theorem dX6_readSign_64 : decode cX6_readSign 64 = .ok (.iload_n 3, 1) := by decide +kernel
theorem dX6_readSign_65 : decode cX6_readSign 65 = .ok (.iadd, 1) := by decide +kernel
theorem dX6_readSign_66 : decode cX6_readSign 66 = .ok (.istore_n 2, 1) := by decide +kernel
theorem dX6_readSign_67 : decode cX6_readSign 67 = .ok (.iload_n 2, 1) := by decide +kernel
theorem dX6_readSign_68 : decode cX6_readSign 68 = .ok (.ireturn, 1) := by decide +kernel
theorem dX6_fits_0 : decode cX6_fits 0 = .ok (.iconst 0, 1) := by decide +kernel
theorem dX6_fits_1 : decode cX6_fits 1 = .ok (.istore_n 2, 1) := by decide +kernel
theorem dX6_fits_2 : decode cX6_fits 2 = .ok (.iconst 0, 1) := by decide +kernel
theorem dX6_fits_3 : decode cX6_fits 3 = .ok (.istore_n 3, 1) := by decide +kernel
theorem dX6_fits_4 : decode cX6_fits 4 = .ok (.iload_n 3, 1) := by decide +kernel
theorem dX6_fits_5 : decode cX6_fits 5 = .ok (.aload_n 1, 1) := by decide +kernel
theorem dX6_fits_6 : decode cX6_fits 6 = .ok (.invokevirtual 85, 3) := by decide +kernel
theorem dX6_fits_9 : decode cX6_fits 9 = .ok (.if_icmp .ge 59, 3) := by decide +kernel
theorem dX6_fits_12 : decode cX6_fits 12 = .ok (.aload_n 1, 1) := by decide +kernel
theorem dX6_fits_13 : decode cX6_fits 13 = .ok (.iload_n 3, 1) := by decide +kernel
theorem dX6_fits_14 : decode cX6_fits 14 = .ok (.invokevirtual 88, 3) := by decide +kernel
theorem dX6_fits_17 : decode cX6_fits 17 = .ok (.istore 4, 2) := by decide +kernel
theorem dX6_fits_19 : decode cX6_fits 19 = .ok (.aload_n 0, 1) := by decide +kernel
theorem dX6_fits_20 : decode cX6_fits 20 = .ok (.iload 4, 2) := by decide +kernel
theorem dX6_fits_22 : decode cX6_fits 22 = .ok (.invokevirtual 92, 3) := by decide +kernel
theorem dX6_fits_25 : decode cX6_fits 25 = .ok (.istore 5, 2) := by decide +kernel
theorem dX6_fits_27 : decode cX6_fits 27 = .ok (.iload 5, 2) := by decide +kernel
theorem dX6_fits_29 : decode cX6_fits 29 = .ok (.ifCond .ge 5, 3) := by decide +kernel
theorem dX6_fits_32 : decode cX6_fits 32 = .ok (.iconst 0, 1) := by decide +kernel
theorem dX6_fits_33 : decode cX6_fits 33 = .ok (.ireturn, 1) := by decide +kernel
theorem dX6_fits_34 : decode cX6_fits 34 = .ok (.iload 4, 2) := by decide +kernel
theorem dX6_fits_36 : decode cX6_fits 36 = .ok (.invokestatic 96, 3) := by decide +kernel
theorem dX6_fits_39 : decode cX6_fits 39 = .ok (.ifCond .eq 23, 3) := by decide +kernel
theorem dX6_fits_42 : decode cX6_fits 42 = .ok (.iload_n 2, 1) := by decide +kernel
theorem dX6_fits_43 : decode cX6_fits 43 = .ok (.aload_n 0, 1) := by decide +kernel
theorem dX6_fits_44 : decode cX6_fits 44 = .ok (.getfield 38, 3) := by decide +kernel
theorem dX6_fits_47 : decode cX6_fits 47 = .ok (.arraylength, 1) := by decide +kernel
theorem dX6_fits_48 : decode cX6_fits 48 = .ok (.if_icmp .ge 14, 3) := by decide +kernel
theorem dX6_fits_51 : decode cX6_fits 51 = .ok (.aload_n 0, 1) := by decide +kernel
theorem dX6_fits_52 : decode cX6_fits 52 = .ok (.getfield 38, 3) := by decide +kernel
theorem dX6_fits_55 : decode cX6_fits 55 = .ok (.iload_n 2, 1) := by decide +kernel
theorem dX6_fits_56 : decode cX6_fits 56 = .ok (.iload 5, 2) := by decide +kernel
theorem dX6_fits_58 : decode cX6_fits 58 = .ok (.iastore, 1) := by decide +kernel
theorem dX6_fits_59 : decode cX6_fits 59 = .ok (.iinc 2 1, 3) := by decide +kernel
theorem dX6_fits_62 : decode cX6_fits 62 = .ok (.iinc 3 1, 3) := by decide +kernel
theorem dX6_fits_65 : decode cX6_fits 65 = .ok (.goto (-61), 3) := by decide +kernel
theorem dX6_fits_68 : decode cX6_fits 68 = .ok (.iconst 1, 1) := by decide +kernel
theorem dX6_fits_69 : decode cX6_fits 69 = .ok (.ireturn, 1) := by decide +kernel
def f_J5_length_8abf5_o141 (μ : mu_T)  : Option Int :=
  nm_ (μ 141 3) (fun v1 => some v1)
set_option maxHeartbeats 4000000 in
set_option maxRecDepth 100000 in
theorem c_J5_length_8abf5_o141 {G : gp_} {ad : Nat → Nat} (μ : mu_T)  (a : Int) (h : f_J5_length_8abf5_o141 μ  = some a) : mi_ yJ5_length_8abf5 cJ5_length_8abf5 1 (some .int) ({ frames := 0, cells := 0, slots := 0, locals := 0 } : Room) G 151 ad (ceX G ad) [.ref (ad 141)] μ a μ := by
  refine mi_in (own := "java/lang/AbstractStringBuilder") (lv := [(0, .ref (ad 141))]) (by decide) rfl rfl (Nat.le_of_ble_eq_true rfl) (fun X C E => ?_)
  unfold f_J5_length_8abf5_o141 at h
  refine xx_aload_n C 1 rfl 0 dJ5_length_8abf5_0 rfl rfl ?_
  refine xx_geti (fi := 3) (j := 3) C 4 rfl (by decide) (ceX_141 _ _ _) rfl in_J4 (by decide) rfl w_285 dJ5_length_8abf5_1 h (fun v1 h => ?_)
  exact xx_iretp C E rfl ⟨Nat.le_of_ble_eq_true rfl, Nat.le_of_ble_eq_true rfl⟩ dJ5_length_8abf5_4 h

def f_J4_length_8abf5_o141 (μ : mu_T)  : Option Int :=
  bd_ (f_J5_length_8abf5_o141 μ) (fun v1 => some v1)
set_option maxHeartbeats 4000000 in
set_option maxRecDepth 100000 in
theorem c_J4_length_8abf5_o141 {G : gp_} {ad : Nat → Nat} (μ : mu_T)  (a : Int) (h : f_J4_length_8abf5_o141 μ  = some a) : mi_ yJ4_length_8abf5 cJ4_length_8abf5 1 (some .int) ({ frames := 1, cells := 0, slots := 0, locals := 20 } : Room) G 151 ad (ceX G ad) [.ref (ad 141)] μ a μ := by
  refine mi_in (own := "java/lang/StringBuilder") (lv := [(0, .ref (ad 141))]) (by decide) rfl rfl (Nat.le_of_ble_eq_true rfl) (fun X C E => ?_)
  unfold f_J4_length_8abf5_o141 at h
  refine xx_aload_n C 1 rfl 0 dJ4_length_8abf5_0 rfl rfl ?_
  refine xx_cPip (As := []) (st := []) (o := 141) C 4 rfl (by decide) (ceX_141 _ _ _) rfl ca_J5_length_8abf5 cu_J5_length_8abf5 w_294 w_390 rfl ⟨Nat.le_of_ble_eq_true rfl, Nat.le_of_ble_eq_true rfl⟩ ⟨Nat.le_of_ble_eq_true rfl, Nat.le_of_ble_eq_true rfl⟩ (Nat.le_of_ble_eq_true rfl) dJ4_length_8abf5_1 (fun v1 e9 => c_J5_length_8abf5_o141 _ v1 e9) h (fun v1 h => ?_) rfl
  exact xx_iretp C E rfl ⟨Nat.le_of_ble_eq_true rfl, Nat.le_of_ble_eq_true rfl⟩ dJ4_length_8abf5_4 h

def f_J8_hugeLength_7cf53 (μ : mu_T) (a0 : Int) (a1 : Int) : Option Int :=
  nm_ ((a0 + a1)) (fun n3 => lt_ n3 0
      (none)
      (lt_ 2147483639 n3
      (some n3)
      (some 2147483639)))
set_option maxHeartbeats 4000000 in
set_option maxRecDepth 100000 in
theorem c_J8_hugeLength_7cf53 {G : gp_} {ad : Nat → Nat} (μ : mu_T) (a0 : Int) (a1 : Int) (a : Int) (h : f_J8_hugeLength_7cf53 μ a0 a1 = some a) : mi_ yJ8_hugeLength_7cf53 cJ8_hugeLength_7cf53 3 (some .int) ({ frames := 0, cells := 0, slots := 0, locals := 0 } : Room) G 151 ad (ceX G ad) [.int (iI a0), .int (iI a1)] μ a μ := by
  refine mi_in (own := "jdk/internal/util/ArraysSupport") (lv := [(0, .int (iI a0)), (1, .int (iI a1))]) (by decide) rfl rfl (Nat.le_of_ble_eq_true rfl) (fun X C E => ?_)
  unfold f_J8_hugeLength_7cf53 at h
  refine xx_iload_n C 1 rfl 0 dJ8_hugeLength_7cf53_0 rfl rfl ?_
  refine xx_iload_n C 2 rfl 1 dJ8_hugeLength_7cf53_1 rfl rfl ?_
  refine xx_iadd C 3 rfl dJ8_hugeLength_7cf53_2 ?_
  refine xx_nm C h (fun n3 h => ?_)
  refine xx_istore_n (lv1 := [(2, .int (iI n3)), (0, .int (iI a0)), (1, .int (iI a1))]) C 4 rfl (by decide) dJ8_hugeLength_7cf53_3 rfl rfl ?_
  refine xx_iload_n C 5 rfl 0 dJ8_hugeLength_7cf53_4 rfl rfl ?_
  refine xx_if_ge (tgt := 49) C 8 rfl dJ8_hugeLength_7cf53_5 (by decide) h (fun h => ?_) (fun h => ?_)
  · refine xx_iload_n C 50 rfl 0 dJ8_hugeLength_7cf53_49 rfl rfl ?_
    refine xx_ldci C 52 rfl (v := 2147483639) w_642 dJ8_hugeLength_7cf53_50 ?_
    refine xx_icmp_gt (tgt := 58) C 55 rfl dJ8_hugeLength_7cf53_52 (by decide) h (fun h => ?_) (fun h => ?_)
    · refine xx_iload_n C 59 rfl 0 dJ8_hugeLength_7cf53_58 rfl rfl ?_
      exact xx_iretp C E rfl ⟨Nat.le_of_ble_eq_true rfl, Nat.le_of_ble_eq_true rfl⟩ dJ8_hugeLength_7cf53_59 h
    · refine xx_ldci C 57 rfl (v := 2147483639) w_642 dJ8_hugeLength_7cf53_55 ?_
      exact xx_iretp C E rfl ⟨Nat.le_of_ble_eq_true rfl, Nat.le_of_ble_eq_true rfl⟩ dJ8_hugeLength_7cf53_57 h
  · exact nn_ h

def f_J8_newLength_cabcc (μ : mu_T) (a0 : Int) (a1 : Int) (a2 : Int) : Option Int :=
  mx_ a1 a2 (fun v3 => nm_ ((a0 + v3)) (fun n7 => lt_ 0 n7
      (lt_ 2147483639 n7
      (bd_ (f_J8_hugeLength_7cf53 μ a0 a1) (fun v23 => some v23))
      (some n7))
      (bd_ (f_J8_hugeLength_7cf53 μ a0 a1) (fun v23 => some v23))))
set_option maxHeartbeats 4000000 in
set_option maxRecDepth 100000 in
theorem c_J8_newLength_cabcc {G : gp_} {ad : Nat → Nat} (μ : mu_T) (a0 : Int) (a1 : Int) (a2 : Int) (a : Int) (h : f_J8_newLength_cabcc μ a0 a1 a2 = some a) : mi_ yJ8_newLength_cabcc cJ8_newLength_cabcc 4 (some .int) ({ frames := 1, cells := 0, slots := 0, locals := 22 } : Room) G 151 ad (ceX G ad) [.int (iI a0), .int (iI a1), .int (iI a2)] μ a μ := by
  refine mi_in (own := "jdk/internal/util/ArraysSupport") (lv := [(0, .int (iI a0)), (1, .int (iI a1)), (2, .int (iI a2))]) (by decide) rfl rfl (Nat.le_of_ble_eq_true rfl) (fun X C E => ?_)
  unfold f_J8_newLength_cabcc at h
  refine xx_iload_n C 1 rfl 0 dJ8_newLength_cabcc_0 rfl rfl ?_
  refine xx_iload_n C 2 rfl 1 dJ8_newLength_cabcc_1 rfl rfl ?_
  refine xx_iload_n C 3 rfl 2 dJ8_newLength_cabcc_2 rfl rfl ?_
  refine xx_mmax C 6 rfl ⟨w_639, w_640, w_41, w_641⟩ ⟨Nat.le_of_ble_eq_true rfl, Nat.le_of_ble_eq_true rfl⟩ ⟨Nat.le_of_ble_eq_true rfl, Nat.le_of_ble_eq_true rfl⟩ dJ8_newLength_cabcc_3 h (fun v3 h => ?_)
  refine xx_iadd C 7 rfl dJ8_newLength_cabcc_6 ?_
  refine xx_nm C h (fun n7 h => ?_)
  refine xx_istore_n (lv1 := [(3, .int (iI n7)), (0, .int (iI a0)), (1, .int (iI a1)), (2, .int (iI a2))]) C 8 rfl (by decide) dJ8_newLength_cabcc_7 rfl rfl ?_
  refine xx_iconst C 9 rfl dJ8_newLength_cabcc_8 ?_
  refine xx_iload_n C 10 rfl 0 dJ8_newLength_cabcc_9 rfl rfl ?_
  refine xx_icmp_ge (tgt := 21) C 13 rfl dJ8_newLength_cabcc_10 (by decide) h (fun h => ?_) (fun h => ?_)
  · refine xx_iload_n C 22 rfl 1 dJ8_newLength_cabcc_21 rfl rfl ?_
    refine xx_iload_n C 23 rfl 2 dJ8_newLength_cabcc_22 rfl rfl ?_
    refine xx_cSip (As := [.int (iI a0), .int (iI a1)]) (st := []) C 26 rfl  ca_J8_hugeLength_7cf53 cs_J8_hugeLength_7cf53 w_643 rfl ⟨Nat.le_of_ble_eq_true rfl, Nat.le_of_ble_eq_true rfl⟩ ⟨Nat.le_of_ble_eq_true rfl, Nat.le_of_ble_eq_true rfl⟩ (Nat.le_of_ble_eq_true rfl) dJ8_newLength_cabcc_23 (fun v23 e9 => c_J8_hugeLength_7cf53 _ _ _ v23 e9) h (fun v23 h => ?_) rfl
    exact xx_iretp C E rfl ⟨Nat.le_of_ble_eq_true rfl, Nat.le_of_ble_eq_true rfl⟩ dJ8_newLength_cabcc_26 h
  · refine xx_iload_n C 14 rfl 0 dJ8_newLength_cabcc_13 rfl rfl ?_
    refine xx_ldci C 16 rfl (v := 2147483639) w_642 dJ8_newLength_cabcc_14 ?_
    refine xx_icmp_gt (tgt := 21) C 19 rfl dJ8_newLength_cabcc_16 (by decide) h (fun h => ?_) (fun h => ?_)
    · refine xx_iload_n C 22 rfl 1 dJ8_newLength_cabcc_21 rfl rfl ?_
      refine xx_iload_n C 23 rfl 2 dJ8_newLength_cabcc_22 rfl rfl ?_
      refine xx_cSip (As := [.int (iI a0), .int (iI a1)]) (st := []) C 26 rfl  ca_J8_hugeLength_7cf53 cs_J8_hugeLength_7cf53 w_643 rfl ⟨Nat.le_of_ble_eq_true rfl, Nat.le_of_ble_eq_true rfl⟩ ⟨Nat.le_of_ble_eq_true rfl, Nat.le_of_ble_eq_true rfl⟩ (Nat.le_of_ble_eq_true rfl) dJ8_newLength_cabcc_23 (fun v23 e9 => c_J8_hugeLength_7cf53 _ _ _ v23 e9) h (fun v23 h => ?_) rfl
      exact xx_iretp C E rfl ⟨Nat.le_of_ble_eq_true rfl, Nat.le_of_ble_eq_true rfl⟩ dJ8_newLength_cabcc_26 h
    · refine xx_iload_n C 20 rfl 0 dJ8_newLength_cabcc_19 rfl rfl ?_
      exact xx_iretp C E rfl ⟨Nat.le_of_ble_eq_true rfl, Nat.le_of_ble_eq_true rfl⟩ dJ8_newLength_cabcc_20 h

def f_J5_newCapacity_0f7a4_o141 (μ : mu_T) (a1 : Int) : Option Int :=
  nm_ (bl_ μ 142) (fun v4 => nm_ (μ 141 1) (fun v8 => nm_ ((sl_ a1 v8)) (fun n12 => nm_ ((n12 - v4)) (fun n16 => nm_ (μ 141 1) (fun v24 => bd_ (f_J8_newLength_cabcc μ v4 n16 (v4 + (sl_ 2 v24))) (fun v29 => eq_ v29 2147483647
      (none)
      (nm_ (μ 141 1) (fun v54 => some (sr_ v29 v54)))))))))
set_option maxHeartbeats 4000000 in
set_option maxRecDepth 100000 in
theorem c_J5_newCapacity_0f7a4_o141 {G : gp_} {ad : Nat → Nat} (μ : mu_T) (a1 : Int) (a : Int) (h : f_J5_newCapacity_0f7a4_o141 μ a1 = some a) : mi_ yJ5_newCapacity_0f7a4 cJ5_newCapacity_0f7a4 6 (some .int) ({ frames := 2, cells := 0, slots := 0, locals := 45 } : Room) G 151 ad (ceX G ad) [.ref (ad 141), .int (iI a1)] μ a μ := by
  refine mi_in (own := "java/lang/AbstractStringBuilder") (lv := [(0, .ref (ad 141)), (1, .int (iI a1))]) (by decide) rfl rfl (Nat.le_of_ble_eq_true rfl) (fun X C E => ?_)
  unfold f_J5_newCapacity_0f7a4_o141 at h
  refine xx_aload_n C 1 rfl 0 dJ5_newCapacity_0f7a4_0 rfl rfl ?_
  refine xx_getr (fi := 0) C 4 rfl (by decide) (ceX_141 _ _ _) rfl in_J4 (by decide) rfl w_281 dJ5_newCapacity_0f7a4_1 ?_
  refine xx_blen C 5 rfl (by decide) (fun row => ceX_142 _ _ row) dJ5_newCapacity_0f7a4_4 h (fun v4 h => ?_)
  refine xx_istore_n (lv1 := [(2, .int (iI v4)), (0, .ref (ad 141)), (1, .int (iI a1))]) C 6 rfl (by decide) dJ5_newCapacity_0f7a4_5 rfl rfl ?_
  refine xx_iload_n C 7 rfl 2 dJ5_newCapacity_0f7a4_6 rfl rfl ?_
  refine xx_aload_n C 8 rfl 1 dJ5_newCapacity_0f7a4_7 rfl rfl ?_
  refine xx_geti (fi := 1) (j := 1) C 11 rfl (by decide) (ceX_141 _ _ _) rfl in_J4 (by decide) rfl w_282 dJ5_newCapacity_0f7a4_8 h (fun v8 h => ?_)
  refine xx_ishl C 12 rfl dJ5_newCapacity_0f7a4_11 ?_
  refine xx_nm C h (fun n12 h => ?_)
  refine xx_istore_n (lv1 := [(3, .int (iI n12)), (2, .int (iI v4)), (0, .ref (ad 141)), (1, .int (iI a1))]) C 13 rfl (by decide) dJ5_newCapacity_0f7a4_12 rfl rfl ?_
  refine xx_iload_n C 14 rfl 0 dJ5_newCapacity_0f7a4_13 rfl rfl ?_
  refine xx_iload_n C 15 rfl 1 dJ5_newCapacity_0f7a4_14 rfl rfl ?_
  refine xx_isub C 16 rfl dJ5_newCapacity_0f7a4_15 ?_
  refine xx_nm C h (fun n16 h => ?_)
  refine xx_istore (lv1 := [(4, .int (iI n16)), (3, .int (iI n12)), (2, .int (iI v4)), (0, .ref (ad 141)), (1, .int (iI a1))]) C 18 rfl (by decide) dJ5_newCapacity_0f7a4_16 rfl ?_
  refine xx_iload_n C 19 rfl 2 dJ5_newCapacity_0f7a4_18 rfl rfl ?_
  refine xx_iload C 21 rfl 0 dJ5_newCapacity_0f7a4_19 rfl ?_
  refine xx_iload_n C 22 rfl 2 dJ5_newCapacity_0f7a4_21 rfl rfl ?_
  refine xx_iconst C 23 rfl dJ5_newCapacity_0f7a4_22 ?_
  refine xx_aload_n C 24 rfl 3 dJ5_newCapacity_0f7a4_23 rfl rfl ?_
  refine xx_geti (fi := 1) (j := 1) C 27 rfl (by decide) (ceX_141 _ _ _) rfl in_J4 (by decide) rfl w_282 dJ5_newCapacity_0f7a4_24 h (fun v24 h => ?_)
  refine xx_ishl C 28 rfl dJ5_newCapacity_0f7a4_27 ?_
  refine xx_iadd C 29 rfl dJ5_newCapacity_0f7a4_28 ?_
  refine xx_cSip (As := [.int (iI v4), .int (iI n16), .int (iI (v4 + (sl_ 2 v24)))]) (st := []) C 32 rfl  ca_J8_newLength_cabcc cs_J8_newLength_cabcc w_636 rfl ⟨Nat.le_of_ble_eq_true rfl, Nat.le_of_ble_eq_true rfl⟩ ⟨Nat.le_of_ble_eq_true rfl, Nat.le_of_ble_eq_true rfl⟩ (Nat.le_of_ble_eq_true rfl) dJ5_newCapacity_0f7a4_29 (fun v29 e9 => c_J8_newLength_cabcc _ _ _ _ v29 e9) h (fun v29 h => ?_) rfl
  refine xx_istore (lv1 := [(5, .int (iI v29)), (4, .int (iI n16)), (3, .int (iI n12)), (2, .int (iI v4)), (0, .ref (ad 141)), (1, .int (iI a1))]) C 34 rfl (by decide) dJ5_newCapacity_0f7a4_32 rfl ?_
  refine xx_iload C 36 rfl 0 dJ5_newCapacity_0f7a4_34 rfl ?_
  refine xx_ldci C 38 rfl (v := 2147483647) w_646 dJ5_newCapacity_0f7a4_36 ?_
  refine xx_icmp_ne (tgt := 51) C 41 rfl dJ5_newCapacity_0f7a4_38 (by decide) h (fun h => ?_) (fun h => ?_)
  · refine xx_iload C 53 rfl 0 dJ5_newCapacity_0f7a4_51 rfl ?_
    refine xx_aload_n C 54 rfl 4 dJ5_newCapacity_0f7a4_53 rfl rfl ?_
    refine xx_geti (fi := 1) (j := 1) C 57 rfl (by decide) (ceX_141 _ _ _) rfl in_J4 (by decide) rfl w_282 dJ5_newCapacity_0f7a4_54 h (fun v54 h => ?_)
    refine xx_ishr C 58 rfl dJ5_newCapacity_0f7a4_57 ?_
    exact xx_iretp C E rfl ⟨Nat.le_of_ble_eq_true rfl, Nat.le_of_ble_eq_true rfl⟩ dJ5_newCapacity_0f7a4_58 h
  · exact nn_ h

def f_J5_ensureCapacityInternal_d00df_o141g (μ : mu_T) (a1 : Int) : Option mu_T :=
  nm_ (bl_ μ 142) (fun v4 => nm_ (μ 141 1) (fun v6 => nm_ ((sr_ v4 v6)) (fun n10 => lt_ 0 (a1 - n10)
      (bd_ (f_J5_newCapacity_0f7a4_o141 μ a1) (fun v24 => nm_ (μ 141 1) (fun v28 => gw_ μ 142 (sl_ v24 v28) (fun μ32 => some μ32))))
      (some μ))))
set_option maxHeartbeats 4000000 in
set_option maxRecDepth 100000 in
theorem c_J5_ensureCapacityInternal_d00df_o141g {G : gp_} {ad : Nat → Nat} (p q : Nat) (μ : mu_T) (a1 : Int) (μr : mu_T) (h : f_J5_ensureCapacityInternal_d00df_o141g μ a1 = some μr) : mgv_ yJ5_ensureCapacityInternal_d00df cJ5_ensureCapacityInternal_d00df 3 none ({ frames := 3, cells := 1, slots := 70, locals := 70 } : Room) G ad p q [.ref (ad 141), .int (iI a1)] μ μr := by
  refine mg_in (own := "java/lang/AbstractStringBuilder") (lv := [(0, .ref (ad 141)), (1, .int (iI a1))]) (by decide) rfl rfl (Nat.le_of_ble_eq_true rfl) (fun X C E => ?_)
  have hb : (0 + 0 ≤ 0 ∧ 0 + 0 ≤ 0) := ⟨Nat.le_refl _, Nat.le_refl _⟩
  unfold f_J5_ensureCapacityInternal_d00df_o141g at h
  refine xx_aload_n C 1 rfl 0 dJ5_ensureCapacityInternal_d00df_0 rfl rfl ?_
  refine xx_getr (fi := 0) C 4 rfl (by decide) (ceX_141 _ _ _) rfl in_J4 (by decide) rfl w_281 dJ5_ensureCapacityInternal_d00df_1 ?_
  refine xx_blen C 5 rfl (by decide) (fun row => ceX_142 _ _ row) dJ5_ensureCapacityInternal_d00df_4 h (fun v4 h => ?_)
  refine xx_aload_n C 6 rfl 0 dJ5_ensureCapacityInternal_d00df_5 rfl rfl ?_
  refine xx_geti (fi := 1) (j := 1) C 9 rfl (by decide) (ceX_141 _ _ _) rfl in_J4 (by decide) rfl w_282 dJ5_ensureCapacityInternal_d00df_6 h (fun v6 h => ?_)
  refine xx_ishr C 10 rfl dJ5_ensureCapacityInternal_d00df_9 ?_
  refine xx_nm C h (fun n10 h => ?_)
  refine xx_istore_n (lv1 := [(2, .int (iI n10)), (0, .ref (ad 141)), (1, .int (iI a1))]) C 11 rfl (by decide) dJ5_ensureCapacityInternal_d00df_10 rfl rfl ?_
  refine xx_iload_n C 12 rfl 2 dJ5_ensureCapacityInternal_d00df_11 rfl rfl ?_
  refine xx_iload_n C 13 rfl 0 dJ5_ensureCapacityInternal_d00df_12 rfl rfl ?_
  refine xx_isub C 14 rfl dJ5_ensureCapacityInternal_d00df_13 ?_
  refine xx_if_le (tgt := 38) C 17 rfl dJ5_ensureCapacityInternal_d00df_14 (by decide) h (fun h => ?_) (fun h => ?_)
  · exact xx_gvret C E rfl (gR_ hb (Nat.le_of_ble_eq_true rfl) (Nat.le_of_ble_eq_true rfl)) dJ5_ensureCapacityInternal_d00df_38 h
  · refine xx_aload_n C 18 rfl 1 dJ5_ensureCapacityInternal_d00df_17 rfl rfl ?_
    refine xx_aload_n C 19 rfl 1 dJ5_ensureCapacityInternal_d00df_18 rfl rfl ?_
    refine xx_getr (fi := 0) C 22 rfl (by decide) (ceX_141 _ _ _) rfl in_J4 (by decide) rfl w_281 dJ5_ensureCapacityInternal_d00df_19 ?_
    refine xx_aload_n C 23 rfl 1 dJ5_ensureCapacityInternal_d00df_22 rfl rfl ?_
    refine xx_iload_n C 24 rfl 2 dJ5_ensureCapacityInternal_d00df_23 rfl rfl ?_
    refine xx_cUip (As := [.int (iI a1)]) (st := [.ref (am_ ad p q 142), .ref (ad 141)]) (o := 141) C 27 rfl (by decide) (ceX_141 _ _ _) rfl ca_J5_newCapacity_0f7a4 cu_J5_newCapacity_0f7a4 se_J5_newCapacity_0f7a4 w_632 rfl ⟨Nat.le_of_ble_eq_true rfl, Nat.le_of_ble_eq_true rfl⟩ (gB_ hb (Nat.le_of_ble_eq_true rfl) (Nat.le_of_ble_eq_true rfl)) (Nat.le_of_ble_eq_true rfl) dJ5_ensureCapacityInternal_d00df_24 (fun v24 e9 => c_J5_newCapacity_0f7a4_o141 _ _ v24 e9) h (fun v24 h => ?_) rfl
    have hb := gN_ (c2 := 0) (s2 := 0) hb
    refine xx_aload_n C 28 rfl 1 dJ5_ensureCapacityInternal_d00df_27 rfl rfl ?_
    refine xx_geti (fi := 1) (j := 1) C 31 rfl (by decide) (ceX_141 _ _ _) rfl in_J4 (by decide) rfl w_282 dJ5_ensureCapacityInternal_d00df_28 h (fun v28 h => ?_)
    refine xx_ishl C 32 rfl dJ5_ensureCapacityInternal_d00df_31 ?_
    refine xx_grow141 C 38 rfl (gB_ hb (Nat.le_of_ble_eq_true rfl) (Nat.le_of_ble_eq_true rfl)) ⟨(Nat.le_of_ble_eq_true rfl), (Nat.le_of_ble_eq_true rfl)⟩ dJ5_ensureCapacityInternal_d00df_32 dJ5_ensureCapacityInternal_d00df_35 h (fun p q μ32 h => ?_)
    have hb := gN_ (c2 := 1) (s2 := 70) hb
    exact xx_gvret C E rfl (gR_ hb (Nat.le_of_ble_eq_true rfl) (Nat.le_of_ble_eq_true rfl)) dJ5_ensureCapacityInternal_d00df_38 h

def f_J5_isLatin1_aae02_o141 (μ : mu_T)  : Option Int :=
  eq_ 1 0
      (some 0)
      (nm_ (μ 141 1) (fun v7 => eq_ v7 0
      (some 1)
      (some 0)))
set_option maxHeartbeats 4000000 in
set_option maxRecDepth 100000 in
theorem c_J5_isLatin1_aae02_o141 {G : gp_} {ad : Nat → Nat} (μ : mu_T)  (a : Int) (h : f_J5_isLatin1_aae02_o141 μ  = some a) : mi_ yJ5_isLatin1_aae02 cJ5_isLatin1_aae02 1 (some .boolean) ({ frames := 0, cells := 0, slots := 0, locals := 0 } : Room) G 151 ad (ceX G ad) [.ref (ad 141)] μ a μ := by
  refine mi_in (own := "java/lang/AbstractStringBuilder") (lv := [(0, .ref (ad 141))]) (by decide) rfl rfl (Nat.le_of_ble_eq_true rfl) (fun X C E => ?_)
  unfold f_J5_isLatin1_aae02_o141 at h
  refine xx_gcs C 3 rfl w_272 dJ5_isLatin1_aae02_0 ?_
  refine xx_if_eq (tgt := 17) C 6 rfl dJ5_isLatin1_aae02_3 (by decide) h (fun h => ?_) (fun h => ?_)
  · refine xx_iconst C 18 rfl dJ5_isLatin1_aae02_17 ?_
    exact xx_zretl C E rfl rfl ⟨Nat.le_of_ble_eq_true rfl, Nat.le_of_ble_eq_true rfl⟩ dJ5_isLatin1_aae02_18 h
  · refine xx_aload_n C 7 rfl 0 dJ5_isLatin1_aae02_6 rfl rfl ?_
    refine xx_geti (fi := 1) (j := 1) C 10 rfl (by decide) (ceX_141 _ _ _) rfl in_J4 (by decide) rfl w_282 dJ5_isLatin1_aae02_7 h (fun v7 h => ?_)
    refine xx_if_ne (tgt := 17) C 13 rfl dJ5_isLatin1_aae02_10 (by decide) h (fun h => ?_) (fun h => ?_)
    · refine xx_iconst C 18 rfl dJ5_isLatin1_aae02_17 ?_
      exact xx_zretl C E rfl rfl ⟨Nat.le_of_ble_eq_true rfl, Nat.le_of_ble_eq_true rfl⟩ dJ5_isLatin1_aae02_18 h
    · refine xx_iconst C 14 rfl dJ5_isLatin1_aae02_13 ?_
      refine xx_goto C 18 dJ5_isLatin1_aae02_14 (by decide) ?_
      exact xx_zretl C E rfl rfl ⟨Nat.le_of_ble_eq_true rfl, Nat.le_of_ble_eq_true rfl⟩ dJ5_isLatin1_aae02_18 h

def f_J5_append_3fe6f_o141g (μ : mu_T) (a1 : Int) : Option mu_T :=
  nm_ (μ 141 3) (fun v2 => bd_ (f_J5_ensureCapacityInternal_d00df_o141g μ (v2 + 1)) (fun μ7 => bd_ (f_J5_isLatin1_aae02_o141 μ7) (fun v11 => jn_ (φ := Unit → Option mu_T) (fun _ => bd_ (f_J5_isLatin1_aae02_o141 μ7) (fun v46 => jn_ (φ := Unit → Option mu_T) (fun _ => nm_ (μ7 141 3) (fun v62 => wf_ μ7 141 3 (v62 + 1) (fun μ68 => none)))
      (fun J56 => eq_ v46 0
      (J56 ())
      (none))))
      (fun J45 => eq_ v11 0
      (J45 ())
      (bd_ (f_J1_canEncode_fc78d μ7 a1) (fun v18 => eq_ v18 0
      (J45 ())
      (nm_ (μ7 141 3) (fun v30 => wf_ μ7 141 3 (v30 + 1) (fun μ36 => wb_ μ36 142 v30 (i2b_ a1) (fun μ41 => some μ41))))))))))
set_option maxHeartbeats 4000000 in
set_option maxRecDepth 100000 in
theorem c_J5_append_3fe6f_o141g {G : gp_} {ad : Nat → Nat} (p q : Nat) (μ : mu_T) (a1 : Int) (μr : mu_T) (h : f_J5_append_3fe6f_o141g μ a1 = some μr) : mgr_ yJ5_append_3fe6f cJ5_append_3fe6f 2 (some (Jvm.ClassFile.FieldType.object "java/lang/AbstractStringBuilder")) ({ frames := 4, cells := 1, slots := 70, locals := 92 } : Room) G ad p q [.ref (ad 141), .int (iI a1)] μ 141 μr := by
  refine mg_in (own := "java/lang/AbstractStringBuilder") (lv := [(0, .ref (ad 141)), (1, .int (iI a1))]) (by decide) rfl rfl (Nat.le_of_ble_eq_true rfl) (fun X C E => ?_)
  have hb : (0 + 0 ≤ 0 ∧ 0 + 0 ≤ 0) := ⟨Nat.le_refl _, Nat.le_refl _⟩
  unfold f_J5_append_3fe6f_o141g at h
  refine xx_aload_n C 1 rfl 0 dJ5_append_3fe6f_0 rfl rfl ?_
  refine xx_aload_n C 2 rfl 0 dJ5_append_3fe6f_1 rfl rfl ?_
  refine xx_geti (fi := 3) (j := 3) C 5 rfl (by decide) (ceX_141 _ _ _) rfl in_J4 (by decide) rfl w_285 dJ5_append_3fe6f_2 h (fun v2 h => ?_)
  refine xx_iconst C 6 rfl dJ5_append_3fe6f_5 ?_
  refine xx_iadd C 7 rfl dJ5_append_3fe6f_6 ?_
  refine xx_gUv (As := [.int (iI (v2 + 1))]) (st := []) (o := 141) C 10 rfl (by decide) (ceX_141 _ _ _) rfl ca_J5_ensureCapacityInternal_d00df cu_J5_ensureCapacityInternal_d00df se_J5_ensureCapacityInternal_d00df w_628 rfl ⟨Nat.le_of_ble_eq_true rfl, Nat.le_of_ble_eq_true rfl⟩ (gB_ hb (Nat.le_of_ble_eq_true rfl) (Nat.le_of_ble_eq_true rfl)) (Nat.le_of_ble_eq_true rfl) dJ5_append_3fe6f_7 (fun μ7 e9 => c_J5_ensureCapacityInternal_d00df_o141g p q _ _ μ7 e9) h (fun p q μ7 h => ?_) rfl
  have hb := gN_ (c2 := 1) (s2 := 70) hb
  refine xx_aload_n C 11 rfl 0 dJ5_append_3fe6f_10 rfl rfl ?_
  refine xx_cUip (As := []) (st := []) (o := 141) C 14 rfl (by decide) (ceX_141 _ _ _) rfl ca_J5_isLatin1_aae02 cu_J5_isLatin1_aae02 se_J5_isLatin1_aae02 w_659 rfl ⟨Nat.le_of_ble_eq_true rfl, Nat.le_of_ble_eq_true rfl⟩ (gB_ hb (Nat.le_of_ble_eq_true rfl) (Nat.le_of_ble_eq_true rfl)) (Nat.le_of_ble_eq_true rfl) dJ5_append_3fe6f_11 (fun v11 e9 => c_J5_isLatin1_aae02_o141 _ v11 e9) h (fun v11 h => ?_) rfl
  have hb := gN_ (c2 := 0) (s2 := 0) hb
  refine jn_r (fun J => ∀ (p q k n : Nat), (k + 0 ≤ 1 ∧ n + 0 ≤ 70) → ∀ (_u : Unit), J _u = some μr → wx_ G X 151 (am_ ad p q) (ceX G (am_ ad p q)) μ7 k n 45 [(0, .ref (ad 141)), (1, .int (iI a1))] []) h (fun p q k n hb _ h => ?_) (fun J45 K45 h => ?_)
  · refine xx_aload_n C 46 rfl 0 dJ5_append_3fe6f_45 rfl rfl ?_
    refine xx_cUip (As := []) (st := []) (o := 141) C 49 rfl (by decide) (ceX_141 _ _ _) rfl ca_J5_isLatin1_aae02 cu_J5_isLatin1_aae02 se_J5_isLatin1_aae02 w_659 rfl ⟨Nat.le_of_ble_eq_true rfl, Nat.le_of_ble_eq_true rfl⟩ (gB_ hb (Nat.le_of_ble_eq_true rfl) (Nat.le_of_ble_eq_true rfl)) (Nat.le_of_ble_eq_true rfl) dJ5_append_3fe6f_46 (fun v46 e9 => c_J5_isLatin1_aae02_o141 _ v46 e9) h (fun v46 h => ?_) rfl
    have hb := gN_ (c2 := 0) (s2 := 0) hb
    refine jn_r (fun J => ∀ (p q k n : Nat), (k + 0 ≤ 1 ∧ n + 0 ≤ 70) → ∀ (_u : Unit), J _u = some μr → wx_ G X 151 (am_ ad p q) (ceX G (am_ ad p q)) μ7 k n 56 [(0, .ref (ad 141)), (1, .int (iI a1))] []) h (fun p q k n hb _ h => ?_) (fun J56 K56 h => ?_)
    · refine xx_aload_n C 57 rfl 0 dJ5_append_3fe6f_56 rfl rfl ?_
      refine xx_getr (fi := 0) C 60 rfl (by decide) (ceX_141 _ _ _) rfl in_J4 (by decide) rfl w_281 dJ5_append_3fe6f_57 ?_
      refine xx_aload_n C 61 rfl 0 dJ5_append_3fe6f_60 rfl rfl ?_
      refine xx_dup C 62 rfl dJ5_append_3fe6f_61 rfl ?_
      refine xx_geti (fi := 3) (j := 3) C 65 rfl (by decide) (ceX_141 _ _ _) rfl in_J4 (by decide) rfl w_285 dJ5_append_3fe6f_62 h (fun v62 h => ?_)
      refine xx_dup_x1 C 66 rfl dJ5_append_3fe6f_65 rfl rfl ?_
      refine xx_iconst C 67 rfl dJ5_append_3fe6f_66 ?_
      refine xx_iadd C 68 rfl dJ5_append_3fe6f_67 ?_
      refine xx_puti (fi := 3) (j := 3) C 71 rfl (by decide) (ceX_141 _ _ _) (puX_141_3 _ _ _ _) rfl in_J4 tyJ4 tyJ4_ok nmJ4 (by decide) (Nat.le_of_ble_eq_true rfl) ⟨rfl, rfl⟩ w_285 dJ5_append_3fe6f_68 h (fun μ68 h => ?_)
      refine xx_iload_n C 72 rfl 1 dJ5_append_3fe6f_71 rfl rfl ?_
      exact nn_ h
    · refine xx_if_eq (tgt := 56) C 52 rfl dJ5_append_3fe6f_49 (by decide) h (fun h => ?_) (fun h => ?_)
      · exact K56 p q _ _ (gW_ hb (Nat.le_of_ble_eq_true rfl) (Nat.le_of_ble_eq_true rfl)) () h
      · refine xx_aload_n C 53 rfl 0 dJ5_append_3fe6f_52 rfl rfl ?_
        exact nn_ h
  · refine xx_if_eq (tgt := 45) C 17 rfl dJ5_append_3fe6f_14 (by decide) h (fun h => ?_) (fun h => ?_)
    · exact K45 p q _ _ (gW_ hb (Nat.le_of_ble_eq_true rfl) (Nat.le_of_ble_eq_true rfl)) () h
    · refine xx_iload_n C 18 rfl 1 dJ5_append_3fe6f_17 rfl rfl ?_
      refine xx_cSip (As := [.int (iI a1)]) (st := []) C 21 rfl  ca_J1_canEncode_fc78d cs_J1_canEncode_fc78d w_859 rfl ⟨Nat.le_of_ble_eq_true rfl, Nat.le_of_ble_eq_true rfl⟩ (gB_ hb (Nat.le_of_ble_eq_true rfl) (Nat.le_of_ble_eq_true rfl)) (Nat.le_of_ble_eq_true rfl) dJ5_append_3fe6f_18 (fun v18 e9 => c_J1_canEncode_fc78d _ _ v18 e9) h (fun v18 h => ?_) rfl
      have hb := gN_ (c2 := 0) (s2 := 0) hb
      refine xx_if_eq (tgt := 45) C 24 rfl dJ5_append_3fe6f_21 (by decide) h (fun h => ?_) (fun h => ?_)
      · exact K45 p q _ _ (gW_ hb (Nat.le_of_ble_eq_true rfl) (Nat.le_of_ble_eq_true rfl)) () h
      · refine xx_aload_n C 25 rfl 0 dJ5_append_3fe6f_24 rfl rfl ?_
        refine xx_getr (fi := 0) C 28 rfl (by decide) (ceX_141 _ _ _) rfl in_J4 (by decide) rfl w_281 dJ5_append_3fe6f_25 ?_
        refine xx_aload_n C 29 rfl 0 dJ5_append_3fe6f_28 rfl rfl ?_
        refine xx_dup C 30 rfl dJ5_append_3fe6f_29 rfl ?_
        refine xx_geti (fi := 3) (j := 3) C 33 rfl (by decide) (ceX_141 _ _ _) rfl in_J4 (by decide) rfl w_285 dJ5_append_3fe6f_30 h (fun v30 h => ?_)
        refine xx_dup_x1 C 34 rfl dJ5_append_3fe6f_33 rfl rfl ?_
        refine xx_iconst C 35 rfl dJ5_append_3fe6f_34 ?_
        refine xx_iadd C 36 rfl dJ5_append_3fe6f_35 ?_
        refine xx_puti (fi := 3) (j := 3) C 39 rfl (by decide) (ceX_141 _ _ _) (puX_141_3 _ _ _ _) rfl in_J4 tyJ4 tyJ4_ok nmJ4 (by decide) (Nat.le_of_ble_eq_true rfl) ⟨rfl, rfl⟩ w_285 dJ5_append_3fe6f_36 h (fun μ36 h => ?_)
        refine xx_iload_n C 40 rfl 1 dJ5_append_3fe6f_39 rfl rfl ?_
        refine xx_i2b C 41 rfl dJ5_append_3fe6f_40 ?_
        refine xx_bastore C 42 rfl (by decide) (fun row => ceX_142 _ _ row) dJ5_append_3fe6f_41 h (fun μ41 h => ?_)
        refine xx_goto C 75 dJ5_append_3fe6f_42 (by decide) ?_
        refine xx_aload_n C 76 rfl 0 dJ5_append_3fe6f_75 rfl rfl ?_
        exact xx_garet C E rfl (gR_ hb (Nat.le_of_ble_eq_true rfl) (Nat.le_of_ble_eq_true rfl)) dJ5_append_3fe6f_76 h

def f_J4_append_cf468_o141g (μ : mu_T) (a1 : Int) : Option mu_T :=
  bd_ (f_J5_append_3fe6f_o141g μ a1) (fun μ2 => some μ2)
set_option maxHeartbeats 4000000 in
set_option maxRecDepth 100000 in
theorem c_J4_append_cf468_o141g {G : gp_} {ad : Nat → Nat} (p q : Nat) (μ : mu_T) (a1 : Int) (μr : mu_T) (h : f_J4_append_cf468_o141g μ a1 = some μr) : mgr_ yJ4_append_cf468 cJ4_append_cf468 2 (some (Jvm.ClassFile.FieldType.object "java/lang/StringBuilder")) ({ frames := 5, cells := 1, slots := 70, locals := 113 } : Room) G ad p q [.ref (ad 141), .int (iI a1)] μ 141 μr := by
  refine mg_in (own := "java/lang/StringBuilder") (lv := [(0, .ref (ad 141)), (1, .int (iI a1))]) (by decide) rfl rfl (Nat.le_of_ble_eq_true rfl) (fun X C E => ?_)
  have hb : (0 + 0 ≤ 0 ∧ 0 + 0 ≤ 0) := ⟨Nat.le_refl _, Nat.le_refl _⟩
  unfold f_J4_append_cf468_o141g at h
  refine xx_aload_n C 1 rfl 0 dJ4_append_cf468_0 rfl rfl ?_
  refine xx_iload_n C 2 rfl 1 dJ4_append_cf468_1 rfl rfl ?_
  refine xx_gPr (As := [.int (iI a1)]) (st := []) (o := 141) C 5 rfl (by decide) (ceX_141 _ _ _) rfl ca_J5_append_3fe6f cu_J5_append_3fe6f w_294 w_856 rfl ⟨Nat.le_of_ble_eq_true rfl, Nat.le_of_ble_eq_true rfl⟩ (gB_ hb (Nat.le_of_ble_eq_true rfl) (Nat.le_of_ble_eq_true rfl)) (Nat.le_of_ble_eq_true rfl) dJ4_append_cf468_2 (fun μ2 e9 => c_J5_append_3fe6f_o141g p q _ _ μ2 e9) h (fun p q μ2 h => ?_) rfl
  have hb := gN_ (c2 := 1) (s2 := 70) hb
  refine xx_pop C 6 rfl dJ4_append_cf468_5 rfl ?_
  refine xx_aload_n C 7 rfl 0 dJ4_append_cf468_6 rfl rfl ?_
  exact xx_garet C E rfl (gR_ hb (Nat.le_of_ble_eq_true rfl) (Nat.le_of_ble_eq_true rfl)) dJ4_append_cf468_7 h

def f_X6_addSigng (μ : mu_T) (a1 : Int) : Option (Int × mu_T) :=
  lt_ a1 32
      (some ((-12), μ))
      (lt_ 126 a1
      (some ((-12), μ))
      (bd_ (f_J4_length_8abf5_o141 μ) (fun v19 => lt_ v19 60
      (bd_ (f_J4_append_cf468_o141g μ (i2c_ a1)) (fun μ36 => bd_ (f_J4_length_8abf5_o141 μ36) (fun v44 => some (v44, μ36))))
      (some ((-13), μ)))))
set_option maxHeartbeats 4000000 in
set_option maxRecDepth 100000 in
theorem c_X6_addSigng {G : gp_} {ad : Nat → Nat} (p q : Nat) (μ : mu_T) (a1 : Int) (a : Int) (μr : mu_T) (h : f_X6_addSigng μ a1 = some (a, μr)) : mgi_ yX6_addSign cX6_addSign 2 (some .int) ({ frames := 6, cells := 1, slots := 70, locals := 134 } : Room) G ad p q [.ref (ad 140), .int (iI a1)] μ a μr := by
  refine mg_in (own := "UrnHeap$Orders") (lv := [(0, .ref (ad 140)), (1, .int (iI a1))]) (by decide) rfl rfl (Nat.le_of_ble_eq_true rfl) (fun X C E => ?_)
  have hb : (0 + 0 ≤ 0 ∧ 0 + 0 ≤ 0) := ⟨Nat.le_refl _, Nat.le_refl _⟩
  unfold f_X6_addSigng at h
  refine xx_iload_n C 1 rfl 1 dX6_addSign_0 rfl rfl ?_
  refine xx_bipush C 3 rfl dX6_addSign_1 (by decide) ?_
  refine xx_icmp_lt (tgt := 12) C 6 rfl dX6_addSign_3 (by decide) h (fun h => ?_) (fun h => ?_)
  · refine xx_bipush C 14 rfl dX6_addSign_12 (by decide) ?_
    exact xx_giret C E rfl (gR_ hb (Nat.le_of_ble_eq_true rfl) (Nat.le_of_ble_eq_true rfl)) dX6_addSign_14 h
  · refine xx_iload_n C 7 rfl 1 dX6_addSign_6 rfl rfl ?_
    refine xx_bipush C 9 rfl dX6_addSign_7 (by decide) ?_
    refine xx_icmp_le (tgt := 15) C 12 rfl dX6_addSign_9 (by decide) h (fun h => ?_) (fun h => ?_)
    · refine xx_aload_n C 16 rfl 0 dX6_addSign_15 rfl rfl ?_
      refine xx_getr (fi := 0) C 19 rfl (by decide) (ceX_140 _ _ _) rfl in_X6 (by decide) rfl w_298 dX6_addSign_16 ?_
      refine xx_cVip (As := []) (st := []) (o := 141) C 22 rfl (by decide) (ceX_141 _ _ _) rfl rfl ca_J4_length_8abf5 cv_J4_length_8abf5 w_386 rfl ⟨Nat.le_of_ble_eq_true rfl, Nat.le_of_ble_eq_true rfl⟩ (gB_ hb (Nat.le_of_ble_eq_true rfl) (Nat.le_of_ble_eq_true rfl)) (Nat.le_of_ble_eq_true rfl) dX6_addSign_19 (fun v19 e9 => c_J4_length_8abf5_o141 _ v19 e9) h (fun v19 h => ?_) rfl
      have hb := gN_ (c2 := 0) (s2 := 0) hb
      refine xx_bipush C 24 rfl dX6_addSign_22 (by decide) ?_
      refine xx_icmp_lt (tgt := 30) C 27 rfl dX6_addSign_24 (by decide) h (fun h => ?_) (fun h => ?_)
      · refine xx_aload_n C 31 rfl 0 dX6_addSign_30 rfl rfl ?_
        refine xx_getr (fi := 0) C 34 rfl (by decide) (ceX_140 _ _ _) rfl in_X6 (by decide) rfl w_298 dX6_addSign_31 ?_
        refine xx_iload_n C 35 rfl 1 dX6_addSign_34 rfl rfl ?_
        refine xx_i2c C 36 rfl dX6_addSign_35 ?_
        refine xx_gVr (As := [.int (iI (i2c_ a1))]) (st := []) (o := 141) C 39 rfl (by decide) (ceX_141 _ _ _) rfl rfl ca_J4_append_cf468 cv_J4_append_cf468 w_852 rfl ⟨Nat.le_of_ble_eq_true rfl, Nat.le_of_ble_eq_true rfl⟩ (gB_ hb (Nat.le_of_ble_eq_true rfl) (Nat.le_of_ble_eq_true rfl)) (Nat.le_of_ble_eq_true rfl) dX6_addSign_36 (fun μ36 e9 => c_J4_append_cf468_o141g p q _ _ μ36 e9) h (fun p q μ36 h => ?_) rfl
        have hb := gN_ (c2 := 1) (s2 := 70) hb
        refine xx_pop C 40 rfl dX6_addSign_39 rfl ?_
        refine xx_aload_n C 41 rfl 0 dX6_addSign_40 rfl rfl ?_
        refine xx_getr (fi := 0) C 44 rfl (by decide) (ceX_140 _ _ _) rfl in_X6 (by decide) rfl w_298 dX6_addSign_41 ?_
        refine xx_cVip (As := []) (st := []) (o := 141) C 47 rfl (by decide) (ceX_141 _ _ _) rfl rfl ca_J4_length_8abf5 cv_J4_length_8abf5 w_386 rfl ⟨Nat.le_of_ble_eq_true rfl, Nat.le_of_ble_eq_true rfl⟩ (gB_ hb (Nat.le_of_ble_eq_true rfl) (Nat.le_of_ble_eq_true rfl)) (Nat.le_of_ble_eq_true rfl) dX6_addSign_44 (fun v44 e9 => c_J4_length_8abf5_o141 _ v44 e9) h (fun v44 h => ?_) rfl
        have hb := gN_ (c2 := 0) (s2 := 0) hb
        exact xx_giret C E rfl (gR_ hb (Nat.le_of_ble_eq_true rfl) (Nat.le_of_ble_eq_true rfl)) dX6_addSign_47 h
      · refine xx_bipush C 29 rfl dX6_addSign_27 (by decide) ?_
        exact xx_giret C E rfl (gR_ hb (Nat.le_of_ble_eq_true rfl) (Nat.le_of_ble_eq_true rfl)) dX6_addSign_29 h
    · refine xx_bipush C 14 rfl dX6_addSign_12 (by decide) ?_
      exact xx_giret C E rfl (gR_ hb (Nat.le_of_ble_eq_true rfl) (Nat.le_of_ble_eq_true rfl)) dX6_addSign_14 h

def f_X6_signs (μ : mu_T)  : Option Int :=
  bd_ (f_J4_length_8abf5_o141 μ) (fun v4 => some v4)
set_option maxHeartbeats 4000000 in
set_option maxRecDepth 100000 in
theorem c_X6_signs {G : gp_} {ad : Nat → Nat} (μ : mu_T)  (a : Int) (h : f_X6_signs μ  = some a) : mi_ yX6_signs cX6_signs 1 (some .int) ({ frames := 2, cells := 0, slots := 0, locals := 40 } : Room) G 151 ad (ceX G ad) [.ref (ad 140)] μ a μ := by
  refine mi_in (own := "UrnHeap$Orders") (lv := [(0, .ref (ad 140))]) (by decide) rfl rfl (Nat.le_of_ble_eq_true rfl) (fun X C E => ?_)
  unfold f_X6_signs at h
  refine xx_aload_n C 1 rfl 0 dX6_signs_0 rfl rfl ?_
  refine xx_getr (fi := 0) C 4 rfl (by decide) (ceX_140 _ _ _) rfl in_X6 (by decide) rfl w_298 dX6_signs_1 ?_
  refine xx_cVip (As := []) (st := []) (o := 141) C 7 rfl (by decide) (ceX_141 _ _ _) rfl rfl ca_J4_length_8abf5 cv_J4_length_8abf5 w_386 rfl ⟨Nat.le_of_ble_eq_true rfl, Nat.le_of_ble_eq_true rfl⟩ ⟨Nat.le_of_ble_eq_true rfl, Nat.le_of_ble_eq_true rfl⟩ (Nat.le_of_ble_eq_true rfl) dX6_signs_4 (fun v4 e9 => c_J4_length_8abf5_o141 _ v4 e9) h (fun v4 h => ?_) rfl
  exact xx_iretp C E rfl ⟨Nat.le_of_ble_eq_true rfl, Nat.le_of_ble_eq_true rfl⟩ dX6_signs_7 h

def f_J5_ensureCapacityInternal_d00df_o141 (μ : mu_T) (a1 : Int) : Option mu_T :=
  nm_ (bl_ μ 142) (fun v4 => nm_ (μ 141 1) (fun v6 => nm_ ((sr_ v4 v6)) (fun n10 => lt_ 0 (a1 - n10)
      (bd_ (f_J5_newCapacity_0f7a4_o141 μ a1) (fun v24 => nm_ (μ 141 1) (fun v28 => none)))
      (some μ))))
set_option maxHeartbeats 4000000 in
set_option maxRecDepth 100000 in
theorem c_J5_ensureCapacityInternal_d00df_o141 {G : gp_} {ad : Nat → Nat} (μ : mu_T) (a1 : Int) (μr : mu_T) (h : f_J5_ensureCapacityInternal_d00df_o141 μ a1 = some μr) : mv_ yJ5_ensureCapacityInternal_d00df cJ5_ensureCapacityInternal_d00df 3 ({ frames := 3, cells := 0, slots := 0, locals := 70 } : Room) G 151 ad (ceX G ad) [.ref (ad 141), .int (iI a1)] μ μr := by
  refine mv_in (own := "java/lang/AbstractStringBuilder") (lv := [(0, .ref (ad 141)), (1, .int (iI a1))]) (by decide) rfl rfl (Nat.le_of_ble_eq_true rfl) (fun X C E => ?_)
  unfold f_J5_ensureCapacityInternal_d00df_o141 at h
  refine xx_aload_n C 1 rfl 0 dJ5_ensureCapacityInternal_d00df_0 rfl rfl ?_
  refine xx_getr (fi := 0) C 4 rfl (by decide) (ceX_141 _ _ _) rfl in_J4 (by decide) rfl w_281 dJ5_ensureCapacityInternal_d00df_1 ?_
  refine xx_blen C 5 rfl (by decide) (fun row => ceX_142 _ _ row) dJ5_ensureCapacityInternal_d00df_4 h (fun v4 h => ?_)
  refine xx_aload_n C 6 rfl 0 dJ5_ensureCapacityInternal_d00df_5 rfl rfl ?_
  refine xx_geti (fi := 1) (j := 1) C 9 rfl (by decide) (ceX_141 _ _ _) rfl in_J4 (by decide) rfl w_282 dJ5_ensureCapacityInternal_d00df_6 h (fun v6 h => ?_)
  refine xx_ishr C 10 rfl dJ5_ensureCapacityInternal_d00df_9 ?_
  refine xx_nm C h (fun n10 h => ?_)
  refine xx_istore_n (lv1 := [(2, .int (iI n10)), (0, .ref (ad 141)), (1, .int (iI a1))]) C 11 rfl (by decide) dJ5_ensureCapacityInternal_d00df_10 rfl rfl ?_
  refine xx_iload_n C 12 rfl 2 dJ5_ensureCapacityInternal_d00df_11 rfl rfl ?_
  refine xx_iload_n C 13 rfl 0 dJ5_ensureCapacityInternal_d00df_12 rfl rfl ?_
  refine xx_isub C 14 rfl dJ5_ensureCapacityInternal_d00df_13 ?_
  refine xx_if_le (tgt := 38) C 17 rfl dJ5_ensureCapacityInternal_d00df_14 (by decide) h (fun h => ?_) (fun h => ?_)
  · exact xx_vret C E rfl ⟨Nat.le_of_ble_eq_true rfl, Nat.le_of_ble_eq_true rfl⟩ dJ5_ensureCapacityInternal_d00df_38 h
  · refine xx_aload_n C 18 rfl 1 dJ5_ensureCapacityInternal_d00df_17 rfl rfl ?_
    refine xx_aload_n C 19 rfl 1 dJ5_ensureCapacityInternal_d00df_18 rfl rfl ?_
    refine xx_getr (fi := 0) C 22 rfl (by decide) (ceX_141 _ _ _) rfl in_J4 (by decide) rfl w_281 dJ5_ensureCapacityInternal_d00df_19 ?_
    refine xx_aload_n C 23 rfl 1 dJ5_ensureCapacityInternal_d00df_22 rfl rfl ?_
    refine xx_iload_n C 24 rfl 2 dJ5_ensureCapacityInternal_d00df_23 rfl rfl ?_
    refine xx_cUip (As := [.int (iI a1)]) (st := [.ref (ad 142), .ref (ad 141)]) (o := 141) C 27 rfl (by decide) (ceX_141 _ _ _) rfl ca_J5_newCapacity_0f7a4 cu_J5_newCapacity_0f7a4 se_J5_newCapacity_0f7a4 w_632 rfl ⟨Nat.le_of_ble_eq_true rfl, Nat.le_of_ble_eq_true rfl⟩ ⟨Nat.le_of_ble_eq_true rfl, Nat.le_of_ble_eq_true rfl⟩ (Nat.le_of_ble_eq_true rfl) dJ5_ensureCapacityInternal_d00df_24 (fun v24 e9 => c_J5_newCapacity_0f7a4_o141 _ _ v24 e9) h (fun v24 h => ?_) rfl
    refine xx_aload_n C 28 rfl 1 dJ5_ensureCapacityInternal_d00df_27 rfl rfl ?_
    refine xx_geti (fi := 1) (j := 1) C 31 rfl (by decide) (ceX_141 _ _ _) rfl in_J4 (by decide) rfl w_282 dJ5_ensureCapacityInternal_d00df_28 h (fun v28 h => ?_)
    refine xx_ishl C 32 rfl dJ5_ensureCapacityInternal_d00df_31 ?_
    exact nn_ h

def f_J7_rangeCheck_23922 (μ : mu_T) (a0 : Int) (a1 : Int) (a2 : Int) : Option mu_T :=
  lt_ a2 a1
      (none)
      (lt_ a1 0
      (none)
      (lt_ a0 a2
      (none)
      (some μ)))
set_option maxHeartbeats 4000000 in
set_option maxRecDepth 100000 in
theorem c_J7_rangeCheck_23922 {G : gp_} {ad : Nat → Nat} (μ : mu_T) (a0 : Int) (a1 : Int) (a2 : Int) (μr : mu_T) (h : f_J7_rangeCheck_23922 μ a0 a1 a2 = some μr) : mv_ yJ7_rangeCheck_23922 cJ7_rangeCheck_23922 3 ({ frames := 0, cells := 0, slots := 0, locals := 0 } : Room) G 151 ad (ceX G ad) [.int (iI a0), .int (iI a1), .int (iI a2)] μ μr := by
  refine mv_in (own := "java/util/Arrays") (lv := [(0, .int (iI a0)), (1, .int (iI a1)), (2, .int (iI a2))]) (by decide) rfl rfl (Nat.le_of_ble_eq_true rfl) (fun X C E => ?_)
  unfold f_J7_rangeCheck_23922 at h
  refine xx_iload_n C 1 rfl 1 dJ7_rangeCheck_23922_0 rfl rfl ?_
  refine xx_iload_n C 2 rfl 2 dJ7_rangeCheck_23922_1 rfl rfl ?_
  refine xx_icmp_le (tgt := 46) C 5 rfl dJ7_rangeCheck_23922_2 (by decide) h (fun h => ?_) (fun h => ?_)
  · refine xx_iload_n C 47 rfl 1 dJ7_rangeCheck_23922_46 rfl rfl ?_
    refine xx_if_ge (tgt := 59) C 50 rfl dJ7_rangeCheck_23922_47 (by decide) h (fun h => ?_) (fun h => ?_)
    · refine xx_iload_n C 60 rfl 2 dJ7_rangeCheck_23922_59 rfl rfl ?_
      refine xx_iload_n C 61 rfl 0 dJ7_rangeCheck_23922_60 rfl rfl ?_
      refine xx_icmp_le (tgt := 73) C 64 rfl dJ7_rangeCheck_23922_61 (by decide) h (fun h => ?_) (fun h => ?_)
      · exact xx_vret C E rfl ⟨Nat.le_of_ble_eq_true rfl, Nat.le_of_ble_eq_true rfl⟩ dJ7_rangeCheck_23922_73 h
      · exact nn_ h
    · exact nn_ h
  · exact nn_ h

def f_J7_fill_eb02e_o142_L10 (a2 : Int) (a3 : Int) : Nat → Int → mu_T → Option mu_T
  | 0, _, _ => none
  | fu10 + 1, x4_10, μ10 => lt_ x4_10 a2
      (wb_ μ10 142 x4_10 a3 (fun μ20 => nm_ (x4_10 + 1) (fun n21 => (f_J7_fill_eb02e_o142_L10 a2 a3 fu10) n21 μ20)))
      (some μ10)
def f_J7_fill_eb02e_o142 (μ : mu_T) (a1 : Int) (a2 : Int) (a3 : Int) : Option mu_T :=
  nm_ (bl_ μ 142) (fun v1 => bd_ (f_J7_rangeCheck_23922 μ v1 a1 a2) (fun μ4 => f_J7_fill_eb02e_o142_L10 a2 a3 20000 a1 μ4))
set_option maxHeartbeats 4000000 in
set_option maxRecDepth 100000 in
theorem c_J7_fill_eb02e_o142 {G : gp_} {ad : Nat → Nat} (μ : mu_T) (a1 : Int) (a2 : Int) (a3 : Int) (μr : mu_T) (h : f_J7_fill_eb02e_o142 μ a1 a2 a3 = some μr) : mv_ yJ7_fill_eb02e cJ7_fill_eb02e 5 ({ frames := 1, cells := 0, slots := 0, locals := 22 } : Room) G 151 ad (ceX G ad) [.ref (ad 142), .int (iI a1), .int (iI a2), .int (iI a3)] μ μr := by
  refine mv_in (own := "java/util/Arrays") (lv := [(0, .ref (ad 142)), (1, .int (iI a1)), (2, .int (iI a2)), (3, .int (iI a3))]) (by decide) rfl rfl (Nat.le_of_ble_eq_true rfl) (fun X C E => ?_)
  unfold f_J7_fill_eb02e_o142 at h
  refine xx_aload_n C 1 rfl 0 dJ7_fill_eb02e_0 rfl rfl ?_
  refine xx_blen C 2 rfl (by decide) (fun row => ceX_142 _ _ row) dJ7_fill_eb02e_1 h (fun v1 h => ?_)
  refine xx_iload_n C 3 rfl 1 dJ7_fill_eb02e_2 rfl rfl ?_
  refine xx_iload_n C 4 rfl 2 dJ7_fill_eb02e_3 rfl rfl ?_
  refine xx_cSv (As := [.int (iI v1), .int (iI a1), .int (iI a2)]) (st := []) C 7 rfl  ca_J7_rangeCheck_23922 cs_J7_rangeCheck_23922 w_932 rfl ⟨Nat.le_of_ble_eq_true rfl, Nat.le_of_ble_eq_true rfl⟩ ⟨Nat.le_of_ble_eq_true rfl, Nat.le_of_ble_eq_true rfl⟩ (Nat.le_of_ble_eq_true rfl) dJ7_fill_eb02e_4 (fun μ4 e9 => c_J7_rangeCheck_23922 _ _ _ _ μ4 e9) h (fun μ4 h => ?_) rfl
  refine xx_iload_n C 8 rfl 1 dJ7_fill_eb02e_7 rfl rfl ?_
  refine xx_istore (lv1 := [(4, .int (iI a1)), (0, .ref (ad 142)), (1, .int (iI a1)), (2, .int (iI a2)), (3, .int (iI a3))]) C 10 rfl (by decide) dJ7_fill_eb02e_8 rfl ?_
  have L10 : ∀ (fu10 : Nat) (x4_10 : Int) (μ10 : mu_T), f_J7_fill_eb02e_o142_L10 a2 a3 fu10 x4_10 μ10 = some μr → wx_ G X 151 ad (ceX G ad) μ10 0 0 10 [(0, .ref (ad 142)), (2, .int (iI a2)), (3, .int (iI a3)), (4, .int (iI x4_10))] [] := by
    intro fu10
    induction fu10 with
    | zero => intro x4_10 μ10 h; exact nn_ h
    | succ fu10 K10 =>
      intro x4_10 μ10 h
      rw [f_J7_fill_eb02e_o142_L10] at h
      generalize f_J7_fill_eb02e_o142_L10 a2 a3 fu10 = R10 at K10 h
      refine xx_iload C 12 rfl 3 dJ7_fill_eb02e_10 rfl ?_
      refine xx_iload_n C 13 rfl 1 dJ7_fill_eb02e_12 rfl rfl ?_
      refine xx_icmp_ge (tgt := 27) C 16 rfl dJ7_fill_eb02e_13 (by decide) h (fun h => ?_) (fun h => ?_)
      · exact xx_vret C E rfl ⟨Nat.le_of_ble_eq_true rfl, Nat.le_of_ble_eq_true rfl⟩ dJ7_fill_eb02e_27 h
      · refine xx_aload_n C 17 rfl 0 dJ7_fill_eb02e_16 rfl rfl ?_
        refine xx_iload C 19 rfl 3 dJ7_fill_eb02e_17 rfl ?_
        refine xx_iload_n C 20 rfl 2 dJ7_fill_eb02e_19 rfl rfl ?_
        refine xx_bastore C 21 rfl (by decide) (fun row => ceX_142 _ _ row) dJ7_fill_eb02e_20 h (fun μ20 h => ?_)
        refine xx_iincn C 24 rfl 3 (by decide) dJ7_fill_eb02e_21 rfl h (fun n21 h => ?_)
        refine xx_lv (lv1 := [(4, .int (iI n21)), (0, .ref (ad 142)), (2, .int (iI a2)), (3, .int (iI a3))]) rfl ?_
        refine xx_goto C 10 dJ7_fill_eb02e_24 (by decide) ?_
        refine xx_sub [1, 2, 3, 0] rfl ?_
        exact K10 n21 μ20 h
  refine xx_sub [1, 3, 4, 0] rfl ?_
  exact L10 _ _ _ h

def f_J1_fillNull_b72d1_o142 (μ : mu_T) (a1 : Int) (a2 : Int) : Option mu_T :=
  bd_ (f_J7_fill_eb02e_o142 μ a1 a2 0) (fun μ4 => some μ4)
set_option maxHeartbeats 4000000 in
set_option maxRecDepth 100000 in
theorem c_J1_fillNull_b72d1_o142 {G : gp_} {ad : Nat → Nat} (μ : mu_T) (a1 : Int) (a2 : Int) (μr : mu_T) (h : f_J1_fillNull_b72d1_o142 μ a1 a2 = some μr) : mv_ yJ1_fillNull_b72d1 cJ1_fillNull_b72d1 3 ({ frames := 2, cells := 0, slots := 0, locals := 46 } : Room) G 151 ad (ceX G ad) [.ref (ad 142), .int (iI a1), .int (iI a2)] μ μr := by
  refine mv_in (own := "java/lang/StringLatin1") (lv := [(0, .ref (ad 142)), (1, .int (iI a1)), (2, .int (iI a2))]) (by decide) rfl rfl (Nat.le_of_ble_eq_true rfl) (fun X C E => ?_)
  unfold f_J1_fillNull_b72d1_o142 at h
  refine xx_aload_n C 1 rfl 0 dJ1_fillNull_b72d1_0 rfl rfl ?_
  refine xx_iload_n C 2 rfl 1 dJ1_fillNull_b72d1_1 rfl rfl ?_
  refine xx_iload_n C 3 rfl 2 dJ1_fillNull_b72d1_2 rfl rfl ?_
  refine xx_iconst C 4 rfl dJ1_fillNull_b72d1_3 ?_
  refine xx_cSv (As := [.ref (ad 142), .int (iI a1), .int (iI a2), .int (iI 0)]) (st := []) C 7 rfl  ca_J7_fill_eb02e cs_J7_fill_eb02e w_929 rfl ⟨Nat.le_of_ble_eq_true rfl, Nat.le_of_ble_eq_true rfl⟩ ⟨Nat.le_of_ble_eq_true rfl, Nat.le_of_ble_eq_true rfl⟩ (Nat.le_of_ble_eq_true rfl) dJ1_fillNull_b72d1_4 (fun μ4 e9 => c_J7_fill_eb02e_o142 _ _ _ _ μ4 e9) h (fun μ4 h => ?_) rfl
  exact xx_vret C E rfl ⟨Nat.le_of_ble_eq_true rfl, Nat.le_of_ble_eq_true rfl⟩ dJ1_fillNull_b72d1_7 h

def f_J5_setLength_d00df_o141 (μ : mu_T) (a1 : Int) : Option mu_T :=
  lt_ a1 0
      (none)
      (bd_ (f_J5_ensureCapacityInternal_d00df_o141 μ a1) (fun μ15 => nm_ (μ15 141 3) (fun v19 => lt_ v19 a1
      (bd_ (f_J5_isLatin1_aae02_o141 μ15) (fun v27 => eq_ v27 0
      (nm_ (μ15 141 3) (fun v53 => none))
      (nm_ (μ15 141 3) (fun v38 => bd_ (f_J1_fillNull_b72d1_o142 μ15 v38 a1) (fun μ42 => wf_ μ42 141 3 a1 (fun μ78 => some μ78))))))
      (nm_ (μ15 141 3) (fun v64 => lt_ a1 v64
      (wz_ μ15 141 2 1 (fun μ73 => wf_ μ73 141 3 a1 (fun μ78 => some μ78)))
      (wf_ μ15 141 3 a1 (fun μ78 => some μ78)))))))
set_option maxHeartbeats 4000000 in
set_option maxRecDepth 100000 in
theorem c_J5_setLength_d00df_o141 {G : gp_} {ad : Nat → Nat} (μ : mu_T) (a1 : Int) (μr : mu_T) (h : f_J5_setLength_d00df_o141 μ a1 = some μr) : mv_ yJ5_setLength_d00df cJ5_setLength_d00df 2 ({ frames := 4, cells := 0, slots := 0, locals := 92 } : Room) G 151 ad (ceX G ad) [.ref (ad 141), .int (iI a1)] μ μr := by
  refine mv_in (own := "java/lang/AbstractStringBuilder") (lv := [(0, .ref (ad 141)), (1, .int (iI a1))]) (by decide) rfl rfl (Nat.le_of_ble_eq_true rfl) (fun X C E => ?_)
  unfold f_J5_setLength_d00df_o141 at h
  refine xx_iload_n C 1 rfl 1 dJ5_setLength_d00df_0 rfl rfl ?_
  refine xx_if_ge (tgt := 13) C 4 rfl dJ5_setLength_d00df_1 (by decide) h (fun h => ?_) (fun h => ?_)
  · refine xx_aload_n C 14 rfl 0 dJ5_setLength_d00df_13 rfl rfl ?_
    refine xx_iload_n C 15 rfl 1 dJ5_setLength_d00df_14 rfl rfl ?_
    refine xx_cUv (As := [.int (iI a1)]) (st := []) (o := 141) C 18 rfl (by decide) (ceX_141 _ _ _) rfl ca_J5_ensureCapacityInternal_d00df cu_J5_ensureCapacityInternal_d00df se_J5_ensureCapacityInternal_d00df w_628 rfl ⟨Nat.le_of_ble_eq_true rfl, Nat.le_of_ble_eq_true rfl⟩ ⟨Nat.le_of_ble_eq_true rfl, Nat.le_of_ble_eq_true rfl⟩ (Nat.le_of_ble_eq_true rfl) dJ5_setLength_d00df_15 (fun μ15 e9 => c_J5_ensureCapacityInternal_d00df_o141 _ _ μ15 e9) h (fun μ15 h => ?_) rfl
    refine xx_aload_n C 19 rfl 0 dJ5_setLength_d00df_18 rfl rfl ?_
    refine xx_geti (fi := 3) (j := 3) C 22 rfl (by decide) (ceX_141 _ _ _) rfl in_J4 (by decide) rfl w_285 dJ5_setLength_d00df_19 h (fun v19 h => ?_)
    refine xx_iload_n C 23 rfl 1 dJ5_setLength_d00df_22 rfl rfl ?_
    refine xx_icmp_ge (tgt := 63) C 26 rfl dJ5_setLength_d00df_23 (by decide) h (fun h => ?_) (fun h => ?_)
    · refine xx_aload_n C 64 rfl 0 dJ5_setLength_d00df_63 rfl rfl ?_
      refine xx_geti (fi := 3) (j := 3) C 67 rfl (by decide) (ceX_141 _ _ _) rfl in_J4 (by decide) rfl w_285 dJ5_setLength_d00df_64 h (fun v64 h => ?_)
      refine xx_iload_n C 68 rfl 1 dJ5_setLength_d00df_67 rfl rfl ?_
      refine xx_icmp_le (tgt := 76) C 71 rfl dJ5_setLength_d00df_68 (by decide) h (fun h => ?_) (fun h => ?_)
      · refine xx_aload_n C 77 rfl 0 dJ5_setLength_d00df_76 rfl rfl ?_
        refine xx_iload_n C 78 rfl 1 dJ5_setLength_d00df_77 rfl rfl ?_
        refine xx_puti (fi := 3) (j := 3) C 81 rfl (by decide) (ceX_141 _ _ _) (puX_141_3 _ _ _ _) rfl in_J4 tyJ4 tyJ4_ok nmJ4 (by decide) (Nat.le_of_ble_eq_true rfl) ⟨rfl, rfl⟩ w_285 dJ5_setLength_d00df_78 h (fun μ78 h => ?_)
        exact xx_vret C E rfl ⟨Nat.le_of_ble_eq_true rfl, Nat.le_of_ble_eq_true rfl⟩ dJ5_setLength_d00df_81 h
      · refine xx_aload_n C 72 rfl 0 dJ5_setLength_d00df_71 rfl rfl ?_
        refine xx_iconst C 73 rfl dJ5_setLength_d00df_72 ?_
        refine xx_putz (fi := 2) (j := 2) C 76 rfl (by decide) (ceX_141 _ _ _) (puX_141_2 _ _ _ _) rfl in_J4 tyJ4 tyJ4_ok nmJ4 (by decide) (Nat.le_of_ble_eq_true rfl) ⟨rfl, rfl⟩ w_283 dJ5_setLength_d00df_73 h (fun μ73 h => ?_)
        refine xx_aload_n C 77 rfl 0 dJ5_setLength_d00df_76 rfl rfl ?_
        refine xx_iload_n C 78 rfl 1 dJ5_setLength_d00df_77 rfl rfl ?_
        refine xx_puti (fi := 3) (j := 3) C 81 rfl (by decide) (ceX_141 _ _ _) (puX_141_3 _ _ _ _) rfl in_J4 tyJ4 tyJ4_ok nmJ4 (by decide) (Nat.le_of_ble_eq_true rfl) ⟨rfl, rfl⟩ w_285 dJ5_setLength_d00df_78 h (fun μ78 h => ?_)
        exact xx_vret C E rfl ⟨Nat.le_of_ble_eq_true rfl, Nat.le_of_ble_eq_true rfl⟩ dJ5_setLength_d00df_81 h
    · refine xx_aload_n C 27 rfl 0 dJ5_setLength_d00df_26 rfl rfl ?_
      refine xx_cUip (As := []) (st := []) (o := 141) C 30 rfl (by decide) (ceX_141 _ _ _) rfl ca_J5_isLatin1_aae02 cu_J5_isLatin1_aae02 se_J5_isLatin1_aae02 w_659 rfl ⟨Nat.le_of_ble_eq_true rfl, Nat.le_of_ble_eq_true rfl⟩ ⟨Nat.le_of_ble_eq_true rfl, Nat.le_of_ble_eq_true rfl⟩ (Nat.le_of_ble_eq_true rfl) dJ5_setLength_d00df_27 (fun v27 e9 => c_J5_isLatin1_aae02_o141 _ v27 e9) h (fun v27 h => ?_) rfl
      refine xx_if_eq (tgt := 48) C 33 rfl dJ5_setLength_d00df_30 (by decide) h (fun h => ?_) (fun h => ?_)
      · refine xx_aload_n C 49 rfl 0 dJ5_setLength_d00df_48 rfl rfl ?_
        refine xx_getr (fi := 0) C 52 rfl (by decide) (ceX_141 _ _ _) rfl in_J4 (by decide) rfl w_281 dJ5_setLength_d00df_49 ?_
        refine xx_aload_n C 53 rfl 0 dJ5_setLength_d00df_52 rfl rfl ?_
        refine xx_geti (fi := 3) (j := 3) C 56 rfl (by decide) (ceX_141 _ _ _) rfl in_J4 (by decide) rfl w_285 dJ5_setLength_d00df_53 h (fun v53 h => ?_)
        refine xx_iload_n C 57 rfl 1 dJ5_setLength_d00df_56 rfl rfl ?_
        exact nn_ h
      · refine xx_aload_n C 34 rfl 0 dJ5_setLength_d00df_33 rfl rfl ?_
        refine xx_getr (fi := 0) C 37 rfl (by decide) (ceX_141 _ _ _) rfl in_J4 (by decide) rfl w_281 dJ5_setLength_d00df_34 ?_
        refine xx_aload_n C 38 rfl 0 dJ5_setLength_d00df_37 rfl rfl ?_
        refine xx_geti (fi := 3) (j := 3) C 41 rfl (by decide) (ceX_141 _ _ _) rfl in_J4 (by decide) rfl w_285 dJ5_setLength_d00df_38 h (fun v38 h => ?_)
        refine xx_iload_n C 42 rfl 1 dJ5_setLength_d00df_41 rfl rfl ?_
        refine xx_cSv (As := [.ref (ad 142), .int (iI v38), .int (iI a1)]) (st := []) C 45 rfl  ca_J1_fillNull_b72d1 cs_J1_fillNull_b72d1 w_926 rfl ⟨Nat.le_of_ble_eq_true rfl, Nat.le_of_ble_eq_true rfl⟩ ⟨Nat.le_of_ble_eq_true rfl, Nat.le_of_ble_eq_true rfl⟩ (Nat.le_of_ble_eq_true rfl) dJ5_setLength_d00df_42 (fun μ42 e9 => c_J1_fillNull_b72d1_o142 _ _ _ μ42 e9) h (fun μ42 h => ?_) rfl
        refine xx_goto C 76 dJ5_setLength_d00df_45 (by decide) ?_
        refine xx_aload_n C 77 rfl 0 dJ5_setLength_d00df_76 rfl rfl ?_
        refine xx_iload_n C 78 rfl 1 dJ5_setLength_d00df_77 rfl rfl ?_
        refine xx_puti (fi := 3) (j := 3) C 81 rfl (by decide) (ceX_141 _ _ _) (puX_141_3 _ _ _ _) rfl in_J4 tyJ4 tyJ4_ok nmJ4 (by decide) (Nat.le_of_ble_eq_true rfl) ⟨rfl, rfl⟩ w_285 dJ5_setLength_d00df_78 h (fun μ78 h => ?_)
        exact xx_vret C E rfl ⟨Nat.le_of_ble_eq_true rfl, Nat.le_of_ble_eq_true rfl⟩ dJ5_setLength_d00df_81 h
  · exact nn_ h

def f_J4_setLength_d00df_o141 (μ : mu_T) (a1 : Int) : Option mu_T :=
  bd_ (f_J5_setLength_d00df_o141 μ a1) (fun μ2 => some μ2)
set_option maxHeartbeats 4000000 in
set_option maxRecDepth 100000 in
theorem c_J4_setLength_d00df_o141 {G : gp_} {ad : Nat → Nat} (μ : mu_T) (a1 : Int) (μr : mu_T) (h : f_J4_setLength_d00df_o141 μ a1 = some μr) : mv_ yJ4_setLength_d00df cJ4_setLength_d00df 2 ({ frames := 5, cells := 0, slots := 0, locals := 113 } : Room) G 151 ad (ceX G ad) [.ref (ad 141), .int (iI a1)] μ μr := by
  refine mv_in (own := "java/lang/StringBuilder") (lv := [(0, .ref (ad 141)), (1, .int (iI a1))]) (by decide) rfl rfl (Nat.le_of_ble_eq_true rfl) (fun X C E => ?_)
  unfold f_J4_setLength_d00df_o141 at h
  refine xx_aload_n C 1 rfl 0 dJ4_setLength_d00df_0 rfl rfl ?_
  refine xx_iload_n C 2 rfl 1 dJ4_setLength_d00df_1 rfl rfl ?_
  refine xx_cPv (As := [.int (iI a1)]) (st := []) (o := 141) C 5 rfl (by decide) (ceX_141 _ _ _) rfl ca_J5_setLength_d00df cu_J5_setLength_d00df w_294 w_923 rfl ⟨Nat.le_of_ble_eq_true rfl, Nat.le_of_ble_eq_true rfl⟩ ⟨Nat.le_of_ble_eq_true rfl, Nat.le_of_ble_eq_true rfl⟩ (Nat.le_of_ble_eq_true rfl) dJ4_setLength_d00df_2 (fun μ2 e9 => c_J5_setLength_d00df_o141 _ _ μ2 e9) h (fun μ2 h => ?_) rfl
  exact xx_vret C E rfl ⟨Nat.le_of_ble_eq_true rfl, Nat.le_of_ble_eq_true rfl⟩ dJ4_setLength_d00df_5 h

def f_X6_clearText (μ : mu_T)  : Option mu_T :=
  bd_ (f_J4_setLength_d00df_o141 μ 0) (fun μ5 => some μ5)
set_option maxHeartbeats 4000000 in
set_option maxRecDepth 100000 in
theorem c_X6_clearText {G : gp_} {ad : Nat → Nat} (μ : mu_T)  (μr : mu_T) (h : f_X6_clearText μ  = some μr) : mv_ yX6_clearText cX6_clearText 1 ({ frames := 6, cells := 0, slots := 0, locals := 134 } : Room) G 151 ad (ceX G ad) [.ref (ad 140)] μ μr := by
  refine mv_in (own := "UrnHeap$Orders") (lv := [(0, .ref (ad 140))]) (by decide) rfl rfl (Nat.le_of_ble_eq_true rfl) (fun X C E => ?_)
  unfold f_X6_clearText at h
  refine xx_aload_n C 1 rfl 0 dX6_clearText_0 rfl rfl ?_
  refine xx_getr (fi := 0) C 4 rfl (by decide) (ceX_140 _ _ _) rfl in_X6 (by decide) rfl w_298 dX6_clearText_1 ?_
  refine xx_iconst C 5 rfl dX6_clearText_4 ?_
  refine xx_cVv (As := [.int (iI 0)]) (st := []) (o := 141) C 8 rfl (by decide) (ceX_141 _ _ _) rfl rfl ca_J4_setLength_d00df cv_J4_setLength_d00df w_919 rfl ⟨Nat.le_of_ble_eq_true rfl, Nat.le_of_ble_eq_true rfl⟩ ⟨Nat.le_of_ble_eq_true rfl, Nat.le_of_ble_eq_true rfl⟩ (Nat.le_of_ble_eq_true rfl) dX6_clearText_5 (fun μ5 e9 => c_J4_setLength_d00df_o141 _ _ μ5 e9) h (fun μ5 h => ?_) rfl
  exact xx_vret C E rfl ⟨Nat.le_of_ble_eq_true rfl, Nat.le_of_ble_eq_true rfl⟩ dX6_clearText_8 h

def f_J5_charAt_5068e_o141 (μ : mu_T) (a1 : Int) : Option Int :=
  nm_ (μ 141 1) (fun v1 => nm_ (μ 141 3) (fun v11 => nm_ (bl_ μ 142) (fun v15 => mn_ v11 (sr_ v15 v1) (fun v18 => bd_ (f_J0_checkIndex_df160 μ a1 v18) (fun u26 => eq_ v1 0
      (rb_ μ 142 a1 (fun v35 => rc_ (i2c_ (an_ v35 255))))
      (none))))))
set_option maxHeartbeats 4000000 in
set_option maxRecDepth 100000 in
theorem c_J5_charAt_5068e_o141 {G : gp_} {ad : Nat → Nat} (μ : mu_T) (a1 : Int) (a : Int) (h : f_J5_charAt_5068e_o141 μ a1 = some a) : mi_ yJ5_charAt_5068e cJ5_charAt_5068e 5 (some .char) ({ frames := 2, cells := 0, slots := 0, locals := 43 } : Room) G 151 ad (ceX G ad) [.ref (ad 141), .int (iI a1)] μ a μ := by
  refine mi_in (own := "java/lang/AbstractStringBuilder") (lv := [(0, .ref (ad 141)), (1, .int (iI a1))]) (by decide) rfl rfl (Nat.le_of_ble_eq_true rfl) (fun X C E => ?_)
  unfold f_J5_charAt_5068e_o141 at h
  refine xx_aload_n C 1 rfl 0 dJ5_charAt_5068e_0 rfl rfl ?_
  refine xx_geti (fi := 1) (j := 1) C 4 rfl (by decide) (ceX_141 _ _ _) rfl in_J4 (by decide) rfl w_282 dJ5_charAt_5068e_1 h (fun v1 h => ?_)
  refine xx_istore_n (lv1 := [(2, .int (iI v1)), (0, .ref (ad 141)), (1, .int (iI a1))]) C 5 rfl (by decide) dJ5_charAt_5068e_4 rfl rfl ?_
  refine xx_aload_n C 6 rfl 1 dJ5_charAt_5068e_5 rfl rfl ?_
  refine xx_getr (fi := 0) C 9 rfl (by decide) (ceX_141 _ _ _) rfl in_J4 (by decide) rfl w_281 dJ5_charAt_5068e_6 ?_
  refine xx_astore_n (lv1 := [(3, .ref (ad 142)), (2, .int (iI v1)), (0, .ref (ad 141)), (1, .int (iI a1))]) C 10 rfl (by decide) dJ5_charAt_5068e_9 rfl rfl ?_
  refine xx_aload_n C 11 rfl 2 dJ5_charAt_5068e_10 rfl rfl ?_
  refine xx_geti (fi := 3) (j := 3) C 14 rfl (by decide) (ceX_141 _ _ _) rfl in_J4 (by decide) rfl w_285 dJ5_charAt_5068e_11 h (fun v11 h => ?_)
  refine xx_aload_n C 15 rfl 0 dJ5_charAt_5068e_14 rfl rfl ?_
  refine xx_blen C 16 rfl (by decide) (fun row => ceX_142 _ _ row) dJ5_charAt_5068e_15 h (fun v15 h => ?_)
  refine xx_iload_n C 17 rfl 1 dJ5_charAt_5068e_16 rfl rfl ?_
  refine xx_ishr C 18 rfl dJ5_charAt_5068e_17 ?_
  refine xx_mmin C 21 rfl ⟨w_900, w_451, w_41, w_452⟩ ⟨Nat.le_of_ble_eq_true rfl, Nat.le_of_ble_eq_true rfl⟩ ⟨Nat.le_of_ble_eq_true rfl, Nat.le_of_ble_eq_true rfl⟩ dJ5_charAt_5068e_18 h (fun v18 h => ?_)
  refine xx_istore (lv1 := [(4, .int (iI v18)), (3, .ref (ad 142)), (2, .int (iI v1)), (0, .ref (ad 141)), (1, .int (iI a1))]) C 23 rfl (by decide) dJ5_charAt_5068e_21 rfl ?_
  refine xx_iload_n C 24 rfl 4 dJ5_charAt_5068e_23 rfl rfl ?_
  refine xx_iload C 26 rfl 0 dJ5_charAt_5068e_24 rfl ?_
  refine xx_cSvp (As := [.int (iI a1), .int (iI v18)]) (st := []) C 29 rfl  ca_J0_checkIndex_df160 cs_J0_checkIndex_df160 w_901 rfl ⟨Nat.le_of_ble_eq_true rfl, Nat.le_of_ble_eq_true rfl⟩ ⟨Nat.le_of_ble_eq_true rfl, Nat.le_of_ble_eq_true rfl⟩ (Nat.le_of_ble_eq_true rfl) dJ5_charAt_5068e_26 (fun u26 e9 => c_J0_checkIndex_df160 _ _ _ u26 e9) h (fun u26 h => ?_) rfl
  refine xx_iload_n C 30 rfl 2 dJ5_charAt_5068e_29 rfl rfl ?_
  refine xx_if_ne (tgt := 42) C 33 rfl dJ5_charAt_5068e_30 (by decide) h (fun h => ?_) (fun h => ?_)
  · refine xx_aload_n C 43 rfl 1 dJ5_charAt_5068e_42 rfl rfl ?_
    refine xx_iload_n C 44 rfl 4 dJ5_charAt_5068e_43 rfl rfl ?_
    exact nn_ h
  · refine xx_aload_n C 34 rfl 1 dJ5_charAt_5068e_33 rfl rfl ?_
    refine xx_iload_n C 35 rfl 4 dJ5_charAt_5068e_34 rfl rfl ?_
    refine xx_baload C 36 rfl (by decide) (fun row => ceX_142 _ _ row) dJ5_charAt_5068e_35 h (fun v35 h => ?_)
    refine xx_sipush C 39 rfl dJ5_charAt_5068e_36 (by decide) ?_
    refine xx_iand C 40 rfl dJ5_charAt_5068e_39 ?_
    refine xx_i2c C 41 rfl dJ5_charAt_5068e_40 ?_
    exact xx_cretp C E rfl ⟨Nat.le_of_ble_eq_true rfl, Nat.le_of_ble_eq_true rfl⟩ dJ5_charAt_5068e_41 h

def f_J4_charAt_5068e_o141 (μ : mu_T) (a1 : Int) : Option Int :=
  bd_ (f_J5_charAt_5068e_o141 μ a1) (fun v2 => rc_ v2)
set_option maxHeartbeats 4000000 in
set_option maxRecDepth 100000 in
theorem c_J4_charAt_5068e_o141 {G : gp_} {ad : Nat → Nat} (μ : mu_T) (a1 : Int) (a : Int) (h : f_J4_charAt_5068e_o141 μ a1 = some a) : mi_ yJ4_charAt_5068e cJ4_charAt_5068e 2 (some .char) ({ frames := 3, cells := 0, slots := 0, locals := 67 } : Room) G 151 ad (ceX G ad) [.ref (ad 141), .int (iI a1)] μ a μ := by
  refine mi_in (own := "java/lang/StringBuilder") (lv := [(0, .ref (ad 141)), (1, .int (iI a1))]) (by decide) rfl rfl (Nat.le_of_ble_eq_true rfl) (fun X C E => ?_)
  unfold f_J4_charAt_5068e_o141 at h
  refine xx_aload_n C 1 rfl 0 dJ4_charAt_5068e_0 rfl rfl ?_
  refine xx_iload_n C 2 rfl 1 dJ4_charAt_5068e_1 rfl rfl ?_
  refine xx_cPip (As := [.int (iI a1)]) (st := []) (o := 141) C 5 rfl (by decide) (ceX_141 _ _ _) rfl ca_J5_charAt_5068e cu_J5_charAt_5068e w_294 w_897 rfl ⟨Nat.le_of_ble_eq_true rfl, Nat.le_of_ble_eq_true rfl⟩ ⟨Nat.le_of_ble_eq_true rfl, Nat.le_of_ble_eq_true rfl⟩ (Nat.le_of_ble_eq_true rfl) dJ4_charAt_5068e_2 (fun v2 e9 => c_J5_charAt_5068e_o141 _ _ v2 e9) h (fun v2 h => ?_) rfl
  exact xx_cretp C E rfl ⟨Nat.le_of_ble_eq_true rfl, Nat.le_of_ble_eq_true rfl⟩ dJ4_charAt_5068e_5 h

def f_X6_valueAt (μ : mu_T) (a1 : Int) (a2 : Int) : Option Int :=
  lt_ a1 0
      (some (-1))
      (bd_ (f_J4_length_8abf5_o141 μ) (fun v9 => lt_ a1 v9
      (bd_ (f_J4_charAt_5068e_o141 μ a1) (fun v22 => jn_ (φ := Unit → Option Int) (fun _ => lt_ v22 48
      (some (-1))
      (lt_ 57 v22
      (some (-1))
      (some (v22 - 48))))
      (fun J38 => eq_ a2 35
      (J38 ())
      (eq_ a2 36
      (J38 ())
      (eq_ a2 64
      (lt_ v22 97
      (some (-1))
      (lt_ v22 103
      (some (v22 - 97))
      (some (-1))))
      (eq_ v22 a2
      (some 0)
      (some (-1))))))))
      (some (-1))))
set_option maxHeartbeats 4000000 in
set_option maxRecDepth 100000 in
theorem c_X6_valueAt {G : gp_} {ad : Nat → Nat} (μ : mu_T) (a1 : Int) (a2 : Int) (a : Int) (h : f_X6_valueAt μ a1 a2 = some a) : mi_ yX6_valueAt cX6_valueAt 4 (some .int) ({ frames := 4, cells := 0, slots := 0, locals := 88 } : Room) G 151 ad (ceX G ad) [.ref (ad 140), .int (iI a1), .int (iI a2)] μ a μ := by
  refine mi_in (own := "UrnHeap$Orders") (lv := [(0, .ref (ad 140)), (1, .int (iI a1)), (2, .int (iI a2))]) (by decide) rfl rfl (Nat.le_of_ble_eq_true rfl) (fun X C E => ?_)
  unfold f_X6_valueAt at h
  refine xx_iload_n C 1 rfl 1 dX6_valueAt_0 rfl rfl ?_
  refine xx_if_lt (tgt := 15) C 4 rfl dX6_valueAt_1 (by decide) h (fun h => ?_) (fun h => ?_)
  · refine xx_iconst C 16 rfl dX6_valueAt_15 ?_
    exact xx_iretp C E rfl ⟨Nat.le_of_ble_eq_true rfl, Nat.le_of_ble_eq_true rfl⟩ dX6_valueAt_16 h
  · refine xx_iload_n C 5 rfl 1 dX6_valueAt_4 rfl rfl ?_
    refine xx_aload_n C 6 rfl 0 dX6_valueAt_5 rfl rfl ?_
    refine xx_getr (fi := 0) C 9 rfl (by decide) (ceX_140 _ _ _) rfl in_X6 (by decide) rfl w_298 dX6_valueAt_6 ?_
    refine xx_cVip (As := []) (st := [.int (iI a1)]) (o := 141) C 12 rfl (by decide) (ceX_141 _ _ _) rfl rfl ca_J4_length_8abf5 cv_J4_length_8abf5 w_386 rfl ⟨Nat.le_of_ble_eq_true rfl, Nat.le_of_ble_eq_true rfl⟩ ⟨Nat.le_of_ble_eq_true rfl, Nat.le_of_ble_eq_true rfl⟩ (Nat.le_of_ble_eq_true rfl) dX6_valueAt_9 (fun v9 e9 => c_J4_length_8abf5_o141 _ v9 e9) h (fun v9 h => ?_) rfl
    refine xx_icmp_lt (tgt := 17) C 15 rfl dX6_valueAt_12 (by decide) h (fun h => ?_) (fun h => ?_)
    · refine xx_aload_n C 18 rfl 0 dX6_valueAt_17 rfl rfl ?_
      refine xx_getr (fi := 0) C 21 rfl (by decide) (ceX_140 _ _ _) rfl in_X6 (by decide) rfl w_298 dX6_valueAt_18 ?_
      refine xx_iload_n C 22 rfl 1 dX6_valueAt_21 rfl rfl ?_
      refine xx_cVip (As := [.int (iI a1)]) (st := []) (o := 141) C 25 rfl (by decide) (ceX_141 _ _ _) rfl rfl ca_J4_charAt_5068e cv_J4_charAt_5068e w_893 rfl ⟨Nat.le_of_ble_eq_true rfl, Nat.le_of_ble_eq_true rfl⟩ ⟨Nat.le_of_ble_eq_true rfl, Nat.le_of_ble_eq_true rfl⟩ (Nat.le_of_ble_eq_true rfl) dX6_valueAt_22 (fun v22 e9 => c_J4_charAt_5068e_o141 _ _ v22 e9) h (fun v22 h => ?_) rfl
      refine xx_istore_n (lv1 := [(3, .int (iI v22)), (0, .ref (ad 140)), (1, .int (iI a1)), (2, .int (iI a2))]) C 26 rfl (by decide) dX6_valueAt_25 rfl rfl ?_
      refine xx_iload_n C 27 rfl 3 dX6_valueAt_26 rfl rfl ?_
      refine xx_bipush C 29 rfl dX6_valueAt_27 (by decide) ?_
      refine jn_r (fun J => ∀ (_u : Unit), J _u = some a → wx_ G X 151 ad (ceX G ad) μ 0 0 38 [(3, .int (iI v22))] []) h (fun _ h => ?_) (fun J38 K38 h => ?_)
      · refine xx_iload_n C 39 rfl 0 dX6_valueAt_38 rfl rfl ?_
        refine xx_bipush C 41 rfl dX6_valueAt_39 (by decide) ?_
        refine xx_icmp_lt (tgt := 57) C 44 rfl dX6_valueAt_41 (by decide) h (fun h => ?_) (fun h => ?_)
        · refine xx_iconst C 58 rfl dX6_valueAt_57 ?_
          exact xx_iretp C E rfl ⟨Nat.le_of_ble_eq_true rfl, Nat.le_of_ble_eq_true rfl⟩ dX6_valueAt_58 h
        · refine xx_iload_n C 45 rfl 0 dX6_valueAt_44 rfl rfl ?_
          refine xx_bipush C 47 rfl dX6_valueAt_45 (by decide) ?_
          refine xx_icmp_gt (tgt := 57) C 50 rfl dX6_valueAt_47 (by decide) h (fun h => ?_) (fun h => ?_)
          · refine xx_iconst C 58 rfl dX6_valueAt_57 ?_
            exact xx_iretp C E rfl ⟨Nat.le_of_ble_eq_true rfl, Nat.le_of_ble_eq_true rfl⟩ dX6_valueAt_58 h
          · refine xx_iload_n C 51 rfl 0 dX6_valueAt_50 rfl rfl ?_
            refine xx_bipush C 53 rfl dX6_valueAt_51 (by decide) ?_
            refine xx_isub C 54 rfl dX6_valueAt_53 ?_
            refine xx_goto C 58 dX6_valueAt_54 (by decide) ?_
            exact xx_iretp C E rfl ⟨Nat.le_of_ble_eq_true rfl, Nat.le_of_ble_eq_true rfl⟩ dX6_valueAt_58 h
      · refine xx_icmp_eq (tgt := 38) C 32 rfl dX6_valueAt_29 (by decide) h (fun h => ?_) (fun h => ?_)
        · refine xx_sub [0] rfl ?_
          exact K38 () h
        · refine xx_iload_n C 33 rfl 3 dX6_valueAt_32 rfl rfl ?_
          refine xx_bipush C 35 rfl dX6_valueAt_33 (by decide) ?_
          refine xx_icmp_ne (tgt := 59) C 38 rfl dX6_valueAt_35 (by decide) h (fun h => ?_) (fun h => ?_)
          · refine xx_iload_n C 60 rfl 3 dX6_valueAt_59 rfl rfl ?_
            refine xx_bipush C 62 rfl dX6_valueAt_60 (by decide) ?_
            refine xx_icmp_ne (tgt := 86) C 65 rfl dX6_valueAt_62 (by decide) h (fun h => ?_) (fun h => ?_)
            · refine xx_iload_n C 87 rfl 0 dX6_valueAt_86 rfl rfl ?_
              refine xx_iload_n C 88 rfl 3 dX6_valueAt_87 rfl rfl ?_
              refine xx_icmp_ne (tgt := 95) C 91 rfl dX6_valueAt_88 (by decide) h (fun h => ?_) (fun h => ?_)
              · refine xx_iconst C 96 rfl dX6_valueAt_95 ?_
                exact xx_iretp C E rfl ⟨Nat.le_of_ble_eq_true rfl, Nat.le_of_ble_eq_true rfl⟩ dX6_valueAt_96 h
              · refine xx_iconst C 92 rfl dX6_valueAt_91 ?_
                refine xx_goto C 96 dX6_valueAt_92 (by decide) ?_
                exact xx_iretp C E rfl ⟨Nat.le_of_ble_eq_true rfl, Nat.le_of_ble_eq_true rfl⟩ dX6_valueAt_96 h
            · refine xx_iload_n C 66 rfl 0 dX6_valueAt_65 rfl rfl ?_
              refine xx_bipush C 68 rfl dX6_valueAt_66 (by decide) ?_
              refine xx_icmp_lt (tgt := 84) C 71 rfl dX6_valueAt_68 (by decide) h (fun h => ?_) (fun h => ?_)
              · refine xx_iconst C 85 rfl dX6_valueAt_84 ?_
                exact xx_iretp C E rfl ⟨Nat.le_of_ble_eq_true rfl, Nat.le_of_ble_eq_true rfl⟩ dX6_valueAt_85 h
              · refine xx_iload_n C 72 rfl 0 dX6_valueAt_71 rfl rfl ?_
                refine xx_bipush C 74 rfl dX6_valueAt_72 (by decide) ?_
                refine xx_icmp_ge (tgt := 84) C 77 rfl dX6_valueAt_74 (by decide) h (fun h => ?_) (fun h => ?_)
                · refine xx_iconst C 85 rfl dX6_valueAt_84 ?_
                  exact xx_iretp C E rfl ⟨Nat.le_of_ble_eq_true rfl, Nat.le_of_ble_eq_true rfl⟩ dX6_valueAt_85 h
                · refine xx_iload_n C 78 rfl 0 dX6_valueAt_77 rfl rfl ?_
                  refine xx_bipush C 80 rfl dX6_valueAt_78 (by decide) ?_
                  refine xx_isub C 81 rfl dX6_valueAt_80 ?_
                  refine xx_goto C 85 dX6_valueAt_81 (by decide) ?_
                  exact xx_iretp C E rfl ⟨Nat.le_of_ble_eq_true rfl, Nat.le_of_ble_eq_true rfl⟩ dX6_valueAt_85 h
          · refine xx_sub [0] rfl ?_
            exact K38 () h
    · refine xx_iconst C 16 rfl dX6_valueAt_15 ?_
      exact xx_iretp C E rfl ⟨Nat.le_of_ble_eq_true rfl, Nat.le_of_ble_eq_true rfl⟩ dX6_valueAt_16 h

def f_X6_readSign (μ : mu_T) (a1 : Int) : Option (Int × mu_T) :=
  nm_ (μ 140 7) (fun v2 => bd_ (f_X6_valueAt μ v2 a1) (fun v6 => lt_ v6 0
      (some ((-1), μ))
      (nm_ (μ 140 7) (fun v18 => wf_ μ 140 7 (v18 + 1) (fun μ23 => jn_ (φ := Int → Option (Int × mu_T)) (fun s0_45 => lt_ s0_45 0
      (some (v6, μ23))
      (nm_ (μ23 140 7) (fun v52 => wf_ μ23 140 7 (v52 + 1) (fun μ57 => nm_ (((v6 * 10) + s0_45)) (fun n66 => some (n66, μ57))))))
      (fun J45 => eq_ a1 35
      (nm_ (μ23 140 7) (fun v34 => bd_ (f_X6_valueAt μ23 v34 a1) (fun v38 => J45 v38)))
      (J45 (-1))))))))
set_option maxHeartbeats 4000000 in
set_option maxRecDepth 100000 in
theorem c_X6_readSign {G : gp_} {ad : Nat → Nat} (μ : mu_T) (a1 : Int) (a : Int) (μr : mu_T) (h : f_X6_readSign μ a1 = some (a, μr)) : mi_ yX6_readSign cX6_readSign 4 (some .int) ({ frames := 5, cells := 0, slots := 0, locals := 111 } : Room) G 151 ad (ceX G ad) [.ref (ad 140), .int (iI a1)] μ a μr := by
  refine mi_in (own := "UrnHeap$Orders") (lv := [(0, .ref (ad 140)), (1, .int (iI a1))]) (by decide) rfl rfl (Nat.le_of_ble_eq_true rfl) (fun X C E => ?_)
  unfold f_X6_readSign at h
  refine xx_aload_n C 1 rfl 0 dX6_readSign_0 rfl rfl ?_
  refine xx_aload_n C 2 rfl 0 dX6_readSign_1 rfl rfl ?_
  refine xx_geti (fi := 7) (j := 7) C 5 rfl (by decide) (ceX_140 _ _ _) rfl in_X6 (by decide) rfl w_310 dX6_readSign_2 h (fun v2 h => ?_)
  refine xx_iload_n C 6 rfl 1 dX6_readSign_5 rfl rfl ?_
  refine xx_cVip (As := [.int (iI v2), .int (iI a1)]) (st := []) (o := 140) C 9 rfl (by decide) (ceX_140 _ _ _) rfl rfl ca_X6_valueAt cv_X6_valueAt w_889 rfl ⟨Nat.le_of_ble_eq_true rfl, Nat.le_of_ble_eq_true rfl⟩ ⟨Nat.le_of_ble_eq_true rfl, Nat.le_of_ble_eq_true rfl⟩ (Nat.le_of_ble_eq_true rfl) dX6_readSign_6 (fun v6 e9 => c_X6_valueAt _ _ _ v6 e9) h (fun v6 h => ?_) rfl
  refine xx_istore_n (lv1 := [(2, .int (iI v6)), (0, .ref (ad 140)), (1, .int (iI a1))]) C 10 rfl (by decide) dX6_readSign_9 rfl rfl ?_
  refine xx_iload_n C 11 rfl 0 dX6_readSign_10 rfl rfl ?_
  refine xx_if_ge (tgt := 16) C 14 rfl dX6_readSign_11 (by decide) h (fun h => ?_) (fun h => ?_)
  · refine xx_aload_n C 17 rfl 1 dX6_readSign_16 rfl rfl ?_
    refine xx_dup C 18 rfl dX6_readSign_17 rfl ?_
    refine xx_geti (fi := 7) (j := 7) C 21 rfl (by decide) (ceX_140 _ _ _) rfl in_X6 (by decide) rfl w_310 dX6_readSign_18 h (fun v18 h => ?_)
    refine xx_iconst C 22 rfl dX6_readSign_21 ?_
    refine xx_iadd C 23 rfl dX6_readSign_22 ?_
    refine xx_puti (fi := 7) (j := 7) C 26 rfl (by decide) (ceX_140 _ _ _) (puX_140_7 _ _ _ _) rfl in_X6 tyX6 tyX6_ok nmX6 (by decide) (Nat.le_of_ble_eq_true rfl) ⟨rfl, rfl⟩ w_310 dX6_readSign_23 h (fun μ23 h => ?_)
    refine xx_iload_n C 27 rfl 2 dX6_readSign_26 rfl rfl ?_
    refine xx_bipush C 29 rfl dX6_readSign_27 (by decide) ?_
    refine jn_r (fun J => ∀ (s0_45 : Int), J s0_45 = some (a, μr) → wx_ G X 151 ad (ceX G ad) μ23 0 0 45 [(0, .ref (ad 140)), (2, .int (iI v6))] [.int (iI s0_45)]) h (fun s0_45 h => ?_) (fun J45 K45 h => ?_)
    · refine xx_istore_n (lv1 := [(3, .int (iI s0_45)), (0, .ref (ad 140)), (2, .int (iI v6))]) C 46 rfl (by decide) dX6_readSign_45 rfl rfl ?_
      refine xx_iload_n C 47 rfl 0 dX6_readSign_46 rfl rfl ?_
      refine xx_if_lt (tgt := 67) C 50 rfl dX6_readSign_47 (by decide) h (fun h => ?_) (fun h => ?_)
      · refine xx_iload_n C 68 rfl 2 dX6_readSign_67 rfl rfl ?_
        exact xx_iret C E rfl ⟨Nat.le_of_ble_eq_true rfl, Nat.le_of_ble_eq_true rfl⟩ dX6_readSign_68 h
      · refine xx_aload_n C 51 rfl 1 dX6_readSign_50 rfl rfl ?_
        refine xx_dup C 52 rfl dX6_readSign_51 rfl ?_
        refine xx_geti (fi := 7) (j := 7) C 55 rfl (by decide) (ceX_140 _ _ _) rfl in_X6 (by decide) rfl w_310 dX6_readSign_52 h (fun v52 h => ?_)
        refine xx_iconst C 56 rfl dX6_readSign_55 ?_
        refine xx_iadd C 57 rfl dX6_readSign_56 ?_
        refine xx_puti (fi := 7) (j := 7) C 60 rfl (by decide) (ceX_140 _ _ _) (puX_140_7 _ _ _ _) rfl in_X6 tyX6 tyX6_ok nmX6 (by decide) (Nat.le_of_ble_eq_true rfl) ⟨rfl, rfl⟩ w_310 dX6_readSign_57 h (fun μ57 h => ?_)
        refine xx_iload_n C 61 rfl 2 dX6_readSign_60 rfl rfl ?_
        refine xx_bipush C 63 rfl dX6_readSign_61 (by decide) ?_
        refine xx_imul C 64 rfl dX6_readSign_63 ?_
        refine xx_iload_n C 65 rfl 0 dX6_readSign_64 rfl rfl ?_
        refine xx_iadd C 66 rfl dX6_readSign_65 ?_
        refine xx_nm C h (fun n66 h => ?_)
        refine xx_istore_n (lv1 := [(2, .int (iI n66)), (3, .int (iI s0_45)), (0, .ref (ad 140))]) C 67 rfl (by decide) dX6_readSign_66 rfl rfl ?_
        refine xx_iload_n C 68 rfl 0 dX6_readSign_67 rfl rfl ?_
        exact xx_iret C E rfl ⟨Nat.le_of_ble_eq_true rfl, Nat.le_of_ble_eq_true rfl⟩ dX6_readSign_68 h
    · refine xx_icmp_ne (tgt := 44) C 32 rfl dX6_readSign_29 (by decide) h (fun h => ?_) (fun h => ?_)
      · refine xx_iconst C 45 rfl dX6_readSign_44 ?_
        refine xx_sub [1, 0] rfl ?_
        exact K45 (-1) h
      · refine xx_aload_n C 33 rfl 1 dX6_readSign_32 rfl rfl ?_
        refine xx_aload_n C 34 rfl 1 dX6_readSign_33 rfl rfl ?_
        refine xx_geti (fi := 7) (j := 7) C 37 rfl (by decide) (ceX_140 _ _ _) rfl in_X6 (by decide) rfl w_310 dX6_readSign_34 h (fun v34 h => ?_)
        refine xx_iload_n C 38 rfl 2 dX6_readSign_37 rfl rfl ?_
        refine xx_cVip (As := [.int (iI v34), .int (iI a1)]) (st := []) (o := 140) C 41 rfl (by decide) (ceX_140 _ _ _) rfl rfl ca_X6_valueAt cv_X6_valueAt w_889 rfl ⟨Nat.le_of_ble_eq_true rfl, Nat.le_of_ble_eq_true rfl⟩ ⟨Nat.le_of_ble_eq_true rfl, Nat.le_of_ble_eq_true rfl⟩ (Nat.le_of_ble_eq_true rfl) dX6_readSign_38 (fun v38 e9 => c_X6_valueAt _ _ _ v38 e9) h (fun v38 h => ?_) rfl
        refine xx_goto C 45 dX6_readSign_41 (by decide) ?_
        refine xx_sub [1, 0] rfl ?_
        exact K45 v38 h
  · refine xx_iconst C 15 rfl dX6_readSign_14 ?_
    exact xx_iret C E rfl ⟨Nat.le_of_ble_eq_true rfl, Nat.le_of_ble_eq_true rfl⟩ dX6_readSign_15 h

def f_X6_fits_L4 (a1 : Int) : Nat → Int → Int → mu_T → Option (Int × mu_T)
  | 0, _, _, _ => none
  | fu4 + 1, x2_4, x3_4, μ4 => gd_ (0 ≤ a1 ∧ a1 < 16) (bd_ (f_J0_length_8abf5 μ4 a1) (fun v6 => lt_ x3_4 v6
      (gd_ (0 ≤ a1 ∧ a1 < 16) (bd_ (f_J0_charAt_5068e μ4 a1 x3_4) (fun v14 => bp_ (f_X6_readSign μ4 v14) (fun v22 μ22 => lt_ v22 0
      (some (0, μ22))
      (bd_ (f_X6_isForNumber μ22 v14) (fun v36 => jn_ (φ := Int → mu_T → Option (Int × mu_T)) (fun x2_62 μ62 => nm_ (x3_4 + 1) (fun n62 => (f_X6_fits_L4 a1 fu4) x2_62 n62 μ62))
      (fun J62 => eq_ v36 0
      (J62 x2_4 μ22)
      (lt_ x2_4 3
      (wr_ μ22 147 3 x2_4 v22 (fun μ58 => nm_ (x2_4 + 1) (fun n59 => J62 n59 μ58)))
      (J62 x2_4 μ22)))))))))
      (some (1, μ4))))
def f_X6_fits (μ : mu_T) (a1 : Int) : Option (Int × mu_T) :=
  f_X6_fits_L4 a1 20000 0 0 μ
set_option maxHeartbeats 4000000 in
set_option maxRecDepth 100000 in
theorem c_X6_fits {G : gp_} {ad : Nat → Nat} (μ : mu_T) (a1 : Int) (a : Int) (μr : mu_T) (h : f_X6_fits μ a1 = some (a, μr)) : mi_ yX6_fits cX6_fits 6 (some .boolean) ({ frames := 6, cells := 0, slots := 0, locals := 134 } : Room) G 151 ad (ceX G ad) [.ref (ad 140), .ref (G.2.1 (200 + (a1 : Int).toNat))] μ a μr := by
  refine mi_in (own := "UrnHeap$Orders") (lv := [(0, .ref (ad 140)), (1, .ref (G.2.1 (200 + (a1 : Int).toNat)))]) (by decide) rfl rfl (Nat.le_of_ble_eq_true rfl) (fun X C E => ?_)
  unfold f_X6_fits at h
  refine xx_iconst C 1 rfl dX6_fits_0 ?_
  refine xx_istore_n (lv1 := [(2, .int (iI 0)), (0, .ref (ad 140)), (1, .ref (G.2.1 (200 + (a1 : Int).toNat)))]) C 2 rfl (by decide) dX6_fits_1 rfl rfl ?_
  refine xx_iconst C 3 rfl dX6_fits_2 ?_
  refine xx_istore_n (lv1 := [(3, .int (iI 0)), (2, .int (iI 0)), (0, .ref (ad 140)), (1, .ref (G.2.1 (200 + (a1 : Int).toNat)))]) C 4 rfl (by decide) dX6_fits_3 rfl rfl ?_
  have L4 : ∀ (fu4 : Nat) (x2_4 : Int) (x3_4 : Int) (μ4 : mu_T), f_X6_fits_L4 a1 fu4 x2_4 x3_4 μ4 = some (a, μr) → wx_ G X 151 ad (ceX G ad) μ4 0 0 4 [(0, .ref (ad 140)), (1, .ref (G.2.1 (200 + (a1 : Int).toNat))), (2, .int (iI x2_4)), (3, .int (iI x3_4))] [] := by
    intro fu4
    induction fu4 with
    | zero => intro x2_4 x3_4 μ4 h; exact nn_ h
    | succ fu4 K4 =>
      intro x2_4 x3_4 μ4 h
      rw [f_X6_fits_L4] at h
      generalize f_X6_fits_L4 a1 fu4 = R4 at K4 h
      refine xx_iload_n C 5 rfl 3 dX6_fits_4 rfl rfl ?_
      refine xx_aload_n C 6 rfl 1 dX6_fits_5 rfl rfl ?_
      refine xx_cKip (As := []) (st := [.int (iI x3_4)]) (z := a1) C 9 rfl rfl ca_J0_length_8abf5 cv_J0_length_8abf5 w_883 rfl ⟨Nat.le_of_ble_eq_true rfl, Nat.le_of_ble_eq_true rfl⟩ ⟨Nat.le_of_ble_eq_true rfl, Nat.le_of_ble_eq_true rfl⟩ (Nat.le_of_ble_eq_true rfl) dX6_fits_6 (fun v6 e9 => c_J0_length_8abf5 _ _ v6 e9) h (fun v6 h => ?_) rfl
      refine xx_icmp_ge (tgt := 68) C 12 rfl dX6_fits_9 (by decide) h (fun h => ?_) (fun h => ?_)
      · refine xx_iconst C 69 rfl dX6_fits_68 ?_
        exact xx_zret C E rfl rfl ⟨Nat.le_of_ble_eq_true rfl, Nat.le_of_ble_eq_true rfl⟩ dX6_fits_69 h
      · refine xx_aload_n C 13 rfl 1 dX6_fits_12 rfl rfl ?_
        refine xx_iload_n C 14 rfl 3 dX6_fits_13 rfl rfl ?_
        refine xx_cKip (As := [.int (iI x3_4)]) (st := []) (z := a1) C 17 rfl rfl ca_J0_charAt_5068e cv_J0_charAt_5068e w_884 rfl ⟨Nat.le_of_ble_eq_true rfl, Nat.le_of_ble_eq_true rfl⟩ ⟨Nat.le_of_ble_eq_true rfl, Nat.le_of_ble_eq_true rfl⟩ (Nat.le_of_ble_eq_true rfl) dX6_fits_14 (fun v14 e9 => c_J0_charAt_5068e _ _ _ v14 e9) h (fun v14 h => ?_) rfl
        refine xx_istore (lv1 := [(4, .int (iI v14)), (0, .ref (ad 140)), (1, .ref (G.2.1 (200 + (a1 : Int).toNat))), (2, .int (iI x2_4)), (3, .int (iI x3_4))]) C 19 rfl (by decide) dX6_fits_17 rfl ?_
        refine xx_aload_n C 20 rfl 1 dX6_fits_19 rfl rfl ?_
        refine xx_iload C 22 rfl 0 dX6_fits_20 rfl ?_
        refine xx_cVi (As := [.int (iI v14)]) (st := []) (o := 140) C 25 rfl (by decide) (ceX_140 _ _ _) rfl rfl ca_X6_readSign cv_X6_readSign w_885 rfl ⟨Nat.le_of_ble_eq_true rfl, Nat.le_of_ble_eq_true rfl⟩ ⟨Nat.le_of_ble_eq_true rfl, Nat.le_of_ble_eq_true rfl⟩ (Nat.le_of_ble_eq_true rfl) dX6_fits_22 (fun v22 μ22 e9 => c_X6_readSign _ _ v22 μ22 e9) h (fun v22 μ22 h => ?_) rfl
        refine xx_istore (lv1 := [(5, .int (iI v22)), (4, .int (iI v14)), (0, .ref (ad 140)), (1, .ref (G.2.1 (200 + (a1 : Int).toNat))), (2, .int (iI x2_4)), (3, .int (iI x3_4))]) C 27 rfl (by decide) dX6_fits_25 rfl ?_
        refine xx_iload C 29 rfl 0 dX6_fits_27 rfl ?_
        refine xx_if_ge (tgt := 34) C 32 rfl dX6_fits_29 (by decide) h (fun h => ?_) (fun h => ?_)
        · refine xx_iload C 36 rfl 1 dX6_fits_34 rfl ?_
          refine xx_cSip (As := [.int (iI v14)]) (st := []) C 39 rfl  ca_X6_isForNumber cs_X6_isForNumber w_903 rfl ⟨Nat.le_of_ble_eq_true rfl, Nat.le_of_ble_eq_true rfl⟩ ⟨Nat.le_of_ble_eq_true rfl, Nat.le_of_ble_eq_true rfl⟩ (Nat.le_of_ble_eq_true rfl) dX6_fits_36 (fun v36 e9 => c_X6_isForNumber _ _ v36 e9) h (fun v36 h => ?_) rfl
          refine jn_r (fun J => ∀ (x2_62 : Int) (μ62 : mu_T), J x2_62 μ62 = some (a, μr) → wx_ G X 151 ad (ceX G ad) μ62 0 0 62 [(0, .ref (ad 140)), (1, .ref (G.2.1 (200 + (a1 : Int).toNat))), (2, .int (iI x2_62)), (3, .int (iI x3_4))] []) h (fun x2_62 μ62 h => ?_) (fun J62 K62 h => ?_)
          · refine xx_iincn C 65 rfl 3 (by decide) dX6_fits_62 rfl h (fun n62 h => ?_)
            refine xx_lv (lv1 := [(3, .int (iI n62)), (0, .ref (ad 140)), (1, .ref (G.2.1 (200 + (a1 : Int).toNat))), (2, .int (iI x2_62))]) rfl ?_
            refine xx_goto C 4 dX6_fits_65 (by decide) ?_
            refine xx_sub [1, 2, 3, 0] rfl ?_
            exact K4 x2_62 n62 μ62 h
          · refine xx_if_eq (tgt := 62) C 42 rfl dX6_fits_39 (by decide) h (fun h => ?_) (fun h => ?_)
            · refine xx_sub [2, 3, 4, 5] rfl ?_
              exact K62 x2_4 μ22 h
            · refine xx_iload_n C 43 rfl 4 dX6_fits_42 rfl rfl ?_
              refine xx_aload_n C 44 rfl 2 dX6_fits_43 rfl rfl ?_
              refine xx_getr (fi := 6) C 47 rfl (by decide) (ceX_140 _ _ _) rfl in_X6 (by decide) rfl w_309 dX6_fits_44 ?_
              refine xx_alen (nA := 3) C 48 rfl (by decide) (fun row => ceX_147 _ _ row) dX6_fits_47 ?_
              refine xx_icmp_ge (tgt := 62) C 51 rfl dX6_fits_48 (by decide) h (fun h => ?_) (fun h => ?_)
              · refine xx_sub [2, 3, 4, 5] rfl ?_
                exact K62 x2_4 μ22 h
              · refine xx_aload_n C 52 rfl 2 dX6_fits_51 rfl rfl ?_
                refine xx_getr (fi := 6) C 55 rfl (by decide) (ceX_140 _ _ _) rfl in_X6 (by decide) rfl w_309 dX6_fits_52 ?_
                refine xx_iload_n C 56 rfl 4 dX6_fits_55 rfl rfl ?_
                refine xx_iload C 58 rfl 0 dX6_fits_56 rfl ?_
                refine xx_iastore C 59 rfl (by decide) (fun row => ceX_147 _ _ row) (by decide) dX6_fits_58 h (fun μ58 h => ?_)
                refine xx_iincn C 62 rfl 4 (by decide) dX6_fits_59 rfl h (fun n59 h => ?_)
                refine xx_lv (lv1 := [(2, .int (iI n59)), (5, .int (iI v22)), (4, .int (iI v14)), (0, .ref (ad 140)), (1, .ref (G.2.1 (200 + (a1 : Int).toNat))), (3, .int (iI x3_4))]) rfl ?_
                refine xx_sub [3, 4, 0, 5] rfl ?_
                exact K62 n59 μ58 h
        · refine xx_iconst C 33 rfl dX6_fits_32 ?_
          exact xx_zret C E rfl rfl ⟨Nat.le_of_ble_eq_true rfl, Nat.le_of_ble_eq_true rfl⟩ dX6_fits_33 h
  refine xx_sub [2, 3, 1, 0] rfl ?_
  exact L4 _ _ _ _ h

