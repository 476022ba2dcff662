theorem dJ5_length_8abf5_0 : decode cJ5_length_8abf5 0 = .ok (.aload_n 0, 1) := by decide +kernel
theorem dJ5_length_8abf5_1 : decode cJ5_length_8abf5 1 = .ok (.getfield 79, 3) := by decide +kernel
theorem dJ5_length_8abf5_4 : decode cJ5_length_8abf5 4 = .ok (.ireturn, 1) := by decide +kernel
theorem dJ4_length_8abf5_0 : decode cJ4_length_8abf5 0 = .ok (.aload_n 0, 1) := by decide +kernel
theorem dJ4_length_8abf5_1 : decode cJ4_length_8abf5 1 = .ok (.invokespecial 343, 3) := by decide +kernel
theorem dJ4_length_8abf5_4 : decode cJ4_length_8abf5 4 = .ok (.ireturn, 1) := by decide +kernel
theorem dJ5_charAt_5068e_0 : decode cJ5_charAt_5068e 0 = .ok (.aload_n 0, 1) := by decide +kernel
theorem dJ5_charAt_5068e_1 : decode cJ5_charAt_5068e 1 = .ok (.getfield 22, 3) := by decide +kernel
theorem dJ5_charAt_5068e_4 : decode cJ5_charAt_5068e 4 = .ok (.istore_n 2, 1) := by decide +kernel
theorem dJ5_charAt_5068e_5 : decode cJ5_charAt_5068e 5 = .ok (.aload_n 0, 1) := by decide +kernel
theorem dJ5_charAt_5068e_6 : decode cJ5_charAt_5068e 6 = .ok (.getfield 15, 3) := by decide +kernel
theorem dJ5_charAt_5068e_9 : decode cJ5_charAt_5068e 9 = .ok (.astore_n 3, 1) := by decide +kernel
theorem dJ5_charAt_5068e_10 : decode cJ5_charAt_5068e 10 = .ok (.aload_n 0, 1) := by decide +kernel
theorem dJ5_charAt_5068e_11 : decode cJ5_charAt_5068e 11 = .ok (.getfield 79, 3) := by decide +kernel
theorem dJ5_charAt_5068e_14 : decode cJ5_charAt_5068e 14 = .ok (.aload_n 3, 1) := by decide +kernel
theorem dJ5_charAt_5068e_15 : decode cJ5_charAt_5068e 15 = .ok (.arraylength, 1) := by decide +kernel
theorem dJ5_charAt_5068e_16 : decode cJ5_charAt_5068e 16 = .ok (.iload_n 2, 1) := by decide +kernel
theorem dJ5_charAt_5068e_17 : decode cJ5_charAt_5068e 17 = .ok (.ishr, 1) := by decide +kernel
theorem dJ5_charAt_5068e_18 : decode cJ5_charAt_5068e 18 = .ok (.invokestatic 138, 3) := by decide +kernel
theorem dJ5_charAt_5068e_21 : decode cJ5_charAt_5068e 21 = .ok (.istore 4, 2) := by decide +kernel
theorem dJ5_charAt_5068e_23 : decode cJ5_charAt_5068e 23 = .ok (.iload_n 1, 1) := by decide +kernel
theorem dJ5_charAt_5068e_24 : decode cJ5_charAt_5068e 24 = .ok (.iload 4, 2) := by decide +kernel
theorem dJ5_charAt_5068e_26 : decode cJ5_charAt_5068e 26 = .ok (.invokestatic 144, 3) := by decide +kernel
theorem dJ5_charAt_5068e_29 : decode cJ5_charAt_5068e 29 = .ok (.iload_n 2, 1) := by decide +kernel
theorem dJ5_charAt_5068e_30 : decode cJ5_charAt_5068e 30 = .ok (.ifCond .ne 12, 3) := by decide +kernel
theorem dJ5_charAt_5068e_33 : decode cJ5_charAt_5068e 33 = .ok (.aload_n 3, 1) := by decide +kernel
theorem dJ5_charAt_5068e_34 : decode cJ5_charAt_5068e 34 = .ok (.iload_n 1, 1) := by decide +kernel
theorem dJ5_charAt_5068e_35 : decode cJ5_charAt_5068e 35 = .ok (.baload, 1) := by decide +kernel
theorem dJ5_charAt_5068e_36 : decode cJ5_charAt_5068e 36 = .ok (.sipush 255, 3) := by decide +kernel
theorem dJ5_charAt_5068e_39 : decode cJ5_charAt_5068e 39 = .ok (.iand, 1) := by decide +kernel
theorem dJ5_charAt_5068e_40 : decode cJ5_charAt_5068e 40 = .ok (.i2c, 1) := by decide +kernel
theorem dJ5_charAt_5068e_41 : decode cJ5_charAt_5068e 41 = .ok (.ireturn, 1) := by decide +kernel
theorem dJ5_charAt_5068e_42 : decode cJ5_charAt_5068e 42 = .ok (.aload_n 3, 1) := by decide +kernel
theorem dJ5_charAt_5068e_43 : decode cJ5_charAt_5068e 43 = .ok (.iload_n 1, 1) := by decide +kernel
theorem dJ5_charAt_5068e_44 : decode cJ5_charAt_5068e 44 = .ok (.invokestatic 148, 3) := by decide +kernel
theorem dJ5_charAt_5068e_47 : decode cJ5_charAt_5068e 47 = .ok (.ireturn, 1) := by decide +kernel
theorem dJ4_charAt_5068e_0 : decode cJ4_charAt_5068e 0 = .ok (.aload_n 0, 1) := by decide +kernel
theorem dJ4_charAt_5068e_1 : decode cJ4_charAt_5068e 1 = .ok (.iload_n 1, 1) := by decide +kernel
theorem dJ4_charAt_5068e_2 : decode cJ4_charAt_5068e 2 = .ok (.invokespecial 329, 3) := by decide +kernel
theorem dJ4_charAt_5068e_5 : decode cJ4_charAt_5068e 5 = .ok (.ireturn, 1) := by decide +kernel
theorem dX5_signAt_0 : decode cX5_signAt 0 = .ok (.iload_n 1, 1) := by decide +kernel
theorem dX5_signAt_1 : decode cX5_signAt 1 = .ok (.ifCond .lt 25, 3) := by decide +kernel
theorem dX5_signAt_4 : decode cX5_signAt 4 = .ok (.iload_n 1, 1) := by decide +kernel
theorem dX5_signAt_5 : decode cX5_signAt 5 = .ok (.aload_n 0, 1) := by decide +kernel
theorem dX5_signAt_6 : decode cX5_signAt 6 = .ok (.getfield 12, 3) := by decide +kernel
theorem dX5_signAt_9 : decode cX5_signAt 9 = .ok (.invokevirtual 50, 3) := by decide +kernel
theorem dX5_signAt_12 : decode cX5_signAt 12 = .ok (.if_icmp .ge 14, 3) := by decide +kernel
theorem dX5_signAt_15 : decode cX5_signAt 15 = .ok (.aload_n 0, 1) := by decide +kernel
theorem dX5_signAt_16 : decode cX5_signAt 16 = .ok (.getfield 12, 3) := by decide +kernel
theorem dX5_signAt_19 : decode cX5_signAt 19 = .ok (.iload_n 1, 1) := by decide +kernel
theorem dX5_signAt_20 : decode cX5_signAt 20 = .ok (.invokevirtual 61, 3) := by decide +kernel
theorem dX5_signAt_23 : decode cX5_signAt 23 = .ok (.goto 5, 3) := by decide +kernel
theorem dX5_signAt_26 : decode cX5_signAt 26 = .ok (.bipush (-11), 2) := by decide +kernel
theorem dX5_signAt_28 : decode cX5_signAt 28 = .ok (.ireturn, 1) := by decide +kernel
theorem dJ8_hugeLength_7cf53_0 : decode cJ8_hugeLength_7cf53 0 = .ok (.iload_n 0, 1) := by decide +kernel
theorem dJ8_hugeLength_7cf53_1 : decode cJ8_hugeLength_7cf53 1 = .ok (.iload_n 1, 1) := by decide +kernel
theorem dJ8_hugeLength_7cf53_2 : decode cJ8_hugeLength_7cf53 2 = .ok (.iadd, 1) := by decide +kernel
theorem dJ8_hugeLength_7cf53_3 : decode cJ8_hugeLength_7cf53 3 = .ok (.istore_n 2, 1) := by decide +kernel
theorem dJ8_hugeLength_7cf53_4 : decode cJ8_hugeLength_7cf53 4 = .ok (.iload_n 2, 1) := by decide +kernel
theorem dJ8_hugeLength_7cf53_5 : decode cJ8_hugeLength_7cf53 5 = .ok (.ifCond .ge 44, 3) := by decide +kernel
theorem dJ8_hugeLength_7cf53_8 : decode cJ8_hugeLength_7cf53 8 = .ok (.new 204, 3) := by decide +kernel
theorem dJ8_hugeLength_7cf53_11 : decode cJ8_hugeLength_7cf53 11 = .ok (.dup, 1) := by decide +kernel
theorem dJ8_hugeLength_7cf53_12 : decode cJ8_hugeLength_7cf53 12 = .ok (.new 89, 3) := by decide +kernel
theorem dJ8_hugeLength_7cf53_15 : decode cJ8_hugeLength_7cf53 15 = .ok (.dup, 1) := by decide +kernel
theorem dJ8_hugeLength_7cf53_16 : decode cJ8_hugeLength_7cf53 16 = .ok (.invokespecial 91, 3) := by decide +kernel
theorem dJ8_hugeLength_7cf53_19 : decode cJ8_hugeLength_7cf53 19 = .ok (.ldc 206, 2) := by decide +kernel
theorem dJ8_hugeLength_7cf53_21 : decode cJ8_hugeLength_7cf53 21 = .ok (.invokevirtual 94, 3) := by decide +kernel
theorem dJ8_hugeLength_7cf53_24 : decode cJ8_hugeLength_7cf53 24 = .ok (.iload_n 0, 1) := by decide +kernel
theorem dJ8_hugeLength_7cf53_25 : decode cJ8_hugeLength_7cf53 25 = .ok (.invokevirtual 98, 3) := by decide +kernel
theorem dJ8_hugeLength_7cf53_28 : decode cJ8_hugeLength_7cf53 28 = .ok (.ldc 208, 2) := by decide +kernel
theorem dJ8_hugeLength_7cf53_30 : decode cJ8_hugeLength_7cf53 30 = .ok (.invokevirtual 94, 3) := by decide +kernel
theorem dJ8_hugeLength_7cf53_33 : decode cJ8_hugeLength_7cf53 33 = .ok (.iload_n 1, 1) := by decide +kernel
theorem dJ8_hugeLength_7cf53_34 : decode cJ8_hugeLength_7cf53 34 = .ok (.invokevirtual 98, 3) := by decide +kernel
theorem dJ8_hugeLength_7cf53_37 : decode cJ8_hugeLength_7cf53 37 = .ok (.ldc 210, 2) := by decide +kernel
theorem dJ8_hugeLength_7cf53_39 : decode cJ8_hugeLength_7cf53 39 = .ok (.invokevirtual 94, 3) := by decide +kernel
theorem dJ8_hugeLength_7cf53_42 : decode cJ8_hugeLength_7cf53 42 = .ok (.invokevirtual 101, 3) := by decide +kernel
theorem dJ8_hugeLength_7cf53_45 : decode cJ8_hugeLength_7cf53 45 = .ok (.invokespecial 212, 3) := by decide +kernel
theorem dJ8_hugeLength_7cf53_48 : decode cJ8_hugeLength_7cf53 48 = .ok (.athrow, 1) := by decide +kernel
theorem dJ8_hugeLength_7cf53_49 : decode cJ8_hugeLength_7cf53 49 = .ok (.iload_n 2, 1) := by decide +kernel
theorem dJ8_hugeLength_7cf53_50 : decode cJ8_hugeLength_7cf53 50 = .ok (.ldc 200, 2) := by decide +kernel
theorem dJ8_hugeLength_7cf53_52 : decode cJ8_hugeLength_7cf53 52 = .ok (.if_icmp .gt 6, 3) := by decide +kernel
theorem dJ8_hugeLength_7cf53_55 : decode cJ8_hugeLength_7cf53 55 = .ok (.ldc 200, 2) := by decide +kernel
theorem dJ8_hugeLength_7cf53_57 : decode cJ8_hugeLength_7cf53 57 = .ok (.ireturn, 1) := by decide +kernel
theorem dJ8_hugeLength_7cf53_58 : decode cJ8_hugeLength_7cf53 58 = .ok (.iload_n 2, 1) := by decide +kernel
theorem dJ8_hugeLength_7cf53_59 : decode cJ8_hugeLength_7cf53 59 = .ok (.ireturn, 1) := by decide +kernel
theorem dJ8_newLength_cabcc_0 : decode cJ8_newLength_cabcc 0 = .ok (.iload_n 0, 1) := by decide +kernel
theorem dJ8_newLength_cabcc_1 : decode cJ8_newLength_cabcc 1 = .ok (.iload_n 1, 1) := by decide +kernel
theorem dJ8_newLength_cabcc_2 : decode cJ8_newLength_cabcc 2 = .ok (.iload_n 2, 1) := by decide +kernel
theorem dJ8_newLength_cabcc_3 : decode cJ8_newLength_cabcc 3 = .ok (.invokestatic 194, 3) := by decide +kernel
theorem dJ8_newLength_cabcc_6 : decode cJ8_newLength_cabcc 6 = .ok (.iadd, 1) := by decide +kernel
theorem dJ8_newLength_cabcc_7 : decode cJ8_newLength_cabcc 7 = .ok (.istore_n 3, 1) := by decide +kernel
theorem dJ8_newLength_cabcc_8 : decode cJ8_newLength_cabcc 8 = .ok (.iconst 0, 1) := by decide +kernel
theorem dJ8_newLength_cabcc_9 : decode cJ8_newLength_cabcc 9 = .ok (.iload_n 3, 1) := by decide +kernel
theorem dJ8_newLength_cabcc_10 : decode cJ8_newLength_cabcc 10 = .ok (.if_icmp .ge 11, 3) := by decide +kernel
theorem dJ8_newLength_cabcc_13 : decode cJ8_newLength_cabcc 13 = .ok (.iload_n 3, 1) := by decide +kernel
theorem dJ8_newLength_cabcc_14 : decode cJ8_newLength_cabcc 14 = .ok (.ldc 200, 2) := by decide +kernel
theorem dJ8_newLength_cabcc_16 : decode cJ8_newLength_cabcc 16 = .ok (.if_icmp .gt 5, 3) := by decide +kernel
theorem dJ8_newLength_cabcc_19 : decode cJ8_newLength_cabcc 19 = .ok (.iload_n 3, 1) := by decide +kernel
theorem dJ8_newLength_cabcc_20 : decode cJ8_newLength_cabcc 20 = .ok (.ireturn, 1) := by decide +kernel
theorem dJ8_newLength_cabcc_21 : decode cJ8_newLength_cabcc 21 = .ok (.iload_n 0, 1) := by decide +kernel
theorem dJ8_newLength_cabcc_22 : decode cJ8_newLength_cabcc 22 = .ok (.iload_n 1, 1) := by decide +kernel
theorem dJ8_newLength_cabcc_23 : decode cJ8_newLength_cabcc 23 = .ok (.invokestatic 201, 3) := by decide +kernel
theorem dJ8_newLength_cabcc_26 : decode cJ8_newLength_cabcc 26 = .ok (.ireturn, 1) := by decide +kernel
theorem dJ5_newCapacity_0f7a4_0 : decode cJ5_newCapacity_0f7a4 0 = .ok (.aload_n 0, 1) := by decide +kernel
theorem dJ5_newCapacity_0f7a4_1 : decode cJ5_newCapacity_0f7a4 1 = .ok (.getfield 15, 3) := by decide +kernel
theorem dJ5_newCapacity_0f7a4_4 : decode cJ5_newCapacity_0f7a4 4 = .ok (.arraylength, 1) := by decide +kernel
theorem dJ5_newCapacity_0f7a4_5 : decode cJ5_newCapacity_0f7a4 5 = .ok (.istore_n 2, 1) := by decide +kernel
theorem dJ5_newCapacity_0f7a4_6 : decode cJ5_newCapacity_0f7a4 6 = .ok (.iload_n 1, 1) := by decide +kernel
theorem dJ5_newCapacity_0f7a4_7 : decode cJ5_newCapacity_0f7a4 7 = .ok (.aload_n 0, 1) := by decide +kernel
theorem dJ5_newCapacity_0f7a4_8 : decode cJ5_newCapacity_0f7a4 8 = .ok (.getfield 22, 3) := by decide +kernel
theorem dJ5_newCapacity_0f7a4_11 : decode cJ5_newCapacity_0f7a4 11 = .ok (.ishl, 1) := by decide +kernel
theorem dJ5_newCapacity_0f7a4_12 : decode cJ5_newCapacity_0f7a4 12 = .ok (.istore_n 3, 1) := by decide +kernel
theorem dJ5_newCapacity_0f7a4_13 : decode cJ5_newCapacity_0f7a4 13 = .ok (.iload_n 3, 1) := by decide +kernel
theorem dJ5_newCapacity_0f7a4_14 : decode cJ5_newCapacity_0f7a4 14 = .ok (.iload_n 2, 1) := by decide +kernel
theorem dJ5_newCapacity_0f7a4_15 : decode cJ5_newCapacity_0f7a4 15 = .ok (.isub, 1) := by decide +kernel
theorem dJ5_newCapacity_0f7a4_16 : decode cJ5_newCapacity_0f7a4 16 = .ok (.istore 4, 2) := by decide +kernel
theorem dJ5_newCapacity_0f7a4_18 : decode cJ5_newCapacity_0f7a4 18 = .ok (.iload_n 2, 1) := by decide +kernel
theorem dJ5_newCapacity_0f7a4_19 : decode cJ5_newCapacity_0f7a4 19 = .ok (.iload 4, 2) := by decide +kernel
theorem dJ5_newCapacity_0f7a4_21 : decode cJ5_newCapacity_0f7a4 21 = .ok (.iload_n 2, 1) := by decide +kernel
theorem dJ5_newCapacity_0f7a4_22 : decode cJ5_newCapacity_0f7a4 22 = .ok (.iconst 2, 1) := by decide +kernel
theorem dJ5_newCapacity_0f7a4_23 : decode cJ5_newCapacity_0f7a4 23 = .ok (.aload_n 0, 1) := by decide +kernel
theorem dJ5_newCapacity_0f7a4_24 : decode cJ5_newCapacity_0f7a4 24 = .ok (.getfield 22, 3) := by decide +kernel
theorem dJ5_newCapacity_0f7a4_27 : decode cJ5_newCapacity_0f7a4 27 = .ok (.ishl, 1) := by decide +kernel
theorem dJ5_newCapacity_0f7a4_28 : decode cJ5_newCapacity_0f7a4 28 = .ok (.iadd, 1) := by decide +kernel
theorem dJ5_newCapacity_0f7a4_29 : decode cJ5_newCapacity_0f7a4 29 = .ok (.invokestatic 114, 3) := by decide +kernel
theorem dJ5_newCapacity_0f7a4_32 : decode cJ5_newCapacity_0f7a4 32 = .ok (.istore 5, 2) := by decide +kernel
theorem dJ5_newCapacity_0f7a4_34 : decode cJ5_newCapacity_0f7a4 34 = .ok (.iload 5, 2) := by decide +kernel
theorem dJ5_newCapacity_0f7a4_36 : decode cJ5_newCapacity_0f7a4 36 = .ok (.ldc 39, 2) := by decide +kernel
theorem dJ5_newCapacity_0f7a4_38 : decode cJ5_newCapacity_0f7a4 38 = .ok (.if_icmp .ne 13, 3) := by decide +kernel
theorem dJ5_newCapacity_0f7a4_41 : decode cJ5_newCapacity_0f7a4 41 = .ok (.new 120, 3) := by decide +kernel
theorem dJ5_newCapacity_0f7a4_44 : decode cJ5_newCapacity_0f7a4 44 = .ok (.dup, 1) := by decide +kernel
theorem dJ5_newCapacity_0f7a4_45 : decode cJ5_newCapacity_0f7a4 45 = .ok (.ldc 122, 2) := by decide +kernel
theorem dJ5_newCapacity_0f7a4_47 : decode cJ5_newCapacity_0f7a4 47 = .ok (.invokespecial 124, 3) := by decide +kernel
theorem dJ5_newCapacity_0f7a4_50 : decode cJ5_newCapacity_0f7a4 50 = .ok (.athrow, 1) := by decide +kernel
theorem dJ5_newCapacity_0f7a4_51 : decode cJ5_newCapacity_0f7a4 51 = .ok (.iload 5, 2) := by decide +kernel
theorem dJ5_newCapacity_0f7a4_53 : decode cJ5_newCapacity_0f7a4 53 = .ok (.aload_n 0, 1) := by decide +kernel
theorem dJ5_newCapacity_0f7a4_54 : decode cJ5_newCapacity_0f7a4 54 = .ok (.getfield 22, 3) := by decide +kernel
theorem dJ5_newCapacity_0f7a4_57 : decode cJ5_newCapacity_0f7a4 57 = .ok (.ishr, 1) := by decide +kernel
theorem dJ5_newCapacity_0f7a4_58 : decode cJ5_newCapacity_0f7a4 58 = .ok (.ireturn, 1) := by decide +kernel
theorem dJ5_ensureCapacityInternal_d00df_0 : decode cJ5_ensureCapacityInternal_d00df 0 = .ok (.aload_n 0, 1) := by decide +kernel
theorem dJ5_ensureCapacityInternal_d00df_1 : decode cJ5_ensureCapacityInternal_d00df 1 = .ok (.getfield 15, 3) := by decide +kernel
theorem dJ5_ensureCapacityInternal_d00df_4 : decode cJ5_ensureCapacityInternal_d00df 4 = .ok (.arraylength, 1) := by decide +kernel
theorem dJ5_ensureCapacityInternal_d00df_5 : decode cJ5_ensureCapacityInternal_d00df 5 = .ok (.aload_n 0, 1) := by decide +kernel
theorem dJ5_ensureCapacityInternal_d00df_6 : decode cJ5_ensureCapacityInternal_d00df 6 = .ok (.getfield 22, 3) := by decide +kernel
theorem dJ5_ensureCapacityInternal_d00df_9 : decode cJ5_ensureCapacityInternal_d00df 9 = .ok (.ishr, 1) := by decide +kernel
theorem dJ5_ensureCapacityInternal_d00df_10 : decode cJ5_ensureCapacityInternal_d00df 10 = .ok (.istore_n 2, 1) := by decide +kernel
theorem dJ5_ensureCapacityInternal_d00df_11 : decode cJ5_ensureCapacityInternal_d00df 11 = .ok (.iload_n 1, 1) := by decide +kernel
theorem dJ5_ensureCapacityInternal_d00df_12 : decode cJ5_ensureCapacityInternal_d00df 12 = .ok (.iload_n 2, 1) := by decide +kernel
theorem dJ5_ensureCapacityInternal_d00df_13 : decode cJ5_ensureCapacityInternal_d00df 13 = .ok (.isub, 1) := by decide +kernel
theorem dJ5_ensureCapacityInternal_d00df_14 : decode cJ5_ensureCapacityInternal_d00df 14 = .ok (.ifCond .le 24, 3) := by decide +kernel
theorem dJ5_ensureCapacityInternal_d00df_17 : decode cJ5_ensureCapacityInternal_d00df 17 = .ok (.aload_n 0, 1) := by decide +kernel
theorem dJ5_ensureCapacityInternal_d00df_18 : decode cJ5_ensureCapacityInternal_d00df 18 = .ok (.aload_n 0, 1) := by decide +kernel
theorem dJ5_ensureCapacityInternal_d00df_19 : decode cJ5_ensureCapacityInternal_d00df 19 = .ok (.getfield 15, 3) := by decide +kernel
theorem dJ5_ensureCapacityInternal_d00df_22 : decode cJ5_ensureCapacityInternal_d00df 22 = .ok (.aload_n 0, 1) := by decide +kernel
theorem dJ5_ensureCapacityInternal_d00df_23 : decode cJ5_ensureCapacityInternal_d00df 23 = .ok (.iload_n 1, 1) := by decide +kernel
theorem dJ5_ensureCapacityInternal_d00df_24 : decode cJ5_ensureCapacityInternal_d00df 24 = .ok (.invokevirtual 104, 3) := by decide +kernel
theorem dJ5_ensureCapacityInternal_d00df_27 : decode cJ5_ensureCapacityInternal_d00df 27 = .ok (.aload_n 0, 1) := by decide +kernel
theorem dJ5_ensureCapacityInternal_d00df_28 : decode cJ5_ensureCapacityInternal_d00df 28 = .ok (.getfield 22, 3) := by decide +kernel
theorem dJ5_ensureCapacityInternal_d00df_31 : decode cJ5_ensureCapacityInternal_d00df 31 = .ok (.ishl, 1) := by decide +kernel
theorem dJ5_ensureCapacityInternal_d00df_32 : decode cJ5_ensureCapacityInternal_d00df 32 = .ok (.invokestatic 108, 3) := by decide +kernel
theorem dJ5_ensureCapacityInternal_d00df_35 : decode cJ5_ensureCapacityInternal_d00df 35 = .ok (.putfield 15, 3) := by decide +kernel
theorem dJ5_ensureCapacityInternal_d00df_38 : decode cJ5_ensureCapacityInternal_d00df 38 = .ok (.return_, 1) := by decide +kernel
theorem dJ5_isLatin1_aae02_0 : decode cJ5_isLatin1_aae02 0 = .ok (.getstatic 18, 3) := by decide +kernel
theorem dJ5_isLatin1_aae02_3 : decode cJ5_isLatin1_aae02 3 = .ok (.ifCond .eq 14, 3) := by decide +kernel
theorem dJ5_isLatin1_aae02_6 : decode cJ5_isLatin1_aae02 6 = .ok (.aload_n 0, 1) := by decide +kernel
theorem dJ5_isLatin1_aae02_7 : decode cJ5_isLatin1_aae02 7 = .ok (.getfield 22, 3) := by decide +kernel
theorem dJ5_isLatin1_aae02_10 : decode cJ5_isLatin1_aae02 10 = .ok (.ifCond .ne 7, 3) := by decide +kernel
theorem dJ5_isLatin1_aae02_13 : decode cJ5_isLatin1_aae02 13 = .ok (.iconst 1, 1) := by decide +kernel
theorem dJ5_isLatin1_aae02_14 : decode cJ5_isLatin1_aae02 14 = .ok (.goto 4, 3) := by decide +kernel
theorem dJ5_isLatin1_aae02_17 : decode cJ5_isLatin1_aae02 17 = .ok (.iconst 0, 1) := by decide +kernel
theorem dJ5_isLatin1_aae02_18 : decode cJ5_isLatin1_aae02 18 = .ok (.ireturn, 1) := by decide +kernel
theorem dJ6_getChars_ba4f3_0 : decode cJ6_getChars_ba4f3 0 = .ok (.iload_n 1, 1) := by decide +kernel
theorem dJ6_getChars_ba4f3_1 : decode cJ6_getChars_ba4f3 1 = .ok (.istore 5, 2) := by decide +kernel
theorem dJ6_getChars_ba4f3_3 : decode cJ6_getChars_ba4f3 3 = .ok (.iload_n 0, 1) := by decide +kernel
theorem dJ6_getChars_ba4f3_4 : decode cJ6_getChars_ba4f3 4 = .ok (.ifCond .ge 7, 3) := by decide +kernel
theorem dJ6_getChars_ba4f3_7 : decode cJ6_getChars_ba4f3 7 = .ok (.iconst 1, 1) := by decide +kernel
theorem dJ6_getChars_ba4f3_8 : decode cJ6_getChars_ba4f3 8 = .ok (.goto 4, 3) := by decide +kernel
theorem dJ6_getChars_ba4f3_11 : decode cJ6_getChars_ba4f3 11 = .ok (.iconst 0, 1) := by decide +kernel
theorem dJ6_getChars_ba4f3_12 : decode cJ6_getChars_ba4f3 12 = .ok (.istore 6, 2) := by decide +kernel
theorem dJ6_getChars_ba4f3_14 : decode cJ6_getChars_ba4f3 14 = .ok (.iload 6, 2) := by decide +kernel
theorem dJ6_getChars_ba4f3_16 : decode cJ6_getChars_ba4f3 16 = .ok (.ifCond .ne 6, 3) := by decide +kernel
theorem dJ6_getChars_ba4f3_19 : decode cJ6_getChars_ba4f3 19 = .ok (.iload_n 0, 1) := by decide +kernel
theorem dJ6_getChars_ba4f3_20 : decode cJ6_getChars_ba4f3 20 = .ok (.ineg, 1) := by decide +kernel
theorem dJ6_getChars_ba4f3_21 : decode cJ6_getChars_ba4f3 21 = .ok (.istore_n 0, 1) := by decide +kernel
theorem dJ6_getChars_ba4f3_22 : decode cJ6_getChars_ba4f3 22 = .ok (.iload_n 0, 1) := by decide +kernel
theorem dJ6_getChars_ba4f3_23 : decode cJ6_getChars_ba4f3 23 = .ok (.bipush (-100), 2) := by decide +kernel
theorem dJ6_getChars_ba4f3_25 : decode cJ6_getChars_ba4f3 25 = .ok (.if_icmp .gt 47, 3) := by decide +kernel
theorem dJ6_getChars_ba4f3_28 : decode cJ6_getChars_ba4f3 28 = .ok (.iload_n 0, 1) := by decide +kernel
theorem dJ6_getChars_ba4f3_29 : decode cJ6_getChars_ba4f3 29 = .ok (.bipush 100, 2) := by decide +kernel
theorem dJ6_getChars_ba4f3_31 : decode cJ6_getChars_ba4f3 31 = .ok (.idiv, 1) := by decide +kernel
theorem dJ6_getChars_ba4f3_32 : decode cJ6_getChars_ba4f3 32 = .ok (.istore_n 3, 1) := by decide +kernel
theorem dJ6_getChars_ba4f3_33 : decode cJ6_getChars_ba4f3 33 = .ok (.iload_n 3, 1) := by decide +kernel
theorem dJ6_getChars_ba4f3_34 : decode cJ6_getChars_ba4f3 34 = .ok (.bipush 100, 2) := by decide +kernel
theorem dJ6_getChars_ba4f3_36 : decode cJ6_getChars_ba4f3 36 = .ok (.imul, 1) := by decide +kernel
theorem dJ6_getChars_ba4f3_37 : decode cJ6_getChars_ba4f3 37 = .ok (.iload_n 0, 1) := by decide +kernel
theorem dJ6_getChars_ba4f3_38 : decode cJ6_getChars_ba4f3 38 = .ok (.isub, 1) := by decide +kernel
theorem dJ6_getChars_ba4f3_39 : decode cJ6_getChars_ba4f3 39 = .ok (.istore 4, 2) := by decide +kernel
theorem dJ6_getChars_ba4f3_41 : decode cJ6_getChars_ba4f3 41 = .ok (.iload_n 3, 1) := by decide +kernel
theorem dJ6_getChars_ba4f3_42 : decode cJ6_getChars_ba4f3 42 = .ok (.istore_n 0, 1) := by decide +kernel
theorem dJ6_getChars_ba4f3_43 : decode cJ6_getChars_ba4f3 43 = .ok (.aload_n 2, 1) := by decide +kernel
theorem dJ6_getChars_ba4f3_44 : decode cJ6_getChars_ba4f3 44 = .ok (.iinc 5 (-1), 3) := by decide +kernel
theorem dJ6_getChars_ba4f3_47 : decode cJ6_getChars_ba4f3 47 = .ok (.iload 5, 2) := by decide +kernel
theorem dJ6_getChars_ba4f3_49 : decode cJ6_getChars_ba4f3 49 = .ok (.getstatic 83, 3) := by decide +kernel
theorem dJ6_getChars_ba4f3_52 : decode cJ6_getChars_ba4f3 52 = .ok (.iload 4, 2) := by decide +kernel
theorem dJ6_getChars_ba4f3_54 : decode cJ6_getChars_ba4f3 54 = .ok (.baload, 1) := by decide +kernel
theorem dJ6_getChars_ba4f3_55 : decode cJ6_getChars_ba4f3 55 = .ok (.bastore, 1) := by decide +kernel
theorem dJ6_getChars_ba4f3_56 : decode cJ6_getChars_ba4f3 56 = .ok (.aload_n 2, 1) := by decide +kernel
theorem dJ6_getChars_ba4f3_57 : decode cJ6_getChars_ba4f3 57 = .ok (.iinc 5 (-1), 3) := by decide +kernel
theorem dJ6_getChars_ba4f3_60 : decode cJ6_getChars_ba4f3 60 = .ok (.iload 5, 2) := by decide +kernel
theorem dJ6_getChars_ba4f3_62 : decode cJ6_getChars_ba4f3 62 = .ok (.getstatic 87, 3) := by decide +kernel
theorem dJ6_getChars_ba4f3_65 : decode cJ6_getChars_ba4f3 65 = .ok (.iload 4, 2) := by decide +kernel
theorem dJ6_getChars_ba4f3_67 : decode cJ6_getChars_ba4f3 67 = .ok (.baload, 1) := by decide +kernel
theorem dJ6_getChars_ba4f3_68 : decode cJ6_getChars_ba4f3 68 = .ok (.bastore, 1) := by decide +kernel
theorem dJ6_getChars_ba4f3_69 : decode cJ6_getChars_ba4f3 69 = .ok (.goto (-47), 3) := by decide +kernel
theorem dJ6_getChars_ba4f3_72 : decode cJ6_getChars_ba4f3 72 = .ok (.aload_n 2, 1) := by decide +kernel
theorem dJ6_getChars_ba4f3_73 : decode cJ6_getChars_ba4f3 73 = .ok (.iinc 5 (-1), 3) := by decide +kernel
theorem dJ6_getChars_ba4f3_76 : decode cJ6_getChars_ba4f3 76 = .ok (.iload 5, 2) := by decide +kernel
theorem dJ6_getChars_ba4f3_78 : decode cJ6_getChars_ba4f3 78 = .ok (.getstatic 83, 3) := by decide +kernel
theorem dJ6_getChars_ba4f3_81 : decode cJ6_getChars_ba4f3 81 = .ok (.iload_n 0, 1) := by decide +kernel
theorem dJ6_getChars_ba4f3_82 : decode cJ6_getChars_ba4f3 82 = .ok (.ineg, 1) := by decide +kernel
theorem dJ6_getChars_ba4f3_83 : decode cJ6_getChars_ba4f3 83 = .ok (.baload, 1) := by decide +kernel
theorem dJ6_getChars_ba4f3_84 : decode cJ6_getChars_ba4f3 84 = .ok (.bastore, 1) := by decide +kernel
theorem dJ6_getChars_ba4f3_85 : decode cJ6_getChars_ba4f3 85 = .ok (.iload_n 0, 1) := by decide +kernel
theorem dJ6_getChars_ba4f3_86 : decode cJ6_getChars_ba4f3 86 = .ok (.bipush (-9), 2) := by decide +kernel
theorem dJ6_getChars_ba4f3_88 : decode cJ6_getChars_ba4f3 88 = .ok (.if_icmp .ge 16, 3) := by decide +kernel
theorem dJ6_getChars_ba4f3_91 : decode cJ6_getChars_ba4f3 91 = .ok (.aload_n 2, 1) := by decide +kernel
theorem dJ6_getChars_ba4f3_92 : decode cJ6_getChars_ba4f3 92 = .ok (.iinc 5 (-1), 3) := by decide +kernel
theorem dJ6_getChars_ba4f3_95 : decode cJ6_getChars_ba4f3 95 = .ok (.iload 5, 2) := by decide +kernel
theorem dJ6_getChars_ba4f3_97 : decode cJ6_getChars_ba4f3 97 = .ok (.getstatic 87, 3) := by decide +kernel
theorem dJ6_getChars_ba4f3_100 : decode cJ6_getChars_ba4f3 100 = .ok (.iload_n 0, 1) := by decide +kernel
theorem dJ6_getChars_ba4f3_101 : decode cJ6_getChars_ba4f3 101 = .ok (.ineg, 1) := by decide +kernel
theorem dJ6_getChars_ba4f3_102 : decode cJ6_getChars_ba4f3 102 = .ok (.baload, 1) := by decide +kernel
theorem dJ6_getChars_ba4f3_103 : decode cJ6_getChars_ba4f3 103 = .ok (.bastore, 1) := by decide +kernel
theorem dJ6_getChars_ba4f3_104 : decode cJ6_getChars_ba4f3 104 = .ok (.iload 6, 2) := by decide +kernel
theorem dJ6_getChars_ba4f3_106 : decode cJ6_getChars_ba4f3 106 = .ok (.ifCond .eq 12, 3) := by decide +kernel
theorem dJ6_getChars_ba4f3_109 : decode cJ6_getChars_ba4f3 109 = .ok (.aload_n 2, 1) := by decide +kernel
theorem dJ6_getChars_ba4f3_110 : decode cJ6_getChars_ba4f3 110 = .ok (.iinc 5 (-1), 3) := by decide +kernel
theorem dJ6_getChars_ba4f3_113 : decode cJ6_getChars_ba4f3 113 = .ok (.iload 5, 2) := by decide +kernel
theorem dJ6_getChars_ba4f3_115 : decode cJ6_getChars_ba4f3 115 = .ok (.bipush 45, 2) := by decide +kernel
theorem dJ6_getChars_ba4f3_117 : decode cJ6_getChars_ba4f3 117 = .ok (.bastore, 1) := by decide +kernel
theorem dJ6_getChars_ba4f3_118 : decode cJ6_getChars_ba4f3 118 = .ok (.iload 5, 2) := by decide +kernel
theorem dJ6_getChars_ba4f3_120 : decode cJ6_getChars_ba4f3 120 = .ok (.ireturn, 1) := by decide +kernel
theorem dJ5_append_c97b9_0 : decode cJ5_append_c97b9 0 = .ok (.aload_n 0, 1) := by decide +kernel
theorem dJ5_append_c97b9_1 : decode cJ5_append_c97b9 1 = .ok (.getfield 79, 3) := by decide +kernel
theorem dJ5_append_c97b9_4 : decode cJ5_append_c97b9 4 = .ok (.istore_n 2, 1) := by decide +kernel
theorem dJ5_append_c97b9_5 : decode cJ5_append_c97b9 5 = .ok (.iload_n 2, 1) := by decide +kernel
theorem dJ5_append_c97b9_6 : decode cJ5_append_c97b9 6 = .ok (.iload_n 1, 1) := by decide +kernel
theorem dJ5_append_c97b9_7 : decode cJ5_append_c97b9 7 = .ok (.invokestatic 245, 3) := by decide +kernel
theorem dJ5_append_c97b9_10 : decode cJ5_append_c97b9 10 = .ok (.iadd, 1) := by decide +kernel
theorem dJ5_append_c97b9_11 : decode cJ5_append_c97b9 11 = .ok (.istore_n 3, 1) := by decide +kernel
theorem dJ5_append_c97b9_12 : decode cJ5_append_c97b9 12 = .ok (.aload_n 0, 1) := by decide +kernel
theorem dJ5_append_c97b9_13 : decode cJ5_append_c97b9 13 = .ok (.iload_n 3, 1) := by decide +kernel
theorem dJ5_append_c97b9_14 : decode cJ5_append_c97b9 14 = .ok (.invokevirtual 100, 3) := by decide +kernel
theorem dJ5_append_c97b9_17 : decode cJ5_append_c97b9 17 = .ok (.aload_n 0, 1) := by decide +kernel
theorem dJ5_append_c97b9_18 : decode cJ5_append_c97b9 18 = .ok (.invokevirtual 83, 3) := by decide +kernel
theorem dJ5_append_c97b9_21 : decode cJ5_append_c97b9 21 = .ok (.ifCond .eq 16, 3) := by decide +kernel
theorem dJ5_append_c97b9_24 : decode cJ5_append_c97b9 24 = .ok (.iload_n 1, 1) := by decide +kernel
theorem dJ5_append_c97b9_25 : decode cJ5_append_c97b9 25 = .ok (.iload_n 3, 1) := by decide +kernel
theorem dJ5_append_c97b9_26 : decode cJ5_append_c97b9 26 = .ok (.aload_n 0, 1) := by decide +kernel
theorem dJ5_append_c97b9_27 : decode cJ5_append_c97b9 27 = .ok (.getfield 15, 3) := by decide +kernel
theorem dJ5_append_c97b9_30 : decode cJ5_append_c97b9 30 = .ok (.invokestatic 248, 3) := by decide +kernel
theorem dJ5_append_c97b9_33 : decode cJ5_append_c97b9 33 = .ok (.pop, 1) := by decide +kernel
theorem dJ5_append_c97b9_34 : decode cJ5_append_c97b9 34 = .ok (.goto 14, 3) := by decide +kernel
theorem dJ5_append_c97b9_37 : decode cJ5_append_c97b9 37 = .ok (.iload_n 1, 1) := by decide +kernel
theorem dJ5_append_c97b9_38 : decode cJ5_append_c97b9 38 = .ok (.iload_n 2, 1) := by decide +kernel
theorem dJ5_append_c97b9_39 : decode cJ5_append_c97b9 39 = .ok (.iload_n 3, 1) := by decide +kernel
theorem dJ5_append_c97b9_40 : decode cJ5_append_c97b9 40 = .ok (.aload_n 0, 1) := by decide +kernel
theorem dJ5_append_c97b9_41 : decode cJ5_append_c97b9 41 = .ok (.getfield 15, 3) := by decide +kernel
theorem dJ5_append_c97b9_44 : decode cJ5_append_c97b9 44 = .ok (.invokestatic 251, 3) := by decide +kernel
theorem dJ5_append_c97b9_47 : decode cJ5_append_c97b9 47 = .ok (.pop, 1) := by decide +kernel
theorem dJ5_append_c97b9_48 : decode cJ5_append_c97b9 48 = .ok (.aload_n 0, 1) := by decide +kernel
theorem dJ5_append_c97b9_49 : decode cJ5_append_c97b9 49 = .ok (.iload_n 3, 1) := by decide +kernel
theorem dJ5_append_c97b9_50 : decode cJ5_append_c97b9 50 = .ok (.putfield 79, 3) := by decide +kernel
theorem dJ5_append_c97b9_53 : decode cJ5_append_c97b9 53 = .ok (.aload_n 0, 1) := by decide +kernel
theorem dJ5_append_c97b9_54 : decode cJ5_append_c97b9 54 = .ok (.areturn, 1) := by decide +kernel
theorem dJ4_append_bf812_0 : decode cJ4_append_bf812 0 = .ok (.aload_n 0, 1) := by decide +kernel
theorem dJ4_append_bf812_1 : decode cJ4_append_bf812 1 = .ok (.iload_n 1, 1) := by decide +kernel
theorem dJ4_append_bf812_2 : decode cJ4_append_bf812 2 = .ok (.invokespecial 53, 3) := by decide +kernel
theorem dJ4_append_bf812_5 : decode cJ4_append_bf812 5 = .ok (.pop, 1) := by decide +kernel
theorem dJ4_append_bf812_6 : decode cJ4_append_bf812 6 = .ok (.aload_n 0, 1) := by decide +kernel
theorem dJ4_append_bf812_7 : decode cJ4_append_bf812 7 = .ok (.areturn, 1) := by decide +kernel
theorem dJ5_append_3fe6f_0 : decode cJ5_append_3fe6f 0 = .ok (.aload_n 0, 1) := by decide +kernel
theorem dJ5_append_3fe6f_1 : decode cJ5_append_3fe6f 1 = .ok (.aload_n 0, 1) := by decide +kernel
theorem dJ5_append_3fe6f_2 : decode cJ5_append_3fe6f 2 = .ok (.getfield 79, 3) := by decide +kernel
theorem dJ5_append_3fe6f_5 : decode cJ5_append_3fe6f 5 = .ok (.iconst 1, 1) := by decide +kernel
theorem dJ5_append_3fe6f_6 : decode cJ5_append_3fe6f 6 = .ok (.iadd, 1) := by decide +kernel
theorem dJ5_append_3fe6f_7 : decode cJ5_append_3fe6f 7 = .ok (.invokevirtual 100, 3) := by decide +kernel
theorem dJ5_append_3fe6f_10 : decode cJ5_append_3fe6f 10 = .ok (.aload_n 0, 1) := by decide +kernel
theorem dJ5_append_3fe6f_11 : decode cJ5_append_3fe6f 11 = .ok (.invokevirtual 83, 3) := by decide +kernel
theorem dJ5_append_3fe6f_14 : decode cJ5_append_3fe6f 14 = .ok (.ifCond .eq 31, 3) := by decide +kernel
theorem dJ5_append_3fe6f_17 : decode cJ5_append_3fe6f 17 = .ok (.iload_n 1, 1) := by decide +kernel
theorem dJ5_append_3fe6f_18 : decode cJ5_append_3fe6f 18 = .ok (.invokestatic 191, 3) := by decide +kernel
theorem dJ5_append_3fe6f_21 : decode cJ5_append_3fe6f 21 = .ok (.ifCond .eq 24, 3) := by decide +kernel
theorem dJ5_append_3fe6f_24 : decode cJ5_append_3fe6f 24 = .ok (.aload_n 0, 1) := by decide +kernel
theorem dJ5_append_3fe6f_25 : decode cJ5_append_3fe6f 25 = .ok (.getfield 15, 3) := by decide +kernel
theorem dJ5_append_3fe6f_28 : decode cJ5_append_3fe6f 28 = .ok (.aload_n 0, 1) := by decide +kernel
theorem dJ5_append_3fe6f_29 : decode cJ5_append_3fe6f 29 = .ok (.dup, 1) := by decide +kernel
theorem dJ5_append_3fe6f_30 : decode cJ5_append_3fe6f 30 = .ok (.getfield 79, 3) := by decide +kernel
theorem dJ5_append_3fe6f_33 : decode cJ5_append_3fe6f 33 = .ok (.dup_x1, 1) := by decide +kernel
theorem dJ5_append_3fe6f_34 : decode cJ5_append_3fe6f 34 = .ok (.iconst 1, 1) := by decide +kernel
theorem dJ5_append_3fe6f_35 : decode cJ5_append_3fe6f 35 = .ok (.iadd, 1) := by decide +kernel
theorem dJ5_append_3fe6f_36 : decode cJ5_append_3fe6f 36 = .ok (.putfield 79, 3) := by decide +kernel
theorem dJ5_append_3fe6f_39 : decode cJ5_append_3fe6f 39 = .ok (.iload_n 1, 1) := by decide +kernel
theorem dJ5_append_3fe6f_40 : decode cJ5_append_3fe6f 40 = .ok (.i2b, 1) := by decide +kernel
theorem dJ5_append_3fe6f_41 : decode cJ5_append_3fe6f 41 = .ok (.bastore, 1) := by decide +kernel
theorem dJ5_append_3fe6f_42 : decode cJ5_append_3fe6f 42 = .ok (.goto 33, 3) := by decide +kernel
theorem dJ5_append_3fe6f_45 : decode cJ5_append_3fe6f 45 = .ok (.aload_n 0, 1) := by decide +kernel
theorem dJ5_append_3fe6f_46 : decode cJ5_append_3fe6f 46 = .ok (.invokevirtual 83, 3) := by decide +kernel
theorem dJ5_append_3fe6f_49 : decode cJ5_append_3fe6f 49 = .ok (.ifCond .eq 7, 3) := by decide +kernel
theorem dJ5_append_3fe6f_52 : decode cJ5_append_3fe6f 52 = .ok (.aload_n 0, 1) := by decide +kernel
theorem dJ5_append_3fe6f_53 : decode cJ5_append_3fe6f 53 = .ok (.invokevirtual 195, 3) := by decide +kernel
theorem dJ5_append_3fe6f_56 : decode cJ5_append_3fe6f 56 = .ok (.aload_n 0, 1) := by decide +kernel
theorem dJ5_append_3fe6f_57 : decode cJ5_append_3fe6f 57 = .ok (.getfield 15, 3) := by decide +kernel
theorem dJ5_append_3fe6f_60 : decode cJ5_append_3fe6f 60 = .ok (.aload_n 0, 1) := by decide +kernel
theorem dJ5_append_3fe6f_61 : decode cJ5_append_3fe6f 61 = .ok (.dup, 1) := by decide +kernel
theorem dJ5_append_3fe6f_62 : decode cJ5_append_3fe6f 62 = .ok (.getfield 79, 3) := by decide +kernel
theorem dJ5_append_3fe6f_65 : decode cJ5_append_3fe6f 65 = .ok (.dup_x1, 1) := by decide +kernel
theorem dJ5_append_3fe6f_66 : decode cJ5_append_3fe6f 66 = .ok (.iconst 1, 1) := by decide +kernel
theorem dJ5_append_3fe6f_67 : decode cJ5_append_3fe6f 67 = .ok (.iadd, 1) := by decide +kernel
theorem dJ5_append_3fe6f_68 : decode cJ5_append_3fe6f 68 = .ok (.putfield 79, 3) := by decide +kernel
theorem dJ5_append_3fe6f_71 : decode cJ5_append_3fe6f 71 = .ok (.iload_n 1, 1) := by decide +kernel
theorem dJ5_append_3fe6f_72 : decode cJ5_append_3fe6f 72 = .ok (.invokestatic 197, 3) := by decide +kernel
theorem dJ5_append_3fe6f_75 : decode cJ5_append_3fe6f 75 = .ok (.aload_n 0, 1) := by decide +kernel
theorem dJ5_append_3fe6f_76 : decode cJ5_append_3fe6f 76 = .ok (.areturn, 1) := by decide +kernel
theorem dJ4_append_cf468_0 : decode cJ4_append_cf468 0 = .ok (.aload_n 0, 1) := by decide +kernel
theorem dJ4_append_cf468_1 : decode cJ4_append_cf468 1 = .ok (.iload_n 1, 1) := by decide +kernel
theorem dJ4_append_cf468_2 : decode cJ4_append_cf468 2 = .ok (.invokespecial 50, 3) := by decide +kernel
theorem dJ4_append_cf468_5 : decode cJ4_append_cf468 5 = .ok (.pop, 1) := by decide +kernel
theorem dJ4_append_cf468_6 : decode cJ4_append_cf468 6 = .ok (.aload_n 0, 1) := by decide +kernel
theorem dJ4_append_cf468_7 : decode cJ4_append_cf468 7 = .ok (.areturn, 1) := by decide +kernel
theorem dX5_writeTarget_0 : decode cX5_writeTarget 0 = .ok (.iload_n 1, 1) := by decide +kernel
theorem dX5_writeTarget_1 : decode cX5_writeTarget 1 = .ok (.bipush (-15), 2) := by decide +kernel
theorem dX5_writeTarget_3 : decode cX5_writeTarget 3 = .ok (.if_icmp .ne 16, 3) := by decide +kernel
theorem dX5_writeTarget_6 : decode cX5_writeTarget 6 = .ok (.aload_n 0, 1) := by decide +kernel
theorem dX5_writeTarget_7 : decode cX5_writeTarget 7 = .ok (.getfield 12, 3) := by decide +kernel
theorem dX5_writeTarget_10 : decode cX5_writeTarget 10 = .ok (.bipush 45, 2) := by decide +kernel
theorem dX5_writeTarget_12 : decode cX5_writeTarget 12 = .ok (.invokevirtual 30, 3) := by decide +kernel
theorem dX5_writeTarget_15 : decode cX5_writeTarget 15 = .ok (.pop, 1) := by decide +kernel
theorem dX5_writeTarget_16 : decode cX5_writeTarget 16 = .ok (.goto 12, 3) := by decide +kernel
theorem dX5_writeTarget_19 : decode cX5_writeTarget 19 = .ok (.aload_n 0, 1) := by decide +kernel
theorem dX5_writeTarget_20 : decode cX5_writeTarget 20 = .ok (.getfield 12, 3) := by decide +kernel
theorem dX5_writeTarget_23 : decode cX5_writeTarget 23 = .ok (.iload_n 1, 1) := by decide +kernel
theorem dX5_writeTarget_24 : decode cX5_writeTarget 24 = .ok (.invokevirtual 22, 3) := by decide +kernel
theorem dX5_writeTarget_27 : decode cX5_writeTarget 27 = .ok (.pop, 1) := by decide +kernel
theorem dX5_writeTarget_28 : decode cX5_writeTarget 28 = .ok (.return_, 1) := by decide +kernel
theorem dX6_addSign_0 : decode cX6_addSign 0 = .ok (.iload_n 1, 1) := by decide +kernel
theorem dX6_addSign_1 : decode cX6_addSign 1 = .ok (.bipush 32, 2) := by decide +kernel
theorem dX6_addSign_3 : decode cX6_addSign 3 = .ok (.if_icmp .lt 9, 3) := by decide +kernel
theorem dX6_addSign_6 : decode cX6_addSign 6 = .ok (.iload_n 1, 1) := by decide +kernel
theorem dX6_addSign_7 : decode cX6_addSign 7 = .ok (.bipush 126, 2) := by decide +kernel
theorem dX6_addSign_9 : decode cX6_addSign 9 = .ok (.if_icmp .le 6, 3) := by decide +kernel
theorem dX6_addSign_12 : decode cX6_addSign 12 = .ok (.bipush (-12), 2) := by decide +kernel
theorem dX6_addSign_14 : decode cX6_addSign 14 = .ok (.ireturn, 1) := by decide +kernel
theorem dX6_addSign_15 : decode cX6_addSign 15 = .ok (.aload_n 0, 1) := by decide +kernel
theorem dX6_addSign_16 : decode cX6_addSign 16 = .ok (.getfield 12, 3) := by decide +kernel
theorem dX6_addSign_19 : decode cX6_addSign 19 = .ok (.invokevirtual 44, 3) := by decide +kernel
theorem dX6_addSign_22 : decode cX6_addSign 22 = .ok (.bipush 60, 2) := by decide +kernel
theorem dX6_addSign_24 : decode cX6_addSign 24 = .ok (.if_icmp .lt 6, 3) := by decide +kernel
theorem dX6_addSign_27 : decode cX6_addSign 27 = .ok (.bipush (-13), 2) := by decide +kernel
theorem dX6_addSign_29 : decode cX6_addSign 29 = .ok (.ireturn, 1) := by decide +kernel
theorem dX6_addSign_30 : decode cX6_addSign 30 = .ok (.aload_n 0, 1) := by decide +kernel
theorem dX6_addSign_31 : decode cX6_addSign 31 = .ok (.getfield 12, 3) := by decide +kernel
theorem dX6_addSign_34 : decode cX6_addSign 34 = .ok (.iload_n 1, 1) := by decide +kernel
theorem dX6_addSign_35 : decode cX6_addSign 35 = .ok (.i2c, 1) := by decide +kernel
theorem dX6_addSign_36 : decode cX6_addSign 36 = .ok (.invokevirtual 48, 3) := by decide +kernel
theorem dX6_addSign_39 : decode cX6_addSign 39 = .ok (.pop, 1) := by decide +kernel
theorem dX6_addSign_40 : decode cX6_addSign 40 = .ok (.aload_n 0, 1) := by decide +kernel
theorem dX6_addSign_41 : decode cX6_addSign 41 = .ok (.getfield 12, 3) := by decide +kernel
theorem dX6_addSign_44 : decode cX6_addSign 44 = .ok (.invokevirtual 44, 3) := by decide +kernel
theorem dX6_addSign_47 : decode cX6_addSign 47 = .ok (.ireturn, 1) := by decide +kernel
theorem dX6_signs_0 : decode cX6_signs 0 = .ok (.aload_n 0, 1) := by decide +kernel
theorem dX6_signs_1 : decode cX6_signs 1 = .ok (.getfield 12, 3) := by decide +kernel
theorem dX6_signs_4 : decode cX6_signs 4 = .ok (.invokevirtual 44, 3) := by decide +kernel
theorem dX6_signs_7 : decode cX6_signs 7 = .ok (.ireturn, 1) := by decide +kernel
def f_J5_length_8abf5_o149 (μ : mu_T)  : Option Int :=
  nm_ (μ 149 3) (fun v1 => some v1)
set_option maxHeartbeats 4000000 in
set_option maxRecDepth 100000 in
theorem c_J5_length_8abf5_o149 {G : gp_} {ad : Nat → Nat} (μ : mu_T)  (a : Int) (h : f_J5_length_8abf5_o149 μ  = some a) : mi_ yJ5_length_8abf5 cJ5_length_8abf5 1 (some .int) ({ frames := 0, cells := 0, slots := 0, locals := 0 } : Room) G 151 ad (ceX G ad) [.ref (ad 149)] μ a μ := by
  refine mi_in (own := "java/lang/AbstractStringBuilder") (lv := [(0, .ref (ad 149))]) (by decide) rfl rfl (Nat.le_of_ble_eq_true rfl) (fun X C E => ?_)
  unfold f_J5_length_8abf5_o149 at h
  refine xx_aload_n C 1 rfl 0 dJ5_length_8abf5_0 rfl rfl ?_
  refine xx_geti (fi := 3) (j := 3) C 4 rfl (by decide) (ceX_149 _ _ _) rfl in_J4 (by decide) rfl w_342 dJ5_length_8abf5_1 h (fun v1 h => ?_)
  exact xx_iretp C E rfl ⟨Nat.le_of_ble_eq_true rfl, Nat.le_of_ble_eq_true rfl⟩ dJ5_length_8abf5_4 h

def f_J4_length_8abf5_o149 (μ : mu_T)  : Option Int :=
  bd_ (f_J5_length_8abf5_o149 μ) (fun v1 => some v1)
set_option maxHeartbeats 4000000 in
set_option maxRecDepth 100000 in
theorem c_J4_length_8abf5_o149 {G : gp_} {ad : Nat → Nat} (μ : mu_T)  (a : Int) (h : f_J4_length_8abf5_o149 μ  = some a) : mi_ yJ4_length_8abf5 cJ4_length_8abf5 1 (some .int) ({ frames := 1, cells := 0, slots := 0, locals := 20 } : Room) G 151 ad (ceX G ad) [.ref (ad 149)] μ a μ := by
  refine mi_in (own := "java/lang/StringBuilder") (lv := [(0, .ref (ad 149))]) (by decide) rfl rfl (Nat.le_of_ble_eq_true rfl) (fun X C E => ?_)
  unfold f_J4_length_8abf5_o149 at h
  refine xx_aload_n C 1 rfl 0 dJ4_length_8abf5_0 rfl rfl ?_
  refine xx_cPip (As := []) (st := []) (o := 149) C 4 rfl (by decide) (ceX_149 _ _ _) rfl ca_J5_length_8abf5 cu_J5_length_8abf5 w_351 w_789 rfl ⟨Nat.le_of_ble_eq_true rfl, Nat.le_of_ble_eq_true rfl⟩ ⟨Nat.le_of_ble_eq_true rfl, Nat.le_of_ble_eq_true rfl⟩ (Nat.le_of_ble_eq_true rfl) dJ4_length_8abf5_1 (fun v1 e9 => c_J5_length_8abf5_o149 _ v1 e9) h (fun v1 h => ?_) rfl
  exact xx_iretp C E rfl ⟨Nat.le_of_ble_eq_true rfl, Nat.le_of_ble_eq_true rfl⟩ dJ4_length_8abf5_4 h

def f_J5_charAt_5068e_o149 (μ : mu_T) (a1 : Int) : Option Int :=
  nm_ (μ 149 1) (fun v1 => nm_ (μ 149 3) (fun v11 => nm_ (bl_ μ 150) (fun v15 => mn_ v11 (sr_ v15 v1) (fun v18 => bd_ (f_J0_checkIndex_df160 μ a1 v18) (fun u26 => eq_ v1 0
      (rb_ μ 150 a1 (fun v35 => rc_ (i2c_ (an_ v35 255))))
      (none))))))
set_option maxHeartbeats 4000000 in
set_option maxRecDepth 100000 in
theorem c_J5_charAt_5068e_o149 {G : gp_} {ad : Nat → Nat} (μ : mu_T) (a1 : Int) (a : Int) (h : f_J5_charAt_5068e_o149 μ a1 = some a) : mi_ yJ5_charAt_5068e cJ5_charAt_5068e 5 (some .char) ({ frames := 2, cells := 0, slots := 0, locals := 43 } : Room) G 151 ad (ceX G ad) [.ref (ad 149), .int (iI a1)] μ a μ := by
  refine mi_in (own := "java/lang/AbstractStringBuilder") (lv := [(0, .ref (ad 149)), (1, .int (iI a1))]) (by decide) rfl rfl (Nat.le_of_ble_eq_true rfl) (fun X C E => ?_)
  unfold f_J5_charAt_5068e_o149 at h
  refine xx_aload_n C 1 rfl 0 dJ5_charAt_5068e_0 rfl rfl ?_
  refine xx_geti (fi := 1) (j := 1) C 4 rfl (by decide) (ceX_149 _ _ _) rfl in_J4 (by decide) rfl w_340 dJ5_charAt_5068e_1 h (fun v1 h => ?_)
  refine xx_istore_n (lv1 := [(2, .int (iI v1)), (0, .ref (ad 149)), (1, .int (iI a1))]) C 5 rfl (by decide) dJ5_charAt_5068e_4 rfl rfl ?_
  refine xx_aload_n C 6 rfl 1 dJ5_charAt_5068e_5 rfl rfl ?_
  refine xx_getr (fi := 0) C 9 rfl (by decide) (ceX_149 _ _ _) rfl in_J4 (by decide) rfl w_339 dJ5_charAt_5068e_6 ?_
  refine xx_astore_n (lv1 := [(3, .ref (ad 150)), (2, .int (iI v1)), (0, .ref (ad 149)), (1, .int (iI a1))]) C 10 rfl (by decide) dJ5_charAt_5068e_9 rfl rfl ?_
  refine xx_aload_n C 11 rfl 2 dJ5_charAt_5068e_10 rfl rfl ?_
  refine xx_geti (fi := 3) (j := 3) C 14 rfl (by decide) (ceX_149 _ _ _) rfl in_J4 (by decide) rfl w_342 dJ5_charAt_5068e_11 h (fun v11 h => ?_)
  refine xx_aload_n C 15 rfl 0 dJ5_charAt_5068e_14 rfl rfl ?_
  refine xx_blen C 16 rfl (by decide) (fun row => ceX_150 _ _ row) dJ5_charAt_5068e_15 h (fun v15 h => ?_)
  refine xx_iload_n C 17 rfl 1 dJ5_charAt_5068e_16 rfl rfl ?_
  refine xx_ishr C 18 rfl dJ5_charAt_5068e_17 ?_
  refine xx_mmin C 21 rfl ⟨w_943, w_470, w_94, w_471⟩ ⟨Nat.le_of_ble_eq_true rfl, Nat.le_of_ble_eq_true rfl⟩ ⟨Nat.le_of_ble_eq_true rfl, Nat.le_of_ble_eq_true rfl⟩ dJ5_charAt_5068e_18 h (fun v18 h => ?_)
  refine xx_istore (lv1 := [(4, .int (iI v18)), (3, .ref (ad 150)), (2, .int (iI v1)), (0, .ref (ad 149)), (1, .int (iI a1))]) C 23 rfl (by decide) dJ5_charAt_5068e_21 rfl ?_
  refine xx_iload_n C 24 rfl 4 dJ5_charAt_5068e_23 rfl rfl ?_
  refine xx_iload C 26 rfl 0 dJ5_charAt_5068e_24 rfl ?_
  refine xx_cSvp (As := [.int (iI a1), .int (iI v18)]) (st := []) C 29 rfl  ca_J0_checkIndex_df160 cs_J0_checkIndex_df160 w_944 rfl ⟨Nat.le_of_ble_eq_true rfl, Nat.le_of_ble_eq_true rfl⟩ ⟨Nat.le_of_ble_eq_true rfl, Nat.le_of_ble_eq_true rfl⟩ (Nat.le_of_ble_eq_true rfl) dJ5_charAt_5068e_26 (fun u26 e9 => c_J0_checkIndex_df160 _ _ _ u26 e9) h (fun u26 h => ?_) rfl
  refine xx_iload_n C 30 rfl 2 dJ5_charAt_5068e_29 rfl rfl ?_
  refine xx_if_ne (tgt := 42) C 33 rfl dJ5_charAt_5068e_30 (by decide) h (fun h => ?_) (fun h => ?_)
  · refine xx_aload_n C 43 rfl 1 dJ5_charAt_5068e_42 rfl rfl ?_
    refine xx_iload_n C 44 rfl 4 dJ5_charAt_5068e_43 rfl rfl ?_
    exact nn_ h
  · refine xx_aload_n C 34 rfl 1 dJ5_charAt_5068e_33 rfl rfl ?_
    refine xx_iload_n C 35 rfl 4 dJ5_charAt_5068e_34 rfl rfl ?_
    refine xx_baload C 36 rfl (by decide) (fun row => ceX_150 _ _ row) dJ5_charAt_5068e_35 h (fun v35 h => ?_)
    refine xx_sipush C 39 rfl dJ5_charAt_5068e_36 (by decide) ?_
    refine xx_iand C 40 rfl dJ5_charAt_5068e_39 ?_
    refine xx_i2c C 41 rfl dJ5_charAt_5068e_40 ?_
    exact xx_cretp C E rfl ⟨Nat.le_of_ble_eq_true rfl, Nat.le_of_ble_eq_true rfl⟩ dJ5_charAt_5068e_41 h

def f_J4_charAt_5068e_o149 (μ : mu_T) (a1 : Int) : Option Int :=
  bd_ (f_J5_charAt_5068e_o149 μ a1) (fun v2 => rc_ v2)
set_option maxHeartbeats 4000000 in
set_option maxRecDepth 100000 in
theorem c_J4_charAt_5068e_o149 {G : gp_} {ad : Nat → Nat} (μ : mu_T) (a1 : Int) (a : Int) (h : f_J4_charAt_5068e_o149 μ a1 = some a) : mi_ yJ4_charAt_5068e cJ4_charAt_5068e 2 (some .char) ({ frames := 3, cells := 0, slots := 0, locals := 67 } : Room) G 151 ad (ceX G ad) [.ref (ad 149), .int (iI a1)] μ a μ := by
  refine mi_in (own := "java/lang/StringBuilder") (lv := [(0, .ref (ad 149)), (1, .int (iI a1))]) (by decide) rfl rfl (Nat.le_of_ble_eq_true rfl) (fun X C E => ?_)
  unfold f_J4_charAt_5068e_o149 at h
  refine xx_aload_n C 1 rfl 0 dJ4_charAt_5068e_0 rfl rfl ?_
  refine xx_iload_n C 2 rfl 1 dJ4_charAt_5068e_1 rfl rfl ?_
  refine xx_cPip (As := [.int (iI a1)]) (st := []) (o := 149) C 5 rfl (by decide) (ceX_149 _ _ _) rfl ca_J5_charAt_5068e cu_J5_charAt_5068e w_351 w_940 rfl ⟨Nat.le_of_ble_eq_true rfl, Nat.le_of_ble_eq_true rfl⟩ ⟨Nat.le_of_ble_eq_true rfl, Nat.le_of_ble_eq_true rfl⟩ (Nat.le_of_ble_eq_true rfl) dJ4_charAt_5068e_2 (fun v2 e9 => c_J5_charAt_5068e_o149 _ _ v2 e9) h (fun v2 h => ?_) rfl
  exact xx_cretp C E rfl ⟨Nat.le_of_ble_eq_true rfl, Nat.le_of_ble_eq_true rfl⟩ dJ4_charAt_5068e_5 h

def f_X5_signAt (μ : mu_T) (a1 : Int) : Option Int :=
  lt_ a1 0
      (some (-11))
      (bd_ (f_J4_length_8abf5_o149 μ) (fun v9 => lt_ a1 v9
      (bd_ (f_J4_charAt_5068e_o149 μ a1) (fun v20 => some v20))
      (some (-11))))
set_option maxHeartbeats 4000000 in
set_option maxRecDepth 100000 in
theorem c_X5_signAt {G : gp_} {ad : Nat → Nat} (μ : mu_T) (a1 : Int) (a : Int) (h : f_X5_signAt μ a1 = some a) : mi_ yX5_signAt cX5_signAt 2 (some .int) ({ frames := 4, cells := 0, slots := 0, locals := 88 } : Room) G 151 ad (ceX G ad) [.ref (ad 148), .int (iI a1)] μ a μ := by
  refine mi_in (own := "UrnHeap$Line") (lv := [(0, .ref (ad 148)), (1, .int (iI a1))]) (by decide) rfl rfl (Nat.le_of_ble_eq_true rfl) (fun X C E => ?_)
  unfold f_X5_signAt at h
  refine xx_iload_n C 1 rfl 1 dX5_signAt_0 rfl rfl ?_
  refine xx_if_lt (tgt := 26) C 4 rfl dX5_signAt_1 (by decide) h (fun h => ?_) (fun h => ?_)
  · refine xx_bipush C 28 rfl dX5_signAt_26 (by decide) ?_
    exact xx_iretp C E rfl ⟨Nat.le_of_ble_eq_true rfl, Nat.le_of_ble_eq_true rfl⟩ dX5_signAt_28 h
  · refine xx_iload_n C 5 rfl 1 dX5_signAt_4 rfl rfl ?_
    refine xx_aload_n C 6 rfl 0 dX5_signAt_5 rfl rfl ?_
    refine xx_getr (fi := 0) C 9 rfl (by decide) (ceX_148 _ _ _) rfl in_X5 (by decide) rfl w_393 dX5_signAt_6 ?_
    refine xx_cVip (As := []) (st := [.int (iI a1)]) (o := 149) C 12 rfl (by decide) (ceX_149 _ _ _) rfl rfl ca_J4_length_8abf5 cv_J4_length_8abf5 w_1058 rfl ⟨Nat.le_of_ble_eq_true rfl, Nat.le_of_ble_eq_true rfl⟩ ⟨Nat.le_of_ble_eq_true rfl, Nat.le_of_ble_eq_true rfl⟩ (Nat.le_of_ble_eq_true rfl) dX5_signAt_9 (fun v9 e9 => c_J4_length_8abf5_o149 _ v9 e9) h (fun v9 h => ?_) rfl
    refine xx_icmp_ge (tgt := 26) C 15 rfl dX5_signAt_12 (by decide) h (fun h => ?_) (fun h => ?_)
    · refine xx_bipush C 28 rfl dX5_signAt_26 (by decide) ?_
      exact xx_iretp C E rfl ⟨Nat.le_of_ble_eq_true rfl, Nat.le_of_ble_eq_true rfl⟩ dX5_signAt_28 h
    · refine xx_aload_n C 16 rfl 0 dX5_signAt_15 rfl rfl ?_
      refine xx_getr (fi := 0) C 19 rfl (by decide) (ceX_148 _ _ _) rfl in_X5 (by decide) rfl w_393 dX5_signAt_16 ?_
      refine xx_iload_n C 20 rfl 1 dX5_signAt_19 rfl rfl ?_
      refine xx_cVip (As := [.int (iI a1)]) (st := []) (o := 149) C 23 rfl (by decide) (ceX_149 _ _ _) rfl rfl ca_J4_charAt_5068e cv_J4_charAt_5068e w_1078 rfl ⟨Nat.le_of_ble_eq_true rfl, Nat.le_of_ble_eq_true rfl⟩ ⟨Nat.le_of_ble_eq_true rfl, Nat.le_of_ble_eq_true rfl⟩ (Nat.le_of_ble_eq_true rfl) dX5_signAt_20 (fun v20 e9 => c_J4_charAt_5068e_o149 _ _ v20 e9) h (fun v20 h => ?_) rfl
      refine xx_goto C 28 dX5_signAt_23 (by decide) ?_
      exact xx_iretp C E rfl ⟨Nat.le_of_ble_eq_true rfl, Nat.le_of_ble_eq_true rfl⟩ dX5_signAt_28 h

def f_J8_hugeLength_7cf53 (μ : mu_T) (a0 : Int) (a1 : Int) : Option Int :=
  nm_ ((a0 + a1)) (fun n3 => lt_ n3 0
      (none)
      (lt_ 2147483639 n3
      (some n3)
      (some 2147483639)))
set_option maxHeartbeats 4000000 in
set_option maxRecDepth 100000 in
theorem c_J8_hugeLength_7cf53 {G : gp_} {ad : Nat → Nat} (μ : mu_T) (a0 : Int) (a1 : Int) (a : Int) (h : f_J8_hugeLength_7cf53 μ a0 a1 = some a) : mi_ yJ8_hugeLength_7cf53 cJ8_hugeLength_7cf53 3 (some .int) ({ frames := 0, cells := 0, slots := 0, locals := 0 } : Room) G 151 ad (ceX G ad) [.int (iI a0), .int (iI a1)] μ a μ := by
  refine mi_in (own := "jdk/internal/util/ArraysSupport") (lv := [(0, .int (iI a0)), (1, .int (iI a1))]) (by decide) rfl rfl (Nat.le_of_ble_eq_true rfl) (fun X C E => ?_)
  unfold f_J8_hugeLength_7cf53 at h
  refine xx_iload_n C 1 rfl 0 dJ8_hugeLength_7cf53_0 rfl rfl ?_
  refine xx_iload_n C 2 rfl 1 dJ8_hugeLength_7cf53_1 rfl rfl ?_
  refine xx_iadd C 3 rfl dJ8_hugeLength_7cf53_2 ?_
  refine xx_nm C h (fun n3 h => ?_)
  refine xx_istore_n (lv1 := [(2, .int (iI n3)), (0, .int (iI a0)), (1, .int (iI a1))]) C 4 rfl (by decide) dJ8_hugeLength_7cf53_3 rfl rfl ?_
  refine xx_iload_n C 5 rfl 0 dJ8_hugeLength_7cf53_4 rfl rfl ?_
  refine xx_if_ge (tgt := 49) C 8 rfl dJ8_hugeLength_7cf53_5 (by decide) h (fun h => ?_) (fun h => ?_)
  · refine xx_iload_n C 50 rfl 0 dJ8_hugeLength_7cf53_49 rfl rfl ?_
    refine xx_ldci C 52 rfl (v := 2147483639) w_813 dJ8_hugeLength_7cf53_50 ?_
    refine xx_icmp_gt (tgt := 58) C 55 rfl dJ8_hugeLength_7cf53_52 (by decide) h (fun h => ?_) (fun h => ?_)
    · refine xx_iload_n C 59 rfl 0 dJ8_hugeLength_7cf53_58 rfl rfl ?_
      exact xx_iretp C E rfl ⟨Nat.le_of_ble_eq_true rfl, Nat.le_of_ble_eq_true rfl⟩ dJ8_hugeLength_7cf53_59 h
    · refine xx_ldci C 57 rfl (v := 2147483639) w_813 dJ8_hugeLength_7cf53_55 ?_
      exact xx_iretp C E rfl ⟨Nat.le_of_ble_eq_true rfl, Nat.le_of_ble_eq_true rfl⟩ dJ8_hugeLength_7cf53_57 h
  · exact nn_ h

def f_J8_newLength_cabcc (μ : mu_T) (a0 : Int) (a1 : Int) (a2 : Int) : Option Int :=
  mx_ a1 a2 (fun v3 => nm_ ((a0 + v3)) (fun n7 => lt_ 0 n7
      (lt_ 2147483639 n7
      (bd_ (f_J8_hugeLength_7cf53 μ a0 a1) (fun v23 => some v23))
      (some n7))
      (bd_ (f_J8_hugeLength_7cf53 μ a0 a1) (fun v23 => some v23))))
set_option maxHeartbeats 4000000 in
set_option maxRecDepth 100000 in
theorem c_J8_newLength_cabcc {G : gp_} {ad : Nat → Nat} (μ : mu_T) (a0 : Int) (a1 : Int) (a2 : Int) (a : Int) (h : f_J8_newLength_cabcc μ a0 a1 a2 = some a) : mi_ yJ8_newLength_cabcc cJ8_newLength_cabcc 4 (some .int) ({ frames := 1, cells := 0, slots := 0, locals := 22 } : Room) G 151 ad (ceX G ad) [.int (iI a0), .int (iI a1), .int (iI a2)] μ a μ := by
  refine mi_in (own := "jdk/internal/util/ArraysSupport") (lv := [(0, .int (iI a0)), (1, .int (iI a1)), (2, .int (iI a2))]) (by decide) rfl rfl (Nat.le_of_ble_eq_true rfl) (fun X C E => ?_)
  unfold f_J8_newLength_cabcc at h
  refine xx_iload_n C 1 rfl 0 dJ8_newLength_cabcc_0 rfl rfl ?_
  refine xx_iload_n C 2 rfl 1 dJ8_newLength_cabcc_1 rfl rfl ?_
  refine xx_iload_n C 3 rfl 2 dJ8_newLength_cabcc_2 rfl rfl ?_
  refine xx_mmax C 6 rfl ⟨w_810, w_811, w_94, w_812⟩ ⟨Nat.le_of_ble_eq_true rfl, Nat.le_of_ble_eq_true rfl⟩ ⟨Nat.le_of_ble_eq_true rfl, Nat.le_of_ble_eq_true rfl⟩ dJ8_newLength_cabcc_3 h (fun v3 h => ?_)
  refine xx_iadd C 7 rfl dJ8_newLength_cabcc_6 ?_
  refine xx_nm C h (fun n7 h => ?_)
  refine xx_istore_n (lv1 := [(3, .int (iI n7)), (0, .int (iI a0)), (1, .int (iI a1)), (2, .int (iI a2))]) C 8 rfl (by decide) dJ8_newLength_cabcc_7 rfl rfl ?_
  refine xx_iconst C 9 rfl dJ8_newLength_cabcc_8 ?_
  refine xx_iload_n C 10 rfl 0 dJ8_newLength_cabcc_9 rfl rfl ?_
  refine xx_icmp_ge (tgt := 21) C 13 rfl dJ8_newLength_cabcc_10 (by decide) h (fun h => ?_) (fun h => ?_)
  · refine xx_iload_n C 22 rfl 1 dJ8_newLength_cabcc_21 rfl rfl ?_
    refine xx_iload_n C 23 rfl 2 dJ8_newLength_cabcc_22 rfl rfl ?_
    refine xx_cSip (As := [.int (iI a0), .int (iI a1)]) (st := []) C 26 rfl  ca_J8_hugeLength_7cf53 cs_J8_hugeLength_7cf53 w_814 rfl ⟨Nat.le_of_ble_eq_true rfl, Nat.le_of_ble_eq_true rfl⟩ ⟨Nat.le_of_ble_eq_true rfl, Nat.le_of_ble_eq_true rfl⟩ (Nat.le_of_ble_eq_true rfl) dJ8_newLength_cabcc_23 (fun v23 e9 => c_J8_hugeLength_7cf53 _ _ _ v23 e9) h (fun v23 h => ?_) rfl
    exact xx_iretp C E rfl ⟨Nat.le_of_ble_eq_true rfl, Nat.le_of_ble_eq_true rfl⟩ dJ8_newLength_cabcc_26 h
  · refine xx_iload_n C 14 rfl 0 dJ8_newLength_cabcc_13 rfl rfl ?_
    refine xx_ldci C 16 rfl (v := 2147483639) w_813 dJ8_newLength_cabcc_14 ?_
    refine xx_icmp_gt (tgt := 21) C 19 rfl dJ8_newLength_cabcc_16 (by decide) h (fun h => ?_) (fun h => ?_)
    · refine xx_iload_n C 22 rfl 1 dJ8_newLength_cabcc_21 rfl rfl ?_
      refine xx_iload_n C 23 rfl 2 dJ8_newLength_cabcc_22 rfl rfl ?_
      refine xx_cSip (As := [.int (iI a0), .int (iI a1)]) (st := []) C 26 rfl  ca_J8_hugeLength_7cf53 cs_J8_hugeLength_7cf53 w_814 rfl ⟨Nat.le_of_ble_eq_true rfl, Nat.le_of_ble_eq_true rfl⟩ ⟨Nat.le_of_ble_eq_true rfl, Nat.le_of_ble_eq_true rfl⟩ (Nat.le_of_ble_eq_true rfl) dJ8_newLength_cabcc_23 (fun v23 e9 => c_J8_hugeLength_7cf53 _ _ _ v23 e9) h (fun v23 h => ?_) rfl
      exact xx_iretp C E rfl ⟨Nat.le_of_ble_eq_true rfl, Nat.le_of_ble_eq_true rfl⟩ dJ8_newLength_cabcc_26 h
    · refine xx_iload_n C 20 rfl 0 dJ8_newLength_cabcc_19 rfl rfl ?_
      exact xx_iretp C E rfl ⟨Nat.le_of_ble_eq_true rfl, Nat.le_of_ble_eq_true rfl⟩ dJ8_newLength_cabcc_20 h

def f_J5_newCapacity_0f7a4_o149 (μ : mu_T) (a1 : Int) : Option Int :=
  nm_ (bl_ μ 150) (fun v4 => nm_ (μ 149 1) (fun v8 => nm_ ((sl_ a1 v8)) (fun n12 => nm_ ((n12 - v4)) (fun n16 => nm_ (μ 149 1) (fun v24 => bd_ (f_J8_newLength_cabcc μ v4 n16 (v4 + (sl_ 2 v24))) (fun v29 => eq_ v29 2147483647
      (none)
      (nm_ (μ 149 1) (fun v54 => some (sr_ v29 v54)))))))))
set_option maxHeartbeats 4000000 in
set_option maxRecDepth 100000 in
theorem c_J5_newCapacity_0f7a4_o149 {G : gp_} {ad : Nat → Nat} (μ : mu_T) (a1 : Int) (a : Int) (h : f_J5_newCapacity_0f7a4_o149 μ a1 = some a) : mi_ yJ5_newCapacity_0f7a4 cJ5_newCapacity_0f7a4 6 (some .int) ({ frames := 2, cells := 0, slots := 0, locals := 45 } : Room) G 151 ad (ceX G ad) [.ref (ad 149), .int (iI a1)] μ a μ := by
  refine mi_in (own := "java/lang/AbstractStringBuilder") (lv := [(0, .ref (ad 149)), (1, .int (iI a1))]) (by decide) rfl rfl (Nat.le_of_ble_eq_true rfl) (fun X C E => ?_)
  unfold f_J5_newCapacity_0f7a4_o149 at h
  refine xx_aload_n C 1 rfl 0 dJ5_newCapacity_0f7a4_0 rfl rfl ?_
  refine xx_getr (fi := 0) C 4 rfl (by decide) (ceX_149 _ _ _) rfl in_J4 (by decide) rfl w_339 dJ5_newCapacity_0f7a4_1 ?_
  refine xx_blen C 5 rfl (by decide) (fun row => ceX_150 _ _ row) dJ5_newCapacity_0f7a4_4 h (fun v4 h => ?_)
  refine xx_istore_n (lv1 := [(2, .int (iI v4)), (0, .ref (ad 149)), (1, .int (iI a1))]) C 6 rfl (by decide) dJ5_newCapacity_0f7a4_5 rfl rfl ?_
  refine xx_iload_n C 7 rfl 2 dJ5_newCapacity_0f7a4_6 rfl rfl ?_
  refine xx_aload_n C 8 rfl 1 dJ5_newCapacity_0f7a4_7 rfl rfl ?_
  refine xx_geti (fi := 1) (j := 1) C 11 rfl (by decide) (ceX_149 _ _ _) rfl in_J4 (by decide) rfl w_340 dJ5_newCapacity_0f7a4_8 h (fun v8 h => ?_)
  refine xx_ishl C 12 rfl dJ5_newCapacity_0f7a4_11 ?_
  refine xx_nm C h (fun n12 h => ?_)
  refine xx_istore_n (lv1 := [(3, .int (iI n12)), (2, .int (iI v4)), (0, .ref (ad 149)), (1, .int (iI a1))]) C 13 rfl (by decide) dJ5_newCapacity_0f7a4_12 rfl rfl ?_
  refine xx_iload_n C 14 rfl 0 dJ5_newCapacity_0f7a4_13 rfl rfl ?_
  refine xx_iload_n C 15 rfl 1 dJ5_newCapacity_0f7a4_14 rfl rfl ?_
  refine xx_isub C 16 rfl dJ5_newCapacity_0f7a4_15 ?_
  refine xx_nm C h (fun n16 h => ?_)
  refine xx_istore (lv1 := [(4, .int (iI n16)), (3, .int (iI n12)), (2, .int (iI v4)), (0, .ref (ad 149)), (1, .int (iI a1))]) C 18 rfl (by decide) dJ5_newCapacity_0f7a4_16 rfl ?_
  refine xx_iload_n C 19 rfl 2 dJ5_newCapacity_0f7a4_18 rfl rfl ?_
  refine xx_iload C 21 rfl 0 dJ5_newCapacity_0f7a4_19 rfl ?_
  refine xx_iload_n C 22 rfl 2 dJ5_newCapacity_0f7a4_21 rfl rfl ?_
  refine xx_iconst C 23 rfl dJ5_newCapacity_0f7a4_22 ?_
  refine xx_aload_n C 24 rfl 3 dJ5_newCapacity_0f7a4_23 rfl rfl ?_
  refine xx_geti (fi := 1) (j := 1) C 27 rfl (by decide) (ceX_149 _ _ _) rfl in_J4 (by decide) rfl w_340 dJ5_newCapacity_0f7a4_24 h (fun v24 h => ?_)
  refine xx_ishl C 28 rfl dJ5_newCapacity_0f7a4_27 ?_
  refine xx_iadd C 29 rfl dJ5_newCapacity_0f7a4_28 ?_
  refine xx_cSip (As := [.int (iI v4), .int (iI n16), .int (iI (v4 + (sl_ 2 v24)))]) (st := []) C 32 rfl  ca_J8_newLength_cabcc cs_J8_newLength_cabcc w_807 rfl ⟨Nat.le_of_ble_eq_true rfl, Nat.le_of_ble_eq_true rfl⟩ ⟨Nat.le_of_ble_eq_true rfl, Nat.le_of_ble_eq_true rfl⟩ (Nat.le_of_ble_eq_true rfl) dJ5_newCapacity_0f7a4_29 (fun v29 e9 => c_J8_newLength_cabcc _ _ _ _ v29 e9) h (fun v29 h => ?_) rfl
  refine xx_istore (lv1 := [(5, .int (iI v29)), (4, .int (iI n16)), (3, .int (iI n12)), (2, .int (iI v4)), (0, .ref (ad 149)), (1, .int (iI a1))]) C 34 rfl (by decide) dJ5_newCapacity_0f7a4_32 rfl ?_
  refine xx_iload C 36 rfl 0 dJ5_newCapacity_0f7a4_34 rfl ?_
  refine xx_ldci C 38 rfl (v := 2147483647) w_817 dJ5_newCapacity_0f7a4_36 ?_
  refine xx_icmp_ne (tgt := 51) C 41 rfl dJ5_newCapacity_0f7a4_38 (by decide) h (fun h => ?_) (fun h => ?_)
  · refine xx_iload C 53 rfl 0 dJ5_newCapacity_0f7a4_51 rfl ?_
    refine xx_aload_n C 54 rfl 4 dJ5_newCapacity_0f7a4_53 rfl rfl ?_
    refine xx_geti (fi := 1) (j := 1) C 57 rfl (by decide) (ceX_149 _ _ _) rfl in_J4 (by decide) rfl w_340 dJ5_newCapacity_0f7a4_54 h (fun v54 h => ?_)
    refine xx_ishr C 58 rfl dJ5_newCapacity_0f7a4_57 ?_
    exact xx_iretp C E rfl ⟨Nat.le_of_ble_eq_true rfl, Nat.le_of_ble_eq_true rfl⟩ dJ5_newCapacity_0f7a4_58 h
  · exact nn_ h

def f_J5_ensureCapacityInternal_d00df_o149g (μ : mu_T) (a1 : Int) : Option mu_T :=
  nm_ (bl_ μ 150) (fun v4 => nm_ (μ 149 1) (fun v6 => nm_ ((sr_ v4 v6)) (fun n10 => lt_ 0 (a1 - n10)
      (bd_ (f_J5_newCapacity_0f7a4_o149 μ a1) (fun v24 => nm_ (μ 149 1) (fun v28 => gw_ μ 150 (sl_ v24 v28) (fun μ32 => some μ32))))
      (some μ))))
set_option maxHeartbeats 4000000 in
set_option maxRecDepth 100000 in
theorem c_J5_ensureCapacityInternal_d00df_o149g {G : gp_} {ad : Nat → Nat} (p q : Nat) (μ : mu_T) (a1 : Int) (μr : mu_T) (h : f_J5_ensureCapacityInternal_d00df_o149g μ a1 = some μr) : mgv_ yJ5_ensureCapacityInternal_d00df cJ5_ensureCapacityInternal_d00df 3 none ({ frames := 3, cells := 1, slots := 70, locals := 70 } : Room) G ad p q [.ref (ad 149), .int (iI a1)] μ μr := by
  refine mg_in (own := "java/lang/AbstractStringBuilder") (lv := [(0, .ref (ad 149)), (1, .int (iI a1))]) (by decide) rfl rfl (Nat.le_of_ble_eq_true rfl) (fun X C E => ?_)
  have hb : (0 + 0 ≤ 0 ∧ 0 + 0 ≤ 0) := ⟨Nat.le_refl _, Nat.le_refl _⟩
  unfold f_J5_ensureCapacityInternal_d00df_o149g at h
  refine xx_aload_n C 1 rfl 0 dJ5_ensureCapacityInternal_d00df_0 rfl rfl ?_
  refine xx_getr (fi := 0) C 4 rfl (by decide) (ceX_149 _ _ _) rfl in_J4 (by decide) rfl w_339 dJ5_ensureCapacityInternal_d00df_1 ?_
  refine xx_blen C 5 rfl (by decide) (fun row => ceX_150 _ _ row) dJ5_ensureCapacityInternal_d00df_4 h (fun v4 h => ?_)
  refine xx_aload_n C 6 rfl 0 dJ5_ensureCapacityInternal_d00df_5 rfl rfl ?_
  refine xx_geti (fi := 1) (j := 1) C 9 rfl (by decide) (ceX_149 _ _ _) rfl in_J4 (by decide) rfl w_340 dJ5_ensureCapacityInternal_d00df_6 h (fun v6 h => ?_)
  refine xx_ishr C 10 rfl dJ5_ensureCapacityInternal_d00df_9 ?_
  refine xx_nm C h (fun n10 h => ?_)
  refine xx_istore_n (lv1 := [(2, .int (iI n10)), (0, .ref (ad 149)), (1, .int (iI a1))]) C 11 rfl (by decide) dJ5_ensureCapacityInternal_d00df_10 rfl rfl ?_
  refine xx_iload_n C 12 rfl 2 dJ5_ensureCapacityInternal_d00df_11 rfl rfl ?_
  refine xx_iload_n C 13 rfl 0 dJ5_ensureCapacityInternal_d00df_12 rfl rfl ?_
  refine xx_isub C 14 rfl dJ5_ensureCapacityInternal_d00df_13 ?_
  refine xx_if_le (tgt := 38) C 17 rfl dJ5_ensureCapacityInternal_d00df_14 (by decide) h (fun h => ?_) (fun h => ?_)
  · exact xx_gvret C E rfl (gR_ hb (Nat.le_of_ble_eq_true rfl) (Nat.le_of_ble_eq_true rfl)) dJ5_ensureCapacityInternal_d00df_38 h
  · refine xx_aload_n C 18 rfl 1 dJ5_ensureCapacityInternal_d00df_17 rfl rfl ?_
    refine xx_aload_n C 19 rfl 1 dJ5_ensureCapacityInternal_d00df_18 rfl rfl ?_
    refine xx_getr (fi := 0) C 22 rfl (by decide) (ceX_149 _ _ _) rfl in_J4 (by decide) rfl w_339 dJ5_ensureCapacityInternal_d00df_19 ?_
    refine xx_aload_n C 23 rfl 1 dJ5_ensureCapacityInternal_d00df_22 rfl rfl ?_
    refine xx_iload_n C 24 rfl 2 dJ5_ensureCapacityInternal_d00df_23 rfl rfl ?_
    refine xx_cUip (As := [.int (iI a1)]) (st := [.ref (am_ ad p q 150), .ref (ad 149)]) (o := 149) C 27 rfl (by decide) (ceX_149 _ _ _) rfl ca_J5_newCapacity_0f7a4 cu_J5_newCapacity_0f7a4 se_J5_newCapacity_0f7a4 w_803 rfl ⟨Nat.le_of_ble_eq_true rfl, Nat.le_of_ble_eq_true rfl⟩ (gB_ hb (Nat.le_of_ble_eq_true rfl) (Nat.le_of_ble_eq_true rfl)) (Nat.le_of_ble_eq_true rfl) dJ5_ensureCapacityInternal_d00df_24 (fun v24 e9 => c_J5_newCapacity_0f7a4_o149 _ _ v24 e9) h (fun v24 h => ?_) rfl
    have hb := gN_ (c2 := 0) (s2 := 0) hb
    refine xx_aload_n C 28 rfl 1 dJ5_ensureCapacityInternal_d00df_27 rfl rfl ?_
    refine xx_geti (fi := 1) (j := 1) C 31 rfl (by decide) (ceX_149 _ _ _) rfl in_J4 (by decide) rfl w_340 dJ5_ensureCapacityInternal_d00df_28 h (fun v28 h => ?_)
    refine xx_ishl C 32 rfl dJ5_ensureCapacityInternal_d00df_31 ?_
    refine xx_grow149 C 38 rfl (gB_ hb (Nat.le_of_ble_eq_true rfl) (Nat.le_of_ble_eq_true rfl)) ⟨(Nat.le_of_ble_eq_true rfl), (Nat.le_of_ble_eq_true rfl)⟩ dJ5_ensureCapacityInternal_d00df_32 dJ5_ensureCapacityInternal_d00df_35 h (fun p q μ32 h => ?_)
    have hb := gN_ (c2 := 1) (s2 := 70) hb
    exact xx_gvret C E rfl (gR_ hb (Nat.le_of_ble_eq_true rfl) (Nat.le_of_ble_eq_true rfl)) dJ5_ensureCapacityInternal_d00df_38 h

def f_J5_isLatin1_aae02_o149 (μ : mu_T)  : Option Int :=
  eq_ 1 0
      (some 0)
      (nm_ (μ 149 1) (fun v7 => eq_ v7 0
      (some 1)
      (some 0)))
set_option maxHeartbeats 4000000 in
set_option maxRecDepth 100000 in
theorem c_J5_isLatin1_aae02_o149 {G : gp_} {ad : Nat → Nat} (μ : mu_T)  (a : Int) (h : f_J5_isLatin1_aae02_o149 μ  = some a) : mi_ yJ5_isLatin1_aae02 cJ5_isLatin1_aae02 1 (some .boolean) ({ frames := 0, cells := 0, slots := 0, locals := 0 } : Room) G 151 ad (ceX G ad) [.ref (ad 149)] μ a μ := by
  refine mi_in (own := "java/lang/AbstractStringBuilder") (lv := [(0, .ref (ad 149))]) (by decide) rfl rfl (Nat.le_of_ble_eq_true rfl) (fun X C E => ?_)
  unfold f_J5_isLatin1_aae02_o149 at h
  refine xx_gcs C 3 rfl w_330 dJ5_isLatin1_aae02_0 ?_
  refine xx_if_eq (tgt := 17) C 6 rfl dJ5_isLatin1_aae02_3 (by decide) h (fun h => ?_) (fun h => ?_)
  · refine xx_iconst C 18 rfl dJ5_isLatin1_aae02_17 ?_
    exact xx_zretl C E rfl rfl ⟨Nat.le_of_ble_eq_true rfl, Nat.le_of_ble_eq_true rfl⟩ dJ5_isLatin1_aae02_18 h
  · refine xx_aload_n C 7 rfl 0 dJ5_isLatin1_aae02_6 rfl rfl ?_
    refine xx_geti (fi := 1) (j := 1) C 10 rfl (by decide) (ceX_149 _ _ _) rfl in_J4 (by decide) rfl w_340 dJ5_isLatin1_aae02_7 h (fun v7 h => ?_)
    refine xx_if_ne (tgt := 17) C 13 rfl dJ5_isLatin1_aae02_10 (by decide) h (fun h => ?_) (fun h => ?_)
    · refine xx_iconst C 18 rfl dJ5_isLatin1_aae02_17 ?_
      exact xx_zretl C E rfl rfl ⟨Nat.le_of_ble_eq_true rfl, Nat.le_of_ble_eq_true rfl⟩ dJ5_isLatin1_aae02_18 h
    · refine xx_iconst C 14 rfl dJ5_isLatin1_aae02_13 ?_
      refine xx_goto C 18 dJ5_isLatin1_aae02_14 (by decide) ?_
      exact xx_zretl C E rfl rfl ⟨Nat.le_of_ble_eq_true rfl, Nat.le_of_ble_eq_true rfl⟩ dJ5_isLatin1_aae02_18 h

def f_J6_getChars_ba4f3_o150_L22 (J72 : Int → Int → mu_T → Option (Int × mu_T)) : Nat → Int → Int → mu_T → Option (Int × mu_T)
  | 0, _, _, _ => none
  | fu22 + 1, x0_22, x5_22, μ22 => lt_ (-100) x0_22
      (J72 x0_22 x5_22 μ22)
      (dv_ x0_22 100 (fun v31 => nm_ (((v31 * 100) - x0_22)) (fun n39 => nm_ (x5_22 + (-1)) (fun n44 => gd_ (0 ≤ n39 ∧ n39 < 100) (wb_ μ22 150 n44 (48 + n39 % 10) (fun μ55 => nm_ (n44 + (-1)) (fun n57 => gd_ (0 ≤ n39 ∧ n39 < 100) (wb_ μ55 150 n57 (48 + n39 / 10) (fun μ68 => (f_J6_getChars_ba4f3_o150_L22 J72 fu22) v31 n57 μ68)))))))))
def f_J6_getChars_ba4f3_o150 (μ : mu_T) (a0 : Int) (a1 : Int) : Option (Int × mu_T) :=
  jn_ (φ := Int → Option (Int × mu_T)) (fun s0_12 => jn_ (φ := Int → Option (Int × mu_T)) (fun x0_22 => jn_ (φ := Int → Int → mu_T → Option (Int × mu_T)) (fun x0_72 x5_72 μ72 => nm_ (x5_72 + (-1)) (fun n73 => gd_ (0 ≤ (-x0_72) ∧ (-x0_72) < 100) (wb_ μ72 150 n73 (48 + (-x0_72) % 10) (fun μ84 => jn_ (φ := Int → mu_T → Option (Int × mu_T)) (fun x5_104 μ104 => eq_ s0_12 0
      (some (x5_104, μ104))
      (nm_ (x5_104 + (-1)) (fun n110 => wb_ μ104 150 n110 45 (fun μ117 => some (n110, μ117)))))
      (fun J104 => lt_ x0_72 (-9)
      (nm_ (n73 + (-1)) (fun n92 => gd_ (0 ≤ (-x0_72) ∧ (-x0_72) < 100) (wb_ μ84 150 n92 (48 + (-x0_72) / 10) (fun μ103 => J104 n92 μ103))))
      (J104 n73 μ84))))))
      (fun J72 => f_J6_getChars_ba4f3_o150_L22 J72 20000 x0_22 a1 μ))
      (fun J22 => eq_ s0_12 0
      (nm_ ((-a0)) (fun n21 => J22 n21))
      (J22 a0)))
      (fun J12 => lt_ a0 0
      (J12 1)
      (J12 0))
set_option maxHeartbeats 4000000 in
set_option maxRecDepth 100000 in
theorem c_J6_getChars_ba4f3_o150 {G : gp_} {ad : Nat → Nat} (μ : mu_T) (a0 : Int) (a1 : Int) (a : Int) (μr : mu_T) (h : f_J6_getChars_ba4f3_o150 μ a0 a1 = some (a, μr)) : mi_ yJ6_getChars_ba4f3 cJ6_getChars_ba4f3 7 (some .int) ({ frames := 0, cells := 0, slots := 0, locals := 0 } : Room) G 151 ad (ceX G ad) [.int (iI a0), .int (iI a1), .ref (ad 150)] μ a μr := by
  refine mi_in (own := "java/lang/Integer") (lv := [(0, .int (iI a0)), (1, .int (iI a1)), (2, .ref (ad 150))]) (by decide) rfl rfl (Nat.le_of_ble_eq_true rfl) (fun X C E => ?_)
  unfold f_J6_getChars_ba4f3_o150 at h
  refine xx_iload_n C 1 rfl 1 dJ6_getChars_ba4f3_0 rfl rfl ?_
  refine xx_istore (lv1 := [(5, .int (iI a1)), (0, .int (iI a0)), (1, .int (iI a1)), (2, .ref (ad 150))]) C 3 rfl (by decide) dJ6_getChars_ba4f3_1 rfl ?_
  refine xx_iload_n C 4 rfl 1 dJ6_getChars_ba4f3_3 rfl rfl ?_
  refine jn_r (fun J => ∀ (s0_12 : Int), J s0_12 = some (a, μr) → wx_ G X 151 ad (ceX G ad) μ 0 0 12 [(0, .int (iI a0)), (2, .ref (ad 150)), (5, .int (iI a1))] [.int (iI s0_12)]) h (fun s0_12 h => ?_) (fun J12 K12 h => ?_)
  · refine xx_istore (lv1 := [(6, .int (iI s0_12)), (0, .int (iI a0)), (2, .ref (ad 150)), (5, .int (iI a1))]) C 14 rfl (by decide) dJ6_getChars_ba4f3_12 rfl ?_
    refine xx_iload C 16 rfl 0 dJ6_getChars_ba4f3_14 rfl ?_
    refine jn_r (fun J => ∀ (x0_22 : Int), J x0_22 = some (a, μr) → wx_ G X 151 ad (ceX G ad) μ 0 0 22 [(0, .int (iI x0_22)), (2, .ref (ad 150)), (5, .int (iI a1)), (6, .int (iI s0_12))] []) h (fun x0_22 h => ?_) (fun J22 K22 h => ?_)
    · refine jn_r (fun J => ∀ (x0_72 : Int) (x5_72 : Int) (μ72 : mu_T), J x0_72 x5_72 μ72 = some (a, μr) → wx_ G X 151 ad (ceX G ad) μ72 0 0 72 [(0, .int (iI x0_72)), (2, .ref (ad 150)), (5, .int (iI x5_72)), (6, .int (iI s0_12))] []) h (fun x0_72 x5_72 μ72 h => ?_) (fun J72 K72 h => ?_)
      · refine xx_aload_n C 73 rfl 1 dJ6_getChars_ba4f3_72 rfl rfl ?_
        refine xx_iincn C 76 rfl 2 (by decide) dJ6_getChars_ba4f3_73 rfl h (fun n73 h => ?_)
        refine xx_lv (lv1 := [(5, .int (iI n73)), (0, .int (iI x0_72)), (2, .ref (ad 150)), (6, .int (iI s0_12))]) rfl ?_
        refine xx_iload C 78 rfl 0 dJ6_getChars_ba4f3_76 rfl ?_
        refine xx_gd1 C 81 rfl w_1026 dJ6_getChars_ba4f3_78 ?_
        refine xx_iload_n C 82 rfl 1 dJ6_getChars_ba4f3_81 rfl rfl ?_
        refine xx_ineg C 83 rfl dJ6_getChars_ba4f3_82 ?_
        refine xx_d1ld C 84 rfl dJ6_getChars_ba4f3_83 h (fun h => ?_)
        refine xx_bastore C 85 rfl (by decide) (fun row => ceX_150 _ _ row) dJ6_getChars_ba4f3_84 h (fun μ84 h => ?_)
        refine xx_iload_n C 86 rfl 1 dJ6_getChars_ba4f3_85 rfl rfl ?_
        refine xx_bipush C 88 rfl dJ6_getChars_ba4f3_86 (by decide) ?_
        refine jn_r (fun J => ∀ (x5_104 : Int) (μ104 : mu_T), J x5_104 μ104 = some (a, μr) → wx_ G X 151 ad (ceX G ad) μ104 0 0 104 [(2, .ref (ad 150)), (5, .int (iI x5_104)), (6, .int (iI s0_12))] []) h (fun x5_104 μ104 h => ?_) (fun J104 K104 h => ?_)
        · refine xx_iload C 106 rfl 2 dJ6_getChars_ba4f3_104 rfl ?_
          refine xx_if_eq (tgt := 118) C 109 rfl dJ6_getChars_ba4f3_106 (by decide) h (fun h => ?_) (fun h => ?_)
          · refine xx_iload C 120 rfl 1 dJ6_getChars_ba4f3_118 rfl ?_
            exact xx_iret C E rfl ⟨Nat.le_of_ble_eq_true rfl, Nat.le_of_ble_eq_true rfl⟩ dJ6_getChars_ba4f3_120 h
          · refine xx_aload_n C 110 rfl 0 dJ6_getChars_ba4f3_109 rfl rfl ?_
            refine xx_iincn C 113 rfl 1 (by decide) dJ6_getChars_ba4f3_110 rfl h (fun n110 h => ?_)
            refine xx_lv (lv1 := [(5, .int (iI n110)), (2, .ref (ad 150)), (6, .int (iI s0_12))]) rfl ?_
            refine xx_iload C 115 rfl 0 dJ6_getChars_ba4f3_113 rfl ?_
            refine xx_bipush C 117 rfl dJ6_getChars_ba4f3_115 (by decide) ?_
            refine xx_bastore C 118 rfl (by decide) (fun row => ceX_150 _ _ row) dJ6_getChars_ba4f3_117 h (fun μ117 h => ?_)
            refine xx_iload C 120 rfl 0 dJ6_getChars_ba4f3_118 rfl ?_
            exact xx_iret C E rfl ⟨Nat.le_of_ble_eq_true rfl, Nat.le_of_ble_eq_true rfl⟩ dJ6_getChars_ba4f3_120 h
        · refine xx_icmp_ge (tgt := 104) C 91 rfl dJ6_getChars_ba4f3_88 (by decide) h (fun h => ?_) (fun h => ?_)
          · refine xx_sub [2, 0, 3] rfl ?_
            exact K104 n73 μ84 h
          · refine xx_aload_n C 92 rfl 2 dJ6_getChars_ba4f3_91 rfl rfl ?_
            refine xx_iincn C 95 rfl 0 (by decide) dJ6_getChars_ba4f3_92 rfl h (fun n92 h => ?_)
            refine xx_lv (lv1 := [(5, .int (iI n92)), (0, .int (iI x0_72)), (2, .ref (ad 150)), (6, .int (iI s0_12))]) rfl ?_
            refine xx_iload C 97 rfl 0 dJ6_getChars_ba4f3_95 rfl ?_
            refine xx_gd0 C 100 rfl w_1028 dJ6_getChars_ba4f3_97 ?_
            refine xx_iload_n C 101 rfl 1 dJ6_getChars_ba4f3_100 rfl rfl ?_
            refine xx_ineg C 102 rfl dJ6_getChars_ba4f3_101 ?_
            refine xx_d0ld C 103 rfl dJ6_getChars_ba4f3_102 h (fun h => ?_)
            refine xx_bastore C 104 rfl (by decide) (fun row => ceX_150 _ _ row) dJ6_getChars_ba4f3_103 h (fun μ103 h => ?_)
            refine xx_sub [2, 0, 3] rfl ?_
            exact K104 n92 μ103 h
      · have L22 : ∀ (fu22 : Nat) (x0_22 : Int) (x5_22 : Int) (μ22 : mu_T), f_J6_getChars_ba4f3_o150_L22 J72 fu22 x0_22 x5_22 μ22 = some (a, μr) → wx_ G X 151 ad (ceX G ad) μ22 0 0 22 [(0, .int (iI x0_22)), (2, .ref (ad 150)), (5, .int (iI x5_22)), (6, .int (iI s0_12))] [] := by
          intro fu22
          induction fu22 with
          | zero => intro x0_22 x5_22 μ22 h; exact nn_ h
          | succ fu22 K22 =>
            intro x0_22 x5_22 μ22 h
            rw [f_J6_getChars_ba4f3_o150_L22] at h
            generalize f_J6_getChars_ba4f3_o150_L22 J72 fu22 = R22 at K22 h
            refine xx_iload_n C 23 rfl 0 dJ6_getChars_ba4f3_22 rfl rfl ?_
            refine xx_bipush C 25 rfl dJ6_getChars_ba4f3_23 (by decide) ?_
            refine xx_icmp_gt (tgt := 72) C 28 rfl dJ6_getChars_ba4f3_25 (by decide) h (fun h => ?_) (fun h => ?_)
            · exact K72 x0_22 x5_22 μ22 h
            · refine xx_iload_n C 29 rfl 0 dJ6_getChars_ba4f3_28 rfl rfl ?_
              refine xx_bipush C 31 rfl dJ6_getChars_ba4f3_29 (by decide) ?_
              refine xx_idiv C 32 rfl dJ6_getChars_ba4f3_31 h (fun v31 h => ?_)
              refine xx_istore_n (lv1 := [(3, .int (iI v31)), (0, .int (iI x0_22)), (2, .ref (ad 150)), (5, .int (iI x5_22)), (6, .int (iI s0_12))]) C 33 rfl (by decide) dJ6_getChars_ba4f3_32 rfl rfl ?_
              refine xx_iload_n C 34 rfl 0 dJ6_getChars_ba4f3_33 rfl rfl ?_
              refine xx_bipush C 36 rfl dJ6_getChars_ba4f3_34 (by decide) ?_
              refine xx_imul C 37 rfl dJ6_getChars_ba4f3_36 ?_
              refine xx_iload_n C 38 rfl 1 dJ6_getChars_ba4f3_37 rfl rfl ?_
              refine xx_isub C 39 rfl dJ6_getChars_ba4f3_38 ?_
              refine xx_nm C h (fun n39 h => ?_)
              refine xx_istore (lv1 := [(4, .int (iI n39)), (3, .int (iI v31)), (0, .int (iI x0_22)), (2, .ref (ad 150)), (5, .int (iI x5_22)), (6, .int (iI s0_12))]) C 41 rfl (by decide) dJ6_getChars_ba4f3_39 rfl ?_
              refine xx_iload_n C 42 rfl 1 dJ6_getChars_ba4f3_41 rfl rfl ?_
              refine xx_istore_n (lv1 := [(0, .int (iI v31)), (4, .int (iI n39)), (3, .int (iI v31)), (2, .ref (ad 150)), (5, .int (iI x5_22)), (6, .int (iI s0_12))]) C 43 rfl (by decide) dJ6_getChars_ba4f3_42 rfl rfl ?_
              refine xx_aload_n C 44 rfl 3 dJ6_getChars_ba4f3_43 rfl rfl ?_
              refine xx_iincn C 47 rfl 4 (by decide) dJ6_getChars_ba4f3_44 rfl h (fun n44 h => ?_)
              refine xx_lv (lv1 := [(5, .int (iI n44)), (0, .int (iI v31)), (4, .int (iI n39)), (3, .int (iI v31)), (2, .ref (ad 150)), (6, .int (iI s0_12))]) rfl ?_
              refine xx_iload C 49 rfl 0 dJ6_getChars_ba4f3_47 rfl ?_
              refine xx_gd1 C 52 rfl w_1026 dJ6_getChars_ba4f3_49 ?_
              refine xx_iload C 54 rfl 2 dJ6_getChars_ba4f3_52 rfl ?_
              refine xx_d1ld C 55 rfl dJ6_getChars_ba4f3_54 h (fun h => ?_)
              refine xx_bastore C 56 rfl (by decide) (fun row => ceX_150 _ _ row) dJ6_getChars_ba4f3_55 h (fun μ55 h => ?_)
              refine xx_aload_n C 57 rfl 4 dJ6_getChars_ba4f3_56 rfl rfl ?_
              refine xx_iincn C 60 rfl 0 (by decide) dJ6_getChars_ba4f3_57 rfl h (fun n57 h => ?_)
              refine xx_lv (lv1 := [(5, .int (iI n57)), (0, .int (iI v31)), (4, .int (iI n39)), (3, .int (iI v31)), (2, .ref (ad 150)), (6, .int (iI s0_12))]) rfl ?_
              refine xx_iload C 62 rfl 0 dJ6_getChars_ba4f3_60 rfl ?_
              refine xx_gd0 C 65 rfl w_1028 dJ6_getChars_ba4f3_62 ?_
              refine xx_iload C 67 rfl 2 dJ6_getChars_ba4f3_65 rfl ?_
              refine xx_d0ld C 68 rfl dJ6_getChars_ba4f3_67 h (fun h => ?_)
              refine xx_bastore C 69 rfl (by decide) (fun row => ceX_150 _ _ row) dJ6_getChars_ba4f3_68 h (fun μ68 h => ?_)
              refine xx_goto C 22 dJ6_getChars_ba4f3_69 (by decide) ?_
              refine xx_sub [1, 4, 0, 5] rfl ?_
              exact K22 v31 n57 μ68 h
        exact L22 _ _ _ _ h
    · refine xx_if_ne (tgt := 22) C 19 rfl dJ6_getChars_ba4f3_16 (by decide) h (fun h => ?_) (fun h => ?_)
      · refine xx_sub [1, 2, 3, 0] rfl ?_
        exact K22 a0 h
      · refine xx_iload_n C 20 rfl 1 dJ6_getChars_ba4f3_19 rfl rfl ?_
        refine xx_ineg C 21 rfl dJ6_getChars_ba4f3_20 ?_
        refine xx_nm C h (fun n21 h => ?_)
        refine xx_istore_n (lv1 := [(0, .int (iI n21)), (6, .int (iI s0_12)), (2, .ref (ad 150)), (5, .int (iI a1))]) C 22 rfl (by decide) dJ6_getChars_ba4f3_21 rfl rfl ?_
        refine xx_sub [0, 2, 3, 1] rfl ?_
        exact K22 n21 h
  · refine xx_if_ge (tgt := 11) C 7 rfl dJ6_getChars_ba4f3_4 (by decide) h (fun h => ?_) (fun h => ?_)
    · refine xx_iconst C 12 rfl dJ6_getChars_ba4f3_11 ?_
      refine xx_sub [1, 3, 0] rfl ?_
      exact K12 0 h
    · refine xx_iconst C 8 rfl dJ6_getChars_ba4f3_7 ?_
      refine xx_goto C 12 dJ6_getChars_ba4f3_8 (by decide) ?_
      refine xx_sub [1, 3, 0] rfl ?_
      exact K12 1 h

def f_J5_append_c97b9_o149g (μ : mu_T) (a1 : Int) : Option mu_T :=
  nm_ (μ 149 3) (fun v1 => bd_ (f_J6_stringSize_0f7a4 μ a1) (fun v7 => nm_ ((v1 + v7)) (fun n11 => bd_ (f_J5_ensureCapacityInternal_d00df_o149g μ n11) (fun μ14 => bd_ (f_J5_isLatin1_aae02_o149 μ14) (fun v18 => jn_ (φ := mu_T → Option mu_T) (fun μ48 => wf_ μ48 149 3 n11 (fun μ50 => some μ50))
      (fun J48 => eq_ v18 0
      (none)
      (bp_ (f_J6_getChars_ba4f3_o150 μ14 a1 n11) (fun v30 μ30 => J48 μ30))))))))
set_option maxHeartbeats 4000000 in
set_option maxRecDepth 100000 in
theorem c_J5_append_c97b9_o149g {G : gp_} {ad : Nat → Nat} (p q : Nat) (μ : mu_T) (a1 : Int) (μr : mu_T) (h : f_J5_append_c97b9_o149g μ a1 = some μr) : mgr_ yJ5_append_c97b9 cJ5_append_c97b9 4 (some (Jvm.ClassFile.FieldType.object "java/lang/AbstractStringBuilder")) ({ frames := 4, cells := 1, slots := 70, locals := 92 } : Room) G ad p q [.ref (ad 149), .int (iI a1)] μ 149 μr := by
  refine mg_in (own := "java/lang/AbstractStringBuilder") (lv := [(0, .ref (ad 149)), (1, .int (iI a1))]) (by decide) rfl rfl (Nat.le_of_ble_eq_true rfl) (fun X C E => ?_)
  have hb : (0 + 0 ≤ 0 ∧ 0 + 0 ≤ 0) := ⟨Nat.le_refl _, Nat.le_refl _⟩
  unfold f_J5_append_c97b9_o149g at h
  refine xx_aload_n C 1 rfl 0 dJ5_append_c97b9_0 rfl rfl ?_
  refine xx_geti (fi := 3) (j := 3) C 4 rfl (by decide) (ceX_149 _ _ _) rfl in_J4 (by decide) rfl w_342 dJ5_append_c97b9_1 h (fun v1 h => ?_)
  refine xx_istore_n (lv1 := [(2, .int (iI v1)), (0, .ref (ad 149)), (1, .int (iI a1))]) C 5 rfl (by decide) dJ5_append_c97b9_4 rfl rfl ?_
  refine xx_iload_n C 6 rfl 0 dJ5_append_c97b9_5 rfl rfl ?_
  refine xx_iload_n C 7 rfl 2 dJ5_append_c97b9_6 rfl rfl ?_
  refine xx_cSip (As := [.int (iI a1)]) (st := [.int (iI v1)]) C 10 rfl  ca_J6_stringSize_0f7a4 cs_J6_stringSize_0f7a4 w_1020 rfl ⟨Nat.le_of_ble_eq_true rfl, Nat.le_of_ble_eq_true rfl⟩ (gB_ hb (Nat.le_of_ble_eq_true rfl) (Nat.le_of_ble_eq_true rfl)) (Nat.le_of_ble_eq_true rfl) dJ5_append_c97b9_7 (fun v7 e9 => c_J6_stringSize_0f7a4 _ _ v7 e9) h (fun v7 h => ?_) rfl
  have hb := gN_ (c2 := 0) (s2 := 0) hb
  refine xx_iadd C 11 rfl dJ5_append_c97b9_10 ?_
  refine xx_nm C h (fun n11 h => ?_)
  refine xx_istore_n (lv1 := [(3, .int (iI n11)), (2, .int (iI v1)), (0, .ref (ad 149)), (1, .int (iI a1))]) C 12 rfl (by decide) dJ5_append_c97b9_11 rfl rfl ?_
  refine xx_aload_n C 13 rfl 2 dJ5_append_c97b9_12 rfl rfl ?_
  refine xx_iload_n C 14 rfl 0 dJ5_append_c97b9_13 rfl rfl ?_
  refine xx_gUv (As := [.int (iI n11)]) (st := []) (o := 149) C 17 rfl (by decide) (ceX_149 _ _ _) rfl ca_J5_ensureCapacityInternal_d00df cu_J5_ensureCapacityInternal_d00df se_J5_ensureCapacityInternal_d00df w_799 rfl ⟨Nat.le_of_ble_eq_true rfl, Nat.le_of_ble_eq_true rfl⟩ (gB_ hb (Nat.le_of_ble_eq_true rfl) (Nat.le_of_ble_eq_true rfl)) (Nat.le_of_ble_eq_true rfl) dJ5_append_c97b9_14 (fun μ14 e9 => c_J5_ensureCapacityInternal_d00df_o149g p q _ _ μ14 e9) h (fun p q μ14 h => ?_) rfl
  have hb := gN_ (c2 := 1) (s2 := 70) hb
  refine xx_aload_n C 18 rfl 2 dJ5_append_c97b9_17 rfl rfl ?_
  refine xx_cUip (As := []) (st := []) (o := 149) C 21 rfl (by decide) (ceX_149 _ _ _) rfl ca_J5_isLatin1_aae02 cu_J5_isLatin1_aae02 se_J5_isLatin1_aae02 w_830 rfl ⟨Nat.le_of_ble_eq_true rfl, Nat.le_of_ble_eq_true rfl⟩ (gB_ hb (Nat.le_of_ble_eq_true rfl) (Nat.le_of_ble_eq_true rfl)) (Nat.le_of_ble_eq_true rfl) dJ5_append_c97b9_18 (fun v18 e9 => c_J5_isLatin1_aae02_o149 _ v18 e9) h (fun v18 h => ?_) rfl
  have hb := gN_ (c2 := 0) (s2 := 0) hb
  refine jn_r (fun J => ∀ (p q k n : Nat), (k + 0 ≤ 1 ∧ n + 0 ≤ 70) → ∀ (μ48 : mu_T), J μ48 = some μr → wx_ G X 151 (am_ ad p q) (ceX G (am_ ad p q)) μ48 k n 48 [(0, .ref (ad 149)), (3, .int (iI n11))] []) h (fun p q k n hb μ48 h => ?_) (fun J48 K48 h => ?_)
  · refine xx_aload_n C 49 rfl 0 dJ5_append_c97b9_48 rfl rfl ?_
    refine xx_iload_n C 50 rfl 1 dJ5_append_c97b9_49 rfl rfl ?_
    refine xx_puti (fi := 3) (j := 3) C 53 rfl (by decide) (ceX_149 _ _ _) (puX_149_3 _ _ _ _) rfl in_J4 tyJ4 tyJ4_ok nmJ4 (by decide) (Nat.le_of_ble_eq_true rfl) ⟨rfl, rfl⟩ w_342 dJ5_append_c97b9_50 h (fun μ50 h => ?_)
    refine xx_aload_n C 54 rfl 0 dJ5_append_c97b9_53 rfl rfl ?_
    exact xx_garet C E rfl (gR_ hb (Nat.le_of_ble_eq_true rfl) (Nat.le_of_ble_eq_true rfl)) dJ5_append_c97b9_54 h
  · refine xx_if_eq (tgt := 37) C 24 rfl dJ5_append_c97b9_21 (by decide) h (fun h => ?_) (fun h => ?_)
    · refine xx_iload_n C 38 rfl 3 dJ5_append_c97b9_37 rfl rfl ?_
      refine xx_iload_n C 39 rfl 1 dJ5_append_c97b9_38 rfl rfl ?_
      refine xx_iload_n C 40 rfl 0 dJ5_append_c97b9_39 rfl rfl ?_
      refine xx_aload_n C 41 rfl 2 dJ5_append_c97b9_40 rfl rfl ?_
      refine xx_getr (fi := 0) C 44 rfl (by decide) (ceX_149 _ _ _) rfl in_J4 (by decide) rfl w_339 dJ5_append_c97b9_41 ?_
      exact nn_ h
    · refine xx_iload_n C 25 rfl 3 dJ5_append_c97b9_24 rfl rfl ?_
      refine xx_iload_n C 26 rfl 0 dJ5_append_c97b9_25 rfl rfl ?_
      refine xx_aload_n C 27 rfl 2 dJ5_append_c97b9_26 rfl rfl ?_
      refine xx_getr (fi := 0) C 30 rfl (by decide) (ceX_149 _ _ _) rfl in_J4 (by decide) rfl w_339 dJ5_append_c97b9_27 ?_
      refine xx_cSi (As := [.int (iI a1), .int (iI n11), .ref (am_ ad p q 150)]) (st := []) C 33 rfl  ca_J6_getChars_ba4f3 cs_J6_getChars_ba4f3 w_1023 rfl ⟨Nat.le_of_ble_eq_true rfl, Nat.le_of_ble_eq_true rfl⟩ (gB_ hb (Nat.le_of_ble_eq_true rfl) (Nat.le_of_ble_eq_true rfl)) (Nat.le_of_ble_eq_true rfl) dJ5_append_c97b9_30 (fun v30 μ30 e9 => c_J6_getChars_ba4f3_o150 _ _ _ v30 μ30 e9) h (fun v30 μ30 h => ?_) rfl
      have hb := gN_ (c2 := 0) (s2 := 0) hb
      refine xx_pop C 34 rfl dJ5_append_c97b9_33 rfl ?_
      refine xx_goto C 48 dJ5_append_c97b9_34 (by decide) ?_
      refine xx_sub [2, 0] rfl ?_
      exact K48 p q _ _ (gW_ hb (Nat.le_of_ble_eq_true rfl) (Nat.le_of_ble_eq_true rfl)) μ30 h

def f_J4_append_bf812_o149g (μ : mu_T) (a1 : Int) : Option mu_T :=
  bd_ (f_J5_append_c97b9_o149g μ a1) (fun μ2 => some μ2)
set_option maxHeartbeats 4000000 in
set_option maxRecDepth 100000 in
theorem c_J4_append_bf812_o149g {G : gp_} {ad : Nat → Nat} (p q : Nat) (μ : mu_T) (a1 : Int) (μr : mu_T) (h : f_J4_append_bf812_o149g μ a1 = some μr) : mgr_ yJ4_append_bf812 cJ4_append_bf812 2 (some (Jvm.ClassFile.FieldType.object "java/lang/StringBuilder")) ({ frames := 5, cells := 1, slots := 70, locals := 115 } : Room) G ad p q [.ref (ad 149), .int (iI a1)] μ 149 μr := by
  refine mg_in (own := "java/lang/StringBuilder") (lv := [(0, .ref (ad 149)), (1, .int (iI a1))]) (by decide) rfl rfl (Nat.le_of_ble_eq_true rfl) (fun X C E => ?_)
  have hb : (0 + 0 ≤ 0 ∧ 0 + 0 ≤ 0) := ⟨Nat.le_refl _, Nat.le_refl _⟩
  unfold f_J4_append_bf812_o149g at h
  refine xx_aload_n C 1 rfl 0 dJ4_append_bf812_0 rfl rfl ?_
  refine xx_iload_n C 2 rfl 1 dJ4_append_bf812_1 rfl rfl ?_
  refine xx_gPr (As := [.int (iI a1)]) (st := []) (o := 149) C 5 rfl (by decide) (ceX_149 _ _ _) rfl ca_J5_append_c97b9 cu_J5_append_c97b9 w_351 w_1017 rfl ⟨Nat.le_of_ble_eq_true rfl, Nat.le_of_ble_eq_true rfl⟩ (gB_ hb (Nat.le_of_ble_eq_true rfl) (Nat.le_of_ble_eq_true rfl)) (Nat.le_of_ble_eq_true rfl) dJ4_append_bf812_2 (fun μ2 e9 => c_J5_append_c97b9_o149g p q _ _ μ2 e9) h (fun p q μ2 h => ?_) rfl
  have hb := gN_ (c2 := 1) (s2 := 70) hb
  refine xx_pop C 6 rfl dJ4_append_bf812_5 rfl ?_
  refine xx_aload_n C 7 rfl 0 dJ4_append_bf812_6 rfl rfl ?_
  exact xx_garet C E rfl (gR_ hb (Nat.le_of_ble_eq_true rfl) (Nat.le_of_ble_eq_true rfl)) dJ4_append_bf812_7 h

def f_J5_append_3fe6f_o149g (μ : mu_T) (a1 : Int) : Option mu_T :=
  nm_ (μ 149 3) (fun v2 => bd_ (f_J5_ensureCapacityInternal_d00df_o149g μ (v2 + 1)) (fun μ7 => bd_ (f_J5_isLatin1_aae02_o149 μ7) (fun v11 => jn_ (φ := Unit → Option mu_T) (fun _ => bd_ (f_J5_isLatin1_aae02_o149 μ7) (fun v46 => jn_ (φ := Unit → Option mu_T) (fun _ => nm_ (μ7 149 3) (fun v62 => wf_ μ7 149 3 (v62 + 1) (fun μ68 => none)))
      (fun J56 => eq_ v46 0
      (J56 ())
      (none))))
      (fun J45 => eq_ v11 0
      (J45 ())
      (bd_ (f_J1_canEncode_fc78d μ7 a1) (fun v18 => eq_ v18 0
      (J45 ())
      (nm_ (μ7 149 3) (fun v30 => wf_ μ7 149 3 (v30 + 1) (fun μ36 => wb_ μ36 150 v30 (i2b_ a1) (fun μ41 => some μ41))))))))))
set_option maxHeartbeats 4000000 in
set_option maxRecDepth 100000 in
theorem c_J5_append_3fe6f_o149g {G : gp_} {ad : Nat → Nat} (p q : Nat) (μ : mu_T) (a1 : Int) (μr : mu_T) (h : f_J5_append_3fe6f_o149g μ a1 = some μr) : mgr_ yJ5_append_3fe6f cJ5_append_3fe6f 2 (some (Jvm.ClassFile.FieldType.object "java/lang/AbstractStringBuilder")) ({ frames := 4, cells := 1, slots := 70, locals := 92 } : Room) G ad p q [.ref (ad 149), .int (iI a1)] μ 149 μr := by
  refine mg_in (own := "java/lang/AbstractStringBuilder") (lv := [(0, .ref (ad 149)), (1, .int (iI a1))]) (by decide) rfl rfl (Nat.le_of_ble_eq_true rfl) (fun X C E => ?_)
  have hb : (0 + 0 ≤ 0 ∧ 0 + 0 ≤ 0) := ⟨Nat.le_refl _, Nat.le_refl _⟩
  unfold f_J5_append_3fe6f_o149g at h
  refine xx_aload_n C 1 rfl 0 dJ5_append_3fe6f_0 rfl rfl ?_
  refine xx_aload_n C 2 rfl 0 dJ5_append_3fe6f_1 rfl rfl ?_
  refine xx_geti (fi := 3) (j := 3) C 5 rfl (by decide) (ceX_149 _ _ _) rfl in_J4 (by decide) rfl w_342 dJ5_append_3fe6f_2 h (fun v2 h => ?_)
  refine xx_iconst C 6 rfl dJ5_append_3fe6f_5 ?_
  refine xx_iadd C 7 rfl dJ5_append_3fe6f_6 ?_
  refine xx_gUv (As := [.int (iI (v2 + 1))]) (st := []) (o := 149) C 10 rfl (by decide) (ceX_149 _ _ _) rfl ca_J5_ensureCapacityInternal_d00df cu_J5_ensureCapacityInternal_d00df se_J5_ensureCapacityInternal_d00df w_799 rfl ⟨Nat.le_of_ble_eq_true rfl, Nat.le_of_ble_eq_true rfl⟩ (gB_ hb (Nat.le_of_ble_eq_true rfl) (Nat.le_of_ble_eq_true rfl)) (Nat.le_of_ble_eq_true rfl) dJ5_append_3fe6f_7 (fun μ7 e9 => c_J5_ensureCapacityInternal_d00df_o149g p q _ _ μ7 e9) h (fun p q μ7 h => ?_) rfl
  have hb := gN_ (c2 := 1) (s2 := 70) hb
  refine xx_aload_n C 11 rfl 0 dJ5_append_3fe6f_10 rfl rfl ?_
  refine xx_cUip (As := []) (st := []) (o := 149) C 14 rfl (by decide) (ceX_149 _ _ _) rfl ca_J5_isLatin1_aae02 cu_J5_isLatin1_aae02 se_J5_isLatin1_aae02 w_830 rfl ⟨Nat.le_of_ble_eq_true rfl, Nat.le_of_ble_eq_true rfl⟩ (gB_ hb (Nat.le_of_ble_eq_true rfl) (Nat.le_of_ble_eq_true rfl)) (Nat.le_of_ble_eq_true rfl) dJ5_append_3fe6f_11 (fun v11 e9 => c_J5_isLatin1_aae02_o149 _ v11 e9) h (fun v11 h => ?_) rfl
  have hb := gN_ (c2 := 0) (s2 := 0) hb
  refine jn_r (fun J => ∀ (p q k n : Nat), (k + 0 ≤ 1 ∧ n + 0 ≤ 70) → ∀ (_u : Unit), J _u = some μr → wx_ G X 151 (am_ ad p q) (ceX G (am_ ad p q)) μ7 k n 45 [(0, .ref (ad 149)), (1, .int (iI a1))] []) h (fun p q k n hb _ h => ?_) (fun J45 K45 h => ?_)
  · refine xx_aload_n C 46 rfl 0 dJ5_append_3fe6f_45 rfl rfl ?_
    refine xx_cUip (As := []) (st := []) (o := 149) C 49 rfl (by decide) (ceX_149 _ _ _) rfl ca_J5_isLatin1_aae02 cu_J5_isLatin1_aae02 se_J5_isLatin1_aae02 w_830 rfl ⟨Nat.le_of_ble_eq_true rfl, Nat.le_of_ble_eq_true rfl⟩ (gB_ hb (Nat.le_of_ble_eq_true rfl) (Nat.le_of_ble_eq_true rfl)) (Nat.le_of_ble_eq_true rfl) dJ5_append_3fe6f_46 (fun v46 e9 => c_J5_isLatin1_aae02_o149 _ v46 e9) h (fun v46 h => ?_) rfl
    have hb := gN_ (c2 := 0) (s2 := 0) hb
    refine jn_r (fun J => ∀ (p q k n : Nat), (k + 0 ≤ 1 ∧ n + 0 ≤ 70) → ∀ (_u : Unit), J _u = some μr → wx_ G X 151 (am_ ad p q) (ceX G (am_ ad p q)) μ7 k n 56 [(0, .ref (ad 149)), (1, .int (iI a1))] []) h (fun p q k n hb _ h => ?_) (fun J56 K56 h => ?_)
    · refine xx_aload_n C 57 rfl 0 dJ5_append_3fe6f_56 rfl rfl ?_
      refine xx_getr (fi := 0) C 60 rfl (by decide) (ceX_149 _ _ _) rfl in_J4 (by decide) rfl w_339 dJ5_append_3fe6f_57 ?_
      refine xx_aload_n C 61 rfl 0 dJ5_append_3fe6f_60 rfl rfl ?_
      refine xx_dup C 62 rfl dJ5_append_3fe6f_61 rfl ?_
      refine xx_geti (fi := 3) (j := 3) C 65 rfl (by decide) (ceX_149 _ _ _) rfl in_J4 (by decide) rfl w_342 dJ5_append_3fe6f_62 h (fun v62 h => ?_)
      refine xx_dup_x1 C 66 rfl dJ5_append_3fe6f_65 rfl rfl ?_
      refine xx_iconst C 67 rfl dJ5_append_3fe6f_66 ?_
      refine xx_iadd C 68 rfl dJ5_append_3fe6f_67 ?_
      refine xx_puti (fi := 3) (j := 3) C 71 rfl (by decide) (ceX_149 _ _ _) (puX_149_3 _ _ _ _) rfl in_J4 tyJ4 tyJ4_ok nmJ4 (by decide) (Nat.le_of_ble_eq_true rfl) ⟨rfl, rfl⟩ w_342 dJ5_append_3fe6f_68 h (fun μ68 h => ?_)
      refine xx_iload_n C 72 rfl 1 dJ5_append_3fe6f_71 rfl rfl ?_
      exact nn_ h
    · refine xx_if_eq (tgt := 56) C 52 rfl dJ5_append_3fe6f_49 (by decide) h (fun h => ?_) (fun h => ?_)
      · exact K56 p q _ _ (gW_ hb (Nat.le_of_ble_eq_true rfl) (Nat.le_of_ble_eq_true rfl)) () h
      · refine xx_aload_n C 53 rfl 0 dJ5_append_3fe6f_52 rfl rfl ?_
        exact nn_ h
  · refine xx_if_eq (tgt := 45) C 17 rfl dJ5_append_3fe6f_14 (by decide) h (fun h => ?_) (fun h => ?_)
    · exact K45 p q _ _ (gW_ hb (Nat.le_of_ble_eq_true rfl) (Nat.le_of_ble_eq_true rfl)) () h
    · refine xx_iload_n C 18 rfl 1 dJ5_append_3fe6f_17 rfl rfl ?_
      refine xx_cSip (As := [.int (iI a1)]) (st := []) C 21 rfl  ca_J1_canEncode_fc78d cs_J1_canEncode_fc78d w_835 rfl ⟨Nat.le_of_ble_eq_true rfl, Nat.le_of_ble_eq_true rfl⟩ (gB_ hb (Nat.le_of_ble_eq_true rfl) (Nat.le_of_ble_eq_true rfl)) (Nat.le_of_ble_eq_true rfl) dJ5_append_3fe6f_18 (fun v18 e9 => c_J1_canEncode_fc78d _ _ v18 e9) h (fun v18 h => ?_) rfl
      have hb := gN_ (c2 := 0) (s2 := 0) hb
      refine xx_if_eq (tgt := 45) C 24 rfl dJ5_append_3fe6f_21 (by decide) h (fun h => ?_) (fun h => ?_)
      · exact K45 p q _ _ (gW_ hb (Nat.le_of_ble_eq_true rfl) (Nat.le_of_ble_eq_true rfl)) () h
      · refine xx_aload_n C 25 rfl 0 dJ5_append_3fe6f_24 rfl rfl ?_
        refine xx_getr (fi := 0) C 28 rfl (by decide) (ceX_149 _ _ _) rfl in_J4 (by decide) rfl w_339 dJ5_append_3fe6f_25 ?_
        refine xx_aload_n C 29 rfl 0 dJ5_append_3fe6f_28 rfl rfl ?_
        refine xx_dup C 30 rfl dJ5_append_3fe6f_29 rfl ?_
        refine xx_geti (fi := 3) (j := 3) C 33 rfl (by decide) (ceX_149 _ _ _) rfl in_J4 (by decide) rfl w_342 dJ5_append_3fe6f_30 h (fun v30 h => ?_)
        refine xx_dup_x1 C 34 rfl dJ5_append_3fe6f_33 rfl rfl ?_
        refine xx_iconst C 35 rfl dJ5_append_3fe6f_34 ?_
        refine xx_iadd C 36 rfl dJ5_append_3fe6f_35 ?_
        refine xx_puti (fi := 3) (j := 3) C 39 rfl (by decide) (ceX_149 _ _ _) (puX_149_3 _ _ _ _) rfl in_J4 tyJ4 tyJ4_ok nmJ4 (by decide) (Nat.le_of_ble_eq_true rfl) ⟨rfl, rfl⟩ w_342 dJ5_append_3fe6f_36 h (fun μ36 h => ?_)
        refine xx_iload_n C 40 rfl 1 dJ5_append_3fe6f_39 rfl rfl ?_
        refine xx_i2b C 41 rfl dJ5_append_3fe6f_40 ?_
        refine xx_bastore C 42 rfl (by decide) (fun row => ceX_150 _ _ row) dJ5_append_3fe6f_41 h (fun μ41 h => ?_)
        refine xx_goto C 75 dJ5_append_3fe6f_42 (by decide) ?_
        refine xx_aload_n C 76 rfl 0 dJ5_append_3fe6f_75 rfl rfl ?_
        exact xx_garet C E rfl (gR_ hb (Nat.le_of_ble_eq_true rfl) (Nat.le_of_ble_eq_true rfl)) dJ5_append_3fe6f_76 h

def f_J4_append_cf468_o149g (μ : mu_T) (a1 : Int) : Option mu_T :=
  bd_ (f_J5_append_3fe6f_o149g μ a1) (fun μ2 => some μ2)
set_option maxHeartbeats 4000000 in
set_option maxRecDepth 100000 in
theorem c_J4_append_cf468_o149g {G : gp_} {ad : Nat → Nat} (p q : Nat) (μ : mu_T) (a1 : Int) (μr : mu_T) (h : f_J4_append_cf468_o149g μ a1 = some μr) : mgr_ yJ4_append_cf468 cJ4_append_cf468 2 (some (Jvm.ClassFile.FieldType.object "java/lang/StringBuilder")) ({ frames := 5, cells := 1, slots := 70, locals := 113 } : Room) G ad p q [.ref (ad 149), .int (iI a1)] μ 149 μr := by
  refine mg_in (own := "java/lang/StringBuilder") (lv := [(0, .ref (ad 149)), (1, .int (iI a1))]) (by decide) rfl rfl (Nat.le_of_ble_eq_true rfl) (fun X C E => ?_)
  have hb : (0 + 0 ≤ 0 ∧ 0 + 0 ≤ 0) := ⟨Nat.le_refl _, Nat.le_refl _⟩
  unfold f_J4_append_cf468_o149g at h
  refine xx_aload_n C 1 rfl 0 dJ4_append_cf468_0 rfl rfl ?_
  refine xx_iload_n C 2 rfl 1 dJ4_append_cf468_1 rfl rfl ?_
  refine xx_gPr (As := [.int (iI a1)]) (st := []) (o := 149) C 5 rfl (by decide) (ceX_149 _ _ _) rfl ca_J5_append_3fe6f cu_J5_append_3fe6f w_351 w_796 rfl ⟨Nat.le_of_ble_eq_true rfl, Nat.le_of_ble_eq_true rfl⟩ (gB_ hb (Nat.le_of_ble_eq_true rfl) (Nat.le_of_ble_eq_true rfl)) (Nat.le_of_ble_eq_true rfl) dJ4_append_cf468_2 (fun μ2 e9 => c_J5_append_3fe6f_o149g p q _ _ μ2 e9) h (fun p q μ2 h => ?_) rfl
  have hb := gN_ (c2 := 1) (s2 := 70) hb
  refine xx_pop C 6 rfl dJ4_append_cf468_5 rfl ?_
  refine xx_aload_n C 7 rfl 0 dJ4_append_cf468_6 rfl rfl ?_
  exact xx_garet C E rfl (gR_ hb (Nat.le_of_ble_eq_true rfl) (Nat.le_of_ble_eq_true rfl)) dJ4_append_cf468_7 h

def f_X5_writeTargetg (μ : mu_T) (a1 : Int) : Option mu_T :=
  eq_ a1 (-15)
      (bd_ (f_J4_append_cf468_o149g μ 45) (fun μ12 => some μ12))
      (bd_ (f_J4_append_bf812_o149g μ a1) (fun μ24 => some μ24))
set_option maxHeartbeats 4000000 in
set_option maxRecDepth 100000 in
theorem c_X5_writeTargetg {G : gp_} {ad : Nat → Nat} (p q : Nat) (μ : mu_T) (a1 : Int) (μr : mu_T) (h : f_X5_writeTargetg μ a1 = some μr) : mgv_ yX5_writeTarget cX5_writeTarget 2 none ({ frames := 6, cells := 1, slots := 70, locals := 136 } : Room) G ad p q [.ref (ad 148), .int (iI a1)] μ μr := by
  refine mg_in (own := "UrnHeap$Line") (lv := [(0, .ref (ad 148)), (1, .int (iI a1))]) (by decide) rfl rfl (Nat.le_of_ble_eq_true rfl) (fun X C E => ?_)
  have hb : (0 + 0 ≤ 0 ∧ 0 + 0 ≤ 0) := ⟨Nat.le_refl _, Nat.le_refl _⟩
  unfold f_X5_writeTargetg at h
  refine xx_iload_n C 1 rfl 1 dX5_writeTarget_0 rfl rfl ?_
  refine xx_bipush C 3 rfl dX5_writeTarget_1 (by decide) ?_
  refine xx_icmp_ne (tgt := 19) C 6 rfl dX5_writeTarget_3 (by decide) h (fun h => ?_) (fun h => ?_)
  · refine xx_aload_n C 20 rfl 0 dX5_writeTarget_19 rfl rfl ?_
    refine xx_getr (fi := 0) C 23 rfl (by decide) (ceX_148 _ _ _) rfl in_X5 (by decide) rfl w_393 dX5_writeTarget_20 ?_
    refine xx_iload_n C 24 rfl 1 dX5_writeTarget_23 rfl rfl ?_
    refine xx_gVr (As := [.int (iI a1)]) (st := []) (o := 149) C 27 rfl (by decide) (ceX_149 _ _ _) rfl rfl ca_J4_append_bf812 cv_J4_append_bf812 w_1013 rfl ⟨Nat.le_of_ble_eq_true rfl, Nat.le_of_ble_eq_true rfl⟩ (gB_ hb (Nat.le_of_ble_eq_true rfl) (Nat.le_of_ble_eq_true rfl)) (Nat.le_of_ble_eq_true rfl) dX5_writeTarget_24 (fun μ24 e9 => c_J4_append_bf812_o149g p q _ _ μ24 e9) h (fun p q μ24 h => ?_) rfl
    have hb := gN_ (c2 := 1) (s2 := 70) hb
    refine xx_pop C 28 rfl dX5_writeTarget_27 rfl ?_
    exact xx_gvret C E rfl (gR_ hb (Nat.le_of_ble_eq_true rfl) (Nat.le_of_ble_eq_true rfl)) dX5_writeTarget_28 h
  · refine xx_aload_n C 7 rfl 0 dX5_writeTarget_6 rfl rfl ?_
    refine xx_getr (fi := 0) C 10 rfl (by decide) (ceX_148 _ _ _) rfl in_X5 (by decide) rfl w_393 dX5_writeTarget_7 ?_
    refine xx_bipush C 12 rfl dX5_writeTarget_10 (by decide) ?_
    refine xx_gVr (As := [.int (iI 45)]) (st := []) (o := 149) C 15 rfl (by decide) (ceX_149 _ _ _) rfl rfl ca_J4_append_cf468 cv_J4_append_cf468 w_1052 rfl ⟨Nat.le_of_ble_eq_true rfl, Nat.le_of_ble_eq_true rfl⟩ (gB_ hb (Nat.le_of_ble_eq_true rfl) (Nat.le_of_ble_eq_true rfl)) (Nat.le_of_ble_eq_true rfl) dX5_writeTarget_12 (fun μ12 e9 => c_J4_append_cf468_o149g p q _ _ μ12 e9) h (fun p q μ12 h => ?_) rfl
    have hb := gN_ (c2 := 1) (s2 := 70) hb
    refine xx_pop C 16 rfl dX5_writeTarget_15 rfl ?_
    refine xx_goto C 28 dX5_writeTarget_16 (by decide) ?_
    exact xx_gvret C E rfl (gR_ hb (Nat.le_of_ble_eq_true rfl) (Nat.le_of_ble_eq_true rfl)) dX5_writeTarget_28 h

def f_J5_length_8abf5_o141 (μ : mu_T)  : Option Int :=
  nm_ (μ 141 3) (fun v1 => some v1)
set_option maxHeartbeats 4000000 in
set_option maxRecDepth 100000 in
theorem c_J5_length_8abf5_o141 {G : gp_} {ad : Nat → Nat} (μ : mu_T)  (a : Int) (h : f_J5_length_8abf5_o141 μ  = some a) : mi_ yJ5_length_8abf5 cJ5_length_8abf5 1 (some .int) ({ frames := 0, cells := 0, slots := 0, locals := 0 } : Room) G 151 ad (ceX G ad) [.ref (ad 141)] μ a μ := by
  refine mi_in (own := "java/lang/AbstractStringBuilder") (lv := [(0, .ref (ad 141))]) (by decide) rfl rfl (Nat.le_of_ble_eq_true rfl) (fun X C E => ?_)
  unfold f_J5_length_8abf5_o141 at h
  refine xx_aload_n C 1 rfl 0 dJ5_length_8abf5_0 rfl rfl ?_
  refine xx_geti (fi := 3) (j := 3) C 4 rfl (by decide) (ceX_141 _ _ _) rfl in_J4 (by decide) rfl w_342 dJ5_length_8abf5_1 h (fun v1 h => ?_)
  exact xx_iretp C E rfl ⟨Nat.le_of_ble_eq_true rfl, Nat.le_of_ble_eq_true rfl⟩ dJ5_length_8abf5_4 h

def f_J4_length_8abf5_o141 (μ : mu_T)  : Option Int :=
  bd_ (f_J5_length_8abf5_o141 μ) (fun v1 => some v1)
set_option maxHeartbeats 4000000 in
set_option maxRecDepth 100000 in
theorem c_J4_length_8abf5_o141 {G : gp_} {ad : Nat → Nat} (μ : mu_T)  (a : Int) (h : f_J4_length_8abf5_o141 μ  = some a) : mi_ yJ4_length_8abf5 cJ4_length_8abf5 1 (some .int) ({ frames := 1, cells := 0, slots := 0, locals := 20 } : Room) G 151 ad (ceX G ad) [.ref (ad 141)] μ a μ := by
  refine mi_in (own := "java/lang/StringBuilder") (lv := [(0, .ref (ad 141))]) (by decide) rfl rfl (Nat.le_of_ble_eq_true rfl) (fun X C E => ?_)
  unfold f_J4_length_8abf5_o141 at h
  refine xx_aload_n C 1 rfl 0 dJ4_length_8abf5_0 rfl rfl ?_
  refine xx_cPip (As := []) (st := []) (o := 141) C 4 rfl (by decide) (ceX_141 _ _ _) rfl ca_J5_length_8abf5 cu_J5_length_8abf5 w_351 w_789 rfl ⟨Nat.le_of_ble_eq_true rfl, Nat.le_of_ble_eq_true rfl⟩ ⟨Nat.le_of_ble_eq_true rfl, Nat.le_of_ble_eq_true rfl⟩ (Nat.le_of_ble_eq_true rfl) dJ4_length_8abf5_1 (fun v1 e9 => c_J5_length_8abf5_o141 _ v1 e9) h (fun v1 h => ?_) rfl
  exact xx_iretp C E rfl ⟨Nat.le_of_ble_eq_true rfl, Nat.le_of_ble_eq_true rfl⟩ dJ4_length_8abf5_4 h

def f_J5_newCapacity_0f7a4_o141 (μ : mu_T) (a1 : Int) : Option Int :=
  nm_ (bl_ μ 142) (fun v4 => nm_ (μ 141 1) (fun v8 => nm_ ((sl_ a1 v8)) (fun n12 => nm_ ((n12 - v4)) (fun n16 => nm_ (μ 141 1) (fun v24 => bd_ (f_J8_newLength_cabcc μ v4 n16 (v4 + (sl_ 2 v24))) (fun v29 => eq_ v29 2147483647
      (none)
      (nm_ (μ 141 1) (fun v54 => some (sr_ v29 v54)))))))))
set_option maxHeartbeats 4000000 in
set_option maxRecDepth 100000 in
theorem c_J5_newCapacity_0f7a4_o141 {G : gp_} {ad : Nat → Nat} (μ : mu_T) (a1 : Int) (a : Int) (h : f_J5_newCapacity_0f7a4_o141 μ a1 = some a) : mi_ yJ5_newCapacity_0f7a4 cJ5_newCapacity_0f7a4 6 (some .int) ({ frames := 2, cells := 0, slots := 0, locals := 45 } : Room) G 151 ad (ceX G ad) [.ref (ad 141), .int (iI a1)] μ a μ := by
  refine mi_in (own := "java/lang/AbstractStringBuilder") (lv := [(0, .ref (ad 141)), (1, .int (iI a1))]) (by decide) rfl rfl (Nat.le_of_ble_eq_true rfl) (fun X C E => ?_)
  unfold f_J5_newCapacity_0f7a4_o141 at h
  refine xx_aload_n C 1 rfl 0 dJ5_newCapacity_0f7a4_0 rfl rfl ?_
  refine xx_getr (fi := 0) C 4 rfl (by decide) (ceX_141 _ _ _) rfl in_J4 (by decide) rfl w_339 dJ5_newCapacity_0f7a4_1 ?_
  refine xx_blen C 5 rfl (by decide) (fun row => ceX_142 _ _ row) dJ5_newCapacity_0f7a4_4 h (fun v4 h => ?_)
  refine xx_istore_n (lv1 := [(2, .int (iI v4)), (0, .ref (ad 141)), (1, .int (iI a1))]) C 6 rfl (by decide) dJ5_newCapacity_0f7a4_5 rfl rfl ?_
  refine xx_iload_n C 7 rfl 2 dJ5_newCapacity_0f7a4_6 rfl rfl ?_
  refine xx_aload_n C 8 rfl 1 dJ5_newCapacity_0f7a4_7 rfl rfl ?_
  refine xx_geti (fi := 1) (j := 1) C 11 rfl (by decide) (ceX_141 _ _ _) rfl in_J4 (by decide) rfl w_340 dJ5_newCapacity_0f7a4_8 h (fun v8 h => ?_)
  refine xx_ishl C 12 rfl dJ5_newCapacity_0f7a4_11 ?_
  refine xx_nm C h (fun n12 h => ?_)
  refine xx_istore_n (lv1 := [(3, .int (iI n12)), (2, .int (iI v4)), (0, .ref (ad 141)), (1, .int (iI a1))]) C 13 rfl (by decide) dJ5_newCapacity_0f7a4_12 rfl rfl ?_
  refine xx_iload_n C 14 rfl 0 dJ5_newCapacity_0f7a4_13 rfl rfl ?_
  refine xx_iload_n C 15 rfl 1 dJ5_newCapacity_0f7a4_14 rfl rfl ?_
  refine xx_isub C 16 rfl dJ5_newCapacity_0f7a4_15 ?_
  refine xx_nm C h (fun n16 h => ?_)
  refine xx_istore (lv1 := [(4, .int (iI n16)), (3, .int (iI n12)), (2, .int (iI v4)), (0, .ref (ad 141)), (1, .int (iI a1))]) C 18 rfl (by decide) dJ5_newCapacity_0f7a4_16 rfl ?_
  refine xx_iload_n C 19 rfl 2 dJ5_newCapacity_0f7a4_18 rfl rfl ?_
  refine xx_iload C 21 rfl 0 dJ5_newCapacity_0f7a4_19 rfl ?_
  refine xx_iload_n C 22 rfl 2 dJ5_newCapacity_0f7a4_21 rfl rfl ?_
  refine xx_iconst C 23 rfl dJ5_newCapacity_0f7a4_22 ?_
  refine xx_aload_n C 24 rfl 3 dJ5_newCapacity_0f7a4_23 rfl rfl ?_
  refine xx_geti (fi := 1) (j := 1) C 27 rfl (by decide) (ceX_141 _ _ _) rfl in_J4 (by decide) rfl w_340 dJ5_newCapacity_0f7a4_24 h (fun v24 h => ?_)
  refine xx_ishl C 28 rfl dJ5_newCapacity_0f7a4_27 ?_
  refine xx_iadd C 29 rfl dJ5_newCapacity_0f7a4_28 ?_
  refine xx_cSip (As := [.int (iI v4), .int (iI n16), .int (iI (v4 + (sl_ 2 v24)))]) (st := []) C 32 rfl  ca_J8_newLength_cabcc cs_J8_newLength_cabcc w_807 rfl ⟨Nat.le_of_ble_eq_true rfl, Nat.le_of_ble_eq_true rfl⟩ ⟨Nat.le_of_ble_eq_true rfl, Nat.le_of_ble_eq_true rfl⟩ (Nat.le_of_ble_eq_true rfl) dJ5_newCapacity_0f7a4_29 (fun v29 e9 => c_J8_newLength_cabcc _ _ _ _ v29 e9) h (fun v29 h => ?_) rfl
  refine xx_istore (lv1 := [(5, .int (iI v29)), (4, .int (iI n16)), (3, .int (iI n12)), (2, .int (iI v4)), (0, .ref (ad 141)), (1, .int (iI a1))]) C 34 rfl (by decide) dJ5_newCapacity_0f7a4_32 rfl ?_
  refine xx_iload C 36 rfl 0 dJ5_newCapacity_0f7a4_34 rfl ?_
  refine xx_ldci C 38 rfl (v := 2147483647) w_817 dJ5_newCapacity_0f7a4_36 ?_
  refine xx_icmp_ne (tgt := 51) C 41 rfl dJ5_newCapacity_0f7a4_38 (by decide) h (fun h => ?_) (fun h => ?_)
  · refine xx_iload C 53 rfl 0 dJ5_newCapacity_0f7a4_51 rfl ?_
    refine xx_aload_n C 54 rfl 4 dJ5_newCapacity_0f7a4_53 rfl rfl ?_
    refine xx_geti (fi := 1) (j := 1) C 57 rfl (by decide) (ceX_141 _ _ _) rfl in_J4 (by decide) rfl w_340 dJ5_newCapacity_0f7a4_54 h (fun v54 h => ?_)
    refine xx_ishr C 58 rfl dJ5_newCapacity_0f7a4_57 ?_
    exact xx_iretp C E rfl ⟨Nat.le_of_ble_eq_true rfl, Nat.le_of_ble_eq_true rfl⟩ dJ5_newCapacity_0f7a4_58 h
  · exact nn_ h

def f_J5_ensureCapacityInternal_d00df_o141g (μ : mu_T) (a1 : Int) : Option mu_T :=
  nm_ (bl_ μ 142) (fun v4 => nm_ (μ 141 1) (fun v6 => nm_ ((sr_ v4 v6)) (fun n10 => lt_ 0 (a1 - n10)
      (bd_ (f_J5_newCapacity_0f7a4_o141 μ a1) (fun v24 => nm_ (μ 141 1) (fun v28 => gw_ μ 142 (sl_ v24 v28) (fun μ32 => some μ32))))
      (some μ))))
set_option maxHeartbeats 4000000 in
set_option maxRecDepth 100000 in
theorem c_J5_ensureCapacityInternal_d00df_o141g {G : gp_} {ad : Nat → Nat} (p q : Nat) (μ : mu_T) (a1 : Int) (μr : mu_T) (h : f_J5_ensureCapacityInternal_d00df_o141g μ a1 = some μr) : mgv_ yJ5_ensureCapacityInternal_d00df cJ5_ensureCapacityInternal_d00df 3 none ({ frames := 3, cells := 1, slots := 70, locals := 70 } : Room) G ad p q [.ref (ad 141), .int (iI a1)] μ μr := by
  refine mg_in (own := "java/lang/AbstractStringBuilder") (lv := [(0, .ref (ad 141)), (1, .int (iI a1))]) (by decide) rfl rfl (Nat.le_of_ble_eq_true rfl) (fun X C E => ?_)
  have hb : (0 + 0 ≤ 0 ∧ 0 + 0 ≤ 0) := ⟨Nat.le_refl _, Nat.le_refl _⟩
  unfold f_J5_ensureCapacityInternal_d00df_o141g at h
  refine xx_aload_n C 1 rfl 0 dJ5_ensureCapacityInternal_d00df_0 rfl rfl ?_
  refine xx_getr (fi := 0) C 4 rfl (by decide) (ceX_141 _ _ _) rfl in_J4 (by decide) rfl w_339 dJ5_ensureCapacityInternal_d00df_1 ?_
  refine xx_blen C 5 rfl (by decide) (fun row => ceX_142 _ _ row) dJ5_ensureCapacityInternal_d00df_4 h (fun v4 h => ?_)
  refine xx_aload_n C 6 rfl 0 dJ5_ensureCapacityInternal_d00df_5 rfl rfl ?_
  refine xx_geti (fi := 1) (j := 1) C 9 rfl (by decide) (ceX_141 _ _ _) rfl in_J4 (by decide) rfl w_340 dJ5_ensureCapacityInternal_d00df_6 h (fun v6 h => ?_)
  refine xx_ishr C 10 rfl dJ5_ensureCapacityInternal_d00df_9 ?_
  refine xx_nm C h (fun n10 h => ?_)
  refine xx_istore_n (lv1 := [(2, .int (iI n10)), (0, .ref (ad 141)), (1, .int (iI a1))]) C 11 rfl (by decide) dJ5_ensureCapacityInternal_d00df_10 rfl rfl ?_
  refine xx_iload_n C 12 rfl 2 dJ5_ensureCapacityInternal_d00df_11 rfl rfl ?_
  refine xx_iload_n C 13 rfl 0 dJ5_ensureCapacityInternal_d00df_12 rfl rfl ?_
  refine xx_isub C 14 rfl dJ5_ensureCapacityInternal_d00df_13 ?_
  refine xx_if_le (tgt := 38) C 17 rfl dJ5_ensureCapacityInternal_d00df_14 (by decide) h (fun h => ?_) (fun h => ?_)
  · exact xx_gvret C E rfl (gR_ hb (Nat.le_of_ble_eq_true rfl) (Nat.le_of_ble_eq_true rfl)) dJ5_ensureCapacityInternal_d00df_38 h
  · refine xx_aload_n C 18 rfl 1 dJ5_ensureCapacityInternal_d00df_17 rfl rfl ?_
    refine xx_aload_n C 19 rfl 1 dJ5_ensureCapacityInternal_d00df_18 rfl rfl ?_
    refine xx_getr (fi := 0) C 22 rfl (by decide) (ceX_141 _ _ _) rfl in_J4 (by decide) rfl w_339 dJ5_ensureCapacityInternal_d00df_19 ?_
    refine xx_aload_n C 23 rfl 1 dJ5_ensureCapacityInternal_d00df_22 rfl rfl ?_
    refine xx_iload_n C 24 rfl 2 dJ5_ensureCapacityInternal_d00df_23 rfl rfl ?_
    refine xx_cUip (As := [.int (iI a1)]) (st := [.ref (am_ ad p q 142), .ref (ad 141)]) (o := 141) C 27 rfl (by decide) (ceX_141 _ _ _) rfl ca_J5_newCapacity_0f7a4 cu_J5_newCapacity_0f7a4 se_J5_newCapacity_0f7a4 w_803 rfl ⟨Nat.le_of_ble_eq_true rfl, Nat.le_of_ble_eq_true rfl⟩ (gB_ hb (Nat.le_of_ble_eq_true rfl) (Nat.le_of_ble_eq_true rfl)) (Nat.le_of_ble_eq_true rfl) dJ5_ensureCapacityInternal_d00df_24 (fun v24 e9 => c_J5_newCapacity_0f7a4_o141 _ _ v24 e9) h (fun v24 h => ?_) rfl
    have hb := gN_ (c2 := 0) (s2 := 0) hb
    refine xx_aload_n C 28 rfl 1 dJ5_ensureCapacityInternal_d00df_27 rfl rfl ?_
    refine xx_geti (fi := 1) (j := 1) C 31 rfl (by decide) (ceX_141 _ _ _) rfl in_J4 (by decide) rfl w_340 dJ5_ensureCapacityInternal_d00df_28 h (fun v28 h => ?_)
    refine xx_ishl C 32 rfl dJ5_ensureCapacityInternal_d00df_31 ?_
    refine xx_grow141 C 38 rfl (gB_ hb (Nat.le_of_ble_eq_true rfl) (Nat.le_of_ble_eq_true rfl)) ⟨(Nat.le_of_ble_eq_true rfl), (Nat.le_of_ble_eq_true rfl)⟩ dJ5_ensureCapacityInternal_d00df_32 dJ5_ensureCapacityInternal_d00df_35 h (fun p q μ32 h => ?_)
    have hb := gN_ (c2 := 1) (s2 := 70) hb
    exact xx_gvret C E rfl (gR_ hb (Nat.le_of_ble_eq_true rfl) (Nat.le_of_ble_eq_true rfl)) dJ5_ensureCapacityInternal_d00df_38 h

def f_J5_isLatin1_aae02_o141 (μ : mu_T)  : Option Int :=
  eq_ 1 0
      (some 0)
      (nm_ (μ 141 1) (fun v7 => eq_ v7 0
      (some 1)
      (some 0)))
set_option maxHeartbeats 4000000 in
set_option maxRecDepth 100000 in
theorem c_J5_isLatin1_aae02_o141 {G : gp_} {ad : Nat → Nat} (μ : mu_T)  (a : Int) (h : f_J5_isLatin1_aae02_o141 μ  = some a) : mi_ yJ5_isLatin1_aae02 cJ5_isLatin1_aae02 1 (some .boolean) ({ frames := 0, cells := 0, slots := 0, locals := 0 } : Room) G 151 ad (ceX G ad) [.ref (ad 141)] μ a μ := by
  refine mi_in (own := "java/lang/AbstractStringBuilder") (lv := [(0, .ref (ad 141))]) (by decide) rfl rfl (Nat.le_of_ble_eq_true rfl) (fun X C E => ?_)
  unfold f_J5_isLatin1_aae02_o141 at h
  refine xx_gcs C 3 rfl w_330 dJ5_isLatin1_aae02_0 ?_
  refine xx_if_eq (tgt := 17) C 6 rfl dJ5_isLatin1_aae02_3 (by decide) h (fun h => ?_) (fun h => ?_)
  · refine xx_iconst C 18 rfl dJ5_isLatin1_aae02_17 ?_
    exact xx_zretl C E rfl rfl ⟨Nat.le_of_ble_eq_true rfl, Nat.le_of_ble_eq_true rfl⟩ dJ5_isLatin1_aae02_18 h
  · refine xx_aload_n C 7 rfl 0 dJ5_isLatin1_aae02_6 rfl rfl ?_
    refine xx_geti (fi := 1) (j := 1) C 10 rfl (by decide) (ceX_141 _ _ _) rfl in_J4 (by decide) rfl w_340 dJ5_isLatin1_aae02_7 h (fun v7 h => ?_)
    refine xx_if_ne (tgt := 17) C 13 rfl dJ5_isLatin1_aae02_10 (by decide) h (fun h => ?_) (fun h => ?_)
    · refine xx_iconst C 18 rfl dJ5_isLatin1_aae02_17 ?_
      exact xx_zretl C E rfl rfl ⟨Nat.le_of_ble_eq_true rfl, Nat.le_of_ble_eq_true rfl⟩ dJ5_isLatin1_aae02_18 h
    · refine xx_iconst C 14 rfl dJ5_isLatin1_aae02_13 ?_
      refine xx_goto C 18 dJ5_isLatin1_aae02_14 (by decide) ?_
      exact xx_zretl C E rfl rfl ⟨Nat.le_of_ble_eq_true rfl, Nat.le_of_ble_eq_true rfl⟩ dJ5_isLatin1_aae02_18 h

def f_J5_append_3fe6f_o141g (μ : mu_T) (a1 : Int) : Option mu_T :=
  nm_ (μ 141 3) (fun v2 => bd_ (f_J5_ensureCapacityInternal_d00df_o141g μ (v2 + 1)) (fun μ7 => bd_ (f_J5_isLatin1_aae02_o141 μ7) (fun v11 => jn_ (φ := Unit → Option mu_T) (fun _ => bd_ (f_J5_isLatin1_aae02_o141 μ7) (fun v46 => jn_ (φ := Unit → Option mu_T) (fun _ => nm_ (μ7 141 3) (fun v62 => wf_ μ7 141 3 (v62 + 1) (fun μ68 => none)))
      (fun J56 => eq_ v46 0
      (J56 ())
      (none))))
      (fun J45 => eq_ v11 0
      (J45 ())
      (bd_ (f_J1_canEncode_fc78d μ7 a1) (fun v18 => eq_ v18 0
      (J45 ())
      (nm_ (μ7 141 3) (fun v30 => wf_ μ7 141 3 (v30 + 1) (fun μ36 => wb_ μ36 142 v30 (i2b_ a1) (fun μ41 => some μ41))))))))))
set_option maxHeartbeats 4000000 in
set_option maxRecDepth 100000 in
theorem c_J5_append_3fe6f_o141g {G : gp_} {ad : Nat → Nat} (p q : Nat) (μ : mu_T) (a1 : Int) (μr : mu_T) (h : f_J5_append_3fe6f_o141g μ a1 = some μr) : mgr_ yJ5_append_3fe6f cJ5_append_3fe6f 2 (some (Jvm.ClassFile.FieldType.object "java/lang/AbstractStringBuilder")) ({ frames := 4, cells := 1, slots := 70, locals := 92 } : Room) G ad p q [.ref (ad 141), .int (iI a1)] μ 141 μr := by
  refine mg_in (own := "java/lang/AbstractStringBuilder") (lv := [(0, .ref (ad 141)), (1, .int (iI a1))]) (by decide) rfl rfl (Nat.le_of_ble_eq_true rfl) (fun X C E => ?_)
  have hb : (0 + 0 ≤ 0 ∧ 0 + 0 ≤ 0) := ⟨Nat.le_refl _, Nat.le_refl _⟩
  unfold f_J5_append_3fe6f_o141g at h
  refine xx_aload_n C 1 rfl 0 dJ5_append_3fe6f_0 rfl rfl ?_
  refine xx_aload_n C 2 rfl 0 dJ5_append_3fe6f_1 rfl rfl ?_
  refine xx_geti (fi := 3) (j := 3) C 5 rfl (by decide) (ceX_141 _ _ _) rfl in_J4 (by decide) rfl w_342 dJ5_append_3fe6f_2 h (fun v2 h => ?_)
  refine xx_iconst C 6 rfl dJ5_append_3fe6f_5 ?_
  refine xx_iadd C 7 rfl dJ5_append_3fe6f_6 ?_
  refine xx_gUv (As := [.int (iI (v2 + 1))]) (st := []) (o := 141) C 10 rfl (by decide) (ceX_141 _ _ _) rfl ca_J5_ensureCapacityInternal_d00df cu_J5_ensureCapacityInternal_d00df se_J5_ensureCapacityInternal_d00df w_799 rfl ⟨Nat.le_of_ble_eq_true rfl, Nat.le_of_ble_eq_true rfl⟩ (gB_ hb (Nat.le_of_ble_eq_true rfl) (Nat.le_of_ble_eq_true rfl)) (Nat.le_of_ble_eq_true rfl) dJ5_append_3fe6f_7 (fun μ7 e9 => c_J5_ensureCapacityInternal_d00df_o141g p q _ _ μ7 e9) h (fun p q μ7 h => ?_) rfl
  have hb := gN_ (c2 := 1) (s2 := 70) hb
  refine xx_aload_n C 11 rfl 0 dJ5_append_3fe6f_10 rfl rfl ?_
  refine xx_cUip (As := []) (st := []) (o := 141) C 14 rfl (by decide) (ceX_141 _ _ _) rfl ca_J5_isLatin1_aae02 cu_J5_isLatin1_aae02 se_J5_isLatin1_aae02 w_830 rfl ⟨Nat.le_of_ble_eq_true rfl, Nat.le_of_ble_eq_true rfl⟩ (gB_ hb (Nat.le_of_ble_eq_true rfl) (Nat.le_of_ble_eq_true rfl)) (Nat.le_of_ble_eq_true rfl) dJ5_append_3fe6f_11 (fun v11 e9 => c_J5_isLatin1_aae02_o141 _ v11 e9) h (fun v11 h => ?_) rfl
  have hb := gN_ (c2 := 0) (s2 := 0) hb
  refine jn_r (fun J => ∀ (p q k n : Nat), (k + 0 ≤ 1 ∧ n + 0 ≤ 70) → ∀ (_u : Unit), J _u = some μr → wx_ G X 151 (am_ ad p q) (ceX G (am_ ad p q)) μ7 k n 45 [(0, .ref (ad 141)), (1, .int (iI a1))] []) h (fun p q k n hb _ h => ?_) (fun J45 K45 h => ?_)
  · refine xx_aload_n C 46 rfl 0 dJ5_append_3fe6f_45 rfl rfl ?_
    refine xx_cUip (As := []) (st := []) (o := 141) C 49 rfl (by decide) (ceX_141 _ _ _) rfl ca_J5_isLatin1_aae02 cu_J5_isLatin1_aae02 se_J5_isLatin1_aae02 w_830 rfl ⟨Nat.le_of_ble_eq_true rfl, Nat.le_of_ble_eq_true rfl⟩ (gB_ hb (Nat.le_of_ble_eq_true rfl) (Nat.le_of_ble_eq_true rfl)) (Nat.le_of_ble_eq_true rfl) dJ5_append_3fe6f_46 (fun v46 e9 => c_J5_isLatin1_aae02_o141 _ v46 e9) h (fun v46 h => ?_) rfl
    have hb := gN_ (c2 := 0) (s2 := 0) hb
    refine jn_r (fun J => ∀ (p q k n : Nat), (k + 0 ≤ 1 ∧ n + 0 ≤ 70) → ∀ (_u : Unit), J _u = some μr → wx_ G X 151 (am_ ad p q) (ceX G (am_ ad p q)) μ7 k n 56 [(0, .ref (ad 141)), (1, .int (iI a1))] []) h (fun p q k n hb _ h => ?_) (fun J56 K56 h => ?_)
    · refine xx_aload_n C 57 rfl 0 dJ5_append_3fe6f_56 rfl rfl ?_
      refine xx_getr (fi := 0) C 60 rfl (by decide) (ceX_141 _ _ _) rfl in_J4 (by decide) rfl w_339 dJ5_append_3fe6f_57 ?_
      refine xx_aload_n C 61 rfl 0 dJ5_append_3fe6f_60 rfl rfl ?_
      refine xx_dup C 62 rfl dJ5_append_3fe6f_61 rfl ?_
      refine xx_geti (fi := 3) (j := 3) C 65 rfl (by decide) (ceX_141 _ _ _) rfl in_J4 (by decide) rfl w_342 dJ5_append_3fe6f_62 h (fun v62 h => ?_)
      refine xx_dup_x1 C 66 rfl dJ5_append_3fe6f_65 rfl rfl ?_
      refine xx_iconst C 67 rfl dJ5_append_3fe6f_66 ?_
      refine xx_iadd C 68 rfl dJ5_append_3fe6f_67 ?_
      refine xx_puti (fi := 3) (j := 3) C 71 rfl (by decide) (ceX_141 _ _ _) (puX_141_3 _ _ _ _) rfl in_J4 tyJ4 tyJ4_ok nmJ4 (by decide) (Nat.le_of_ble_eq_true rfl) ⟨rfl, rfl⟩ w_342 dJ5_append_3fe6f_68 h (fun μ68 h => ?_)
      refine xx_iload_n C 72 rfl 1 dJ5_append_3fe6f_71 rfl rfl ?_
      exact nn_ h
    · refine xx_if_eq (tgt := 56) C 52 rfl dJ5_append_3fe6f_49 (by decide) h (fun h => ?_) (fun h => ?_)
      · exact K56 p q _ _ (gW_ hb (Nat.le_of_ble_eq_true rfl) (Nat.le_of_ble_eq_true rfl)) () h
      · refine xx_aload_n C 53 rfl 0 dJ5_append_3fe6f_52 rfl rfl ?_
        exact nn_ h
  · refine xx_if_eq (tgt := 45) C 17 rfl dJ5_append_3fe6f_14 (by decide) h (fun h => ?_) (fun h => ?_)
    · exact K45 p q _ _ (gW_ hb (Nat.le_of_ble_eq_true rfl) (Nat.le_of_ble_eq_true rfl)) () h
    · refine xx_iload_n C 18 rfl 1 dJ5_append_3fe6f_17 rfl rfl ?_
      refine xx_cSip (As := [.int (iI a1)]) (st := []) C 21 rfl  ca_J1_canEncode_fc78d cs_J1_canEncode_fc78d w_835 rfl ⟨Nat.le_of_ble_eq_true rfl, Nat.le_of_ble_eq_true rfl⟩ (gB_ hb (Nat.le_of_ble_eq_true rfl) (Nat.le_of_ble_eq_true rfl)) (Nat.le_of_ble_eq_true rfl) dJ5_append_3fe6f_18 (fun v18 e9 => c_J1_canEncode_fc78d _ _ v18 e9) h (fun v18 h => ?_) rfl
      have hb := gN_ (c2 := 0) (s2 := 0) hb
      refine xx_if_eq (tgt := 45) C 24 rfl dJ5_append_3fe6f_21 (by decide) h (fun h => ?_) (fun h => ?_)
      · exact K45 p q _ _ (gW_ hb (Nat.le_of_ble_eq_true rfl) (Nat.le_of_ble_eq_true rfl)) () h
      · refine xx_aload_n C 25 rfl 0 dJ5_append_3fe6f_24 rfl rfl ?_
        refine xx_getr (fi := 0) C 28 rfl (by decide) (ceX_141 _ _ _) rfl in_J4 (by decide) rfl w_339 dJ5_append_3fe6f_25 ?_
        refine xx_aload_n C 29 rfl 0 dJ5_append_3fe6f_28 rfl rfl ?_
        refine xx_dup C 30 rfl dJ5_append_3fe6f_29 rfl ?_
        refine xx_geti (fi := 3) (j := 3) C 33 rfl (by decide) (ceX_141 _ _ _) rfl in_J4 (by decide) rfl w_342 dJ5_append_3fe6f_30 h (fun v30 h => ?_)
        refine xx_dup_x1 C 34 rfl dJ5_append_3fe6f_33 rfl rfl ?_
        refine xx_iconst C 35 rfl dJ5_append_3fe6f_34 ?_
        refine xx_iadd C 36 rfl dJ5_append_3fe6f_35 ?_
        refine xx_puti (fi := 3) (j := 3) C 39 rfl (by decide) (ceX_141 _ _ _) (puX_141_3 _ _ _ _) rfl in_J4 tyJ4 tyJ4_ok nmJ4 (by decide) (Nat.le_of_ble_eq_true rfl) ⟨rfl, rfl⟩ w_342 dJ5_append_3fe6f_36 h (fun μ36 h => ?_)
        refine xx_iload_n C 40 rfl 1 dJ5_append_3fe6f_39 rfl rfl ?_
        refine xx_i2b C 41 rfl dJ5_append_3fe6f_40 ?_
        refine xx_bastore C 42 rfl (by decide) (fun row => ceX_142 _ _ row) dJ5_append_3fe6f_41 h (fun μ41 h => ?_)
        refine xx_goto C 75 dJ5_append_3fe6f_42 (by decide) ?_
        refine xx_aload_n C 76 rfl 0 dJ5_append_3fe6f_75 rfl rfl ?_
        exact xx_garet C E rfl (gR_ hb (Nat.le_of_ble_eq_true rfl) (Nat.le_of_ble_eq_true rfl)) dJ5_append_3fe6f_76 h

def f_J4_append_cf468_o141g (μ : mu_T) (a1 : Int) : Option mu_T :=
  bd_ (f_J5_append_3fe6f_o141g μ a1) (fun μ2 => some μ2)
set_option maxHeartbeats 4000000 in
set_option maxRecDepth 100000 in
theorem c_J4_append_cf468_o141g {G : gp_} {ad : Nat → Nat} (p q : Nat) (μ : mu_T) (a1 : Int) (μr : mu_T) (h : f_J4_append_cf468_o141g μ a1 = some μr) : mgr_ yJ4_append_cf468 cJ4_append_cf468 2 (some (Jvm.ClassFile.FieldType.object "java/lang/StringBuilder")) ({ frames := 5, cells := 1, slots := 70, locals := 113 } : Room) G ad p q [.ref (ad 141), .int (iI a1)] μ 141 μr := by
  refine mg_in (own := "java/lang/StringBuilder") (lv := [(0, .ref (ad 141)), (1, .int (iI a1))]) (by decide) rfl rfl (Nat.le_of_ble_eq_true rfl) (fun X C E => ?_)
  have hb : (0 + 0 ≤ 0 ∧ 0 + 0 ≤ 0) := ⟨Nat.le_refl _, Nat.le_refl _⟩
  unfold f_J4_append_cf468_o141g at h
  refine xx_aload_n C 1 rfl 0 dJ4_append_cf468_0 rfl rfl ?_
  refine xx_iload_n C 2 rfl 1 dJ4_append_cf468_1 rfl rfl ?_
  refine xx_gPr (As := [.int (iI a1)]) (st := []) (o := 141) C 5 rfl (by decide) (ceX_141 _ _ _) rfl ca_J5_append_3fe6f cu_J5_append_3fe6f w_351 w_796 rfl ⟨Nat.le_of_ble_eq_true rfl, Nat.le_of_ble_eq_true rfl⟩ (gB_ hb (Nat.le_of_ble_eq_true rfl) (Nat.le_of_ble_eq_true rfl)) (Nat.le_of_ble_eq_true rfl) dJ4_append_cf468_2 (fun μ2 e9 => c_J5_append_3fe6f_o141g p q _ _ μ2 e9) h (fun p q μ2 h => ?_) rfl
  have hb := gN_ (c2 := 1) (s2 := 70) hb
  refine xx_pop C 6 rfl dJ4_append_cf468_5 rfl ?_
  refine xx_aload_n C 7 rfl 0 dJ4_append_cf468_6 rfl rfl ?_
  exact xx_garet C E rfl (gR_ hb (Nat.le_of_ble_eq_true rfl) (Nat.le_of_ble_eq_true rfl)) dJ4_append_cf468_7 h

def f_X6_addSigng (μ : mu_T) (a1 : Int) : Option (Int × mu_T) :=
  lt_ a1 32
      (some ((-12), μ))
      (lt_ 126 a1
      (some ((-12), μ))
      (bd_ (f_J4_length_8abf5_o141 μ) (fun v19 => lt_ v19 60
      (bd_ (f_J4_append_cf468_o141g μ (i2c_ a1)) (fun μ36 => bd_ (f_J4_length_8abf5_o141 μ36) (fun v44 => some (v44, μ36))))
      (some ((-13), μ)))))
set_option maxHeartbeats 4000000 in
set_option maxRecDepth 100000 in
theorem c_X6_addSigng {G : gp_} {ad : Nat → Nat} (p q : Nat) (μ : mu_T) (a1 : Int) (a : Int) (μr : mu_T) (h : f_X6_addSigng μ a1 = some (a, μr)) : mgi_ yX6_addSign cX6_addSign 2 (some .int) ({ frames := 6, cells := 1, slots := 70, locals := 134 } : Room) G ad p q [.ref (ad 140), .int (iI a1)] μ a μr := by
  refine mg_in (own := "UrnHeap$Orders") (lv := [(0, .ref (ad 140)), (1, .int (iI a1))]) (by decide) rfl rfl (Nat.le_of_ble_eq_true rfl) (fun X C E => ?_)
  have hb : (0 + 0 ≤ 0 ∧ 0 + 0 ≤ 0) := ⟨Nat.le_refl _, Nat.le_refl _⟩
  unfold f_X6_addSigng at h
  refine xx_iload_n C 1 rfl 1 dX6_addSign_0 rfl rfl ?_
  refine xx_bipush C 3 rfl dX6_addSign_1 (by decide) ?_
  refine xx_icmp_lt (tgt := 12) C 6 rfl dX6_addSign_3 (by decide) h (fun h => ?_) (fun h => ?_)
  · refine xx_bipush C 14 rfl dX6_addSign_12 (by decide) ?_
    exact xx_giret C E rfl (gR_ hb (Nat.le_of_ble_eq_true rfl) (Nat.le_of_ble_eq_true rfl)) dX6_addSign_14 h
  · refine xx_iload_n C 7 rfl 1 dX6_addSign_6 rfl rfl ?_
    refine xx_bipush C 9 rfl dX6_addSign_7 (by decide) ?_
    refine xx_icmp_le (tgt := 15) C 12 rfl dX6_addSign_9 (by decide) h (fun h => ?_) (fun h => ?_)
    · refine xx_aload_n C 16 rfl 0 dX6_addSign_15 rfl rfl ?_
      refine xx_getr (fi := 0) C 19 rfl (by decide) (ceX_140 _ _ _) rfl in_X6 (by decide) rfl w_355 dX6_addSign_16 ?_
      refine xx_cVip (As := []) (st := []) (o := 141) C 22 rfl (by decide) (ceX_141 _ _ _) rfl rfl ca_J4_length_8abf5 cv_J4_length_8abf5 w_785 rfl ⟨Nat.le_of_ble_eq_true rfl, Nat.le_of_ble_eq_true rfl⟩ (gB_ hb (Nat.le_of_ble_eq_true rfl) (Nat.le_of_ble_eq_true rfl)) (Nat.le_of_ble_eq_true rfl) dX6_addSign_19 (fun v19 e9 => c_J4_length_8abf5_o141 _ v19 e9) h (fun v19 h => ?_) rfl
      have hb := gN_ (c2 := 0) (s2 := 0) hb
      refine xx_bipush C 24 rfl dX6_addSign_22 (by decide) ?_
      refine xx_icmp_lt (tgt := 30) C 27 rfl dX6_addSign_24 (by decide) h (fun h => ?_) (fun h => ?_)
      · refine xx_aload_n C 31 rfl 0 dX6_addSign_30 rfl rfl ?_
        refine xx_getr (fi := 0) C 34 rfl (by decide) (ceX_140 _ _ _) rfl in_X6 (by decide) rfl w_355 dX6_addSign_31 ?_
        refine xx_iload_n C 35 rfl 1 dX6_addSign_34 rfl rfl ?_
        refine xx_i2c C 36 rfl dX6_addSign_35 ?_
        refine xx_gVr (As := [.int (iI (i2c_ a1))]) (st := []) (o := 141) C 39 rfl (by decide) (ceX_141 _ _ _) rfl rfl ca_J4_append_cf468 cv_J4_append_cf468 w_792 rfl ⟨Nat.le_of_ble_eq_true rfl, Nat.le_of_ble_eq_true rfl⟩ (gB_ hb (Nat.le_of_ble_eq_true rfl) (Nat.le_of_ble_eq_true rfl)) (Nat.le_of_ble_eq_true rfl) dX6_addSign_36 (fun μ36 e9 => c_J4_append_cf468_o141g p q _ _ μ36 e9) h (fun p q μ36 h => ?_) rfl
        have hb := gN_ (c2 := 1) (s2 := 70) hb
        refine xx_pop C 40 rfl dX6_addSign_39 rfl ?_
        refine xx_aload_n C 41 rfl 0 dX6_addSign_40 rfl rfl ?_
        refine xx_getr (fi := 0) C 44 rfl (by decide) (ceX_140 _ _ _) rfl in_X6 (by decide) rfl w_355 dX6_addSign_41 ?_
        refine xx_cVip (As := []) (st := []) (o := 141) C 47 rfl (by decide) (ceX_141 _ _ _) rfl rfl ca_J4_length_8abf5 cv_J4_length_8abf5 w_785 rfl ⟨Nat.le_of_ble_eq_true rfl, Nat.le_of_ble_eq_true rfl⟩ (gB_ hb (Nat.le_of_ble_eq_true rfl) (Nat.le_of_ble_eq_true rfl)) (Nat.le_of_ble_eq_true rfl) dX6_addSign_44 (fun v44 e9 => c_J4_length_8abf5_o141 _ v44 e9) h (fun v44 h => ?_) rfl
        have hb := gN_ (c2 := 0) (s2 := 0) hb
        exact xx_giret C E rfl (gR_ hb (Nat.le_of_ble_eq_true rfl) (Nat.le_of_ble_eq_true rfl)) dX6_addSign_47 h
      · refine xx_bipush C 29 rfl dX6_addSign_27 (by decide) ?_
        exact xx_giret C E rfl (gR_ hb (Nat.le_of_ble_eq_true rfl) (Nat.le_of_ble_eq_true rfl)) dX6_addSign_29 h
    · refine xx_bipush C 14 rfl dX6_addSign_12 (by decide) ?_
      exact xx_giret C E rfl (gR_ hb (Nat.le_of_ble_eq_true rfl) (Nat.le_of_ble_eq_true rfl)) dX6_addSign_14 h

def f_X6_signs (μ : mu_T)  : Option Int :=
  bd_ (f_J4_length_8abf5_o141 μ) (fun v4 => some v4)
set_option maxHeartbeats 4000000 in
set_option maxRecDepth 100000 in
theorem c_X6_signs {G : gp_} {ad : Nat → Nat} (μ : mu_T)  (a : Int) (h : f_X6_signs μ  = some a) : mi_ yX6_signs cX6_signs 1 (some .int) ({ frames := 2, cells := 0, slots := 0, locals := 40 } : Room) G 151 ad (ceX G ad) [.ref (ad 140)] μ a μ := by
  refine mi_in (own := "UrnHeap$Orders") (lv := [(0, .ref (ad 140))]) (by decide) rfl rfl (Nat.le_of_ble_eq_true rfl) (fun X C E => ?_)
  unfold f_X6_signs at h
  refine xx_aload_n C 1 rfl 0 dX6_signs_0 rfl rfl ?_
  refine xx_getr (fi := 0) C 4 rfl (by decide) (ceX_140 _ _ _) rfl in_X6 (by decide) rfl w_355 dX6_signs_1 ?_
  refine xx_cVip (As := []) (st := []) (o := 141) C 7 rfl (by decide) (ceX_141 _ _ _) rfl rfl ca_J4_length_8abf5 cv_J4_length_8abf5 w_785 rfl ⟨Nat.le_of_ble_eq_true rfl, Nat.le_of_ble_eq_true rfl⟩ ⟨Nat.le_of_ble_eq_true rfl, Nat.le_of_ble_eq_true rfl⟩ (Nat.le_of_ble_eq_true rfl) dX6_signs_4 (fun v4 e9 => c_J4_length_8abf5_o141 _ v4 e9) h (fun v4 h => ?_) rfl
  exact xx_iretp C E rfl ⟨Nat.le_of_ble_eq_true rfl, Nat.le_of_ble_eq_true rfl⟩ dX6_signs_7 h

def f_J5_ensureCapacityInternal_d00df_o141 (μ : mu_T) (a1 : Int) : Option mu_T :=
  nm_ (bl_ μ 142) (fun v4 => nm_ (μ 141 1) (fun v6 => nm_ ((sr_ v4 v6)) (fun n10 => lt_ 0 (a1 - n10)
      (bd_ (f_J5_newCapacity_0f7a4_o141 μ a1) (fun v24 => nm_ (μ 141 1) (fun v28 => none)))
      (some μ))))
set_option maxHeartbeats 4000000 in
set_option maxRecDepth 100000 in
theorem c_J5_ensureCapacityInternal_d00df_o141 {G : gp_} {ad : Nat → Nat} (μ : mu_T) (a1 : Int) (μr : mu_T) (h : f_J5_ensureCapacityInternal_d00df_o141 μ a1 = some μr) : mv_ yJ5_ensureCapacityInternal_d00df cJ5_ensureCapacityInternal_d00df 3 ({ frames := 3, cells := 0, slots := 0, locals := 70 } : Room) G 151 ad (ceX G ad) [.ref (ad 141), .int (iI a1)] μ μr := by
  refine mv_in (own := "java/lang/AbstractStringBuilder") (lv := [(0, .ref (ad 141)), (1, .int (iI a1))]) (by decide) rfl rfl (Nat.le_of_ble_eq_true rfl) (fun X C E => ?_)
  unfold f_J5_ensureCapacityInternal_d00df_o141 at h
  refine xx_aload_n C 1 rfl 0 dJ5_ensureCapacityInternal_d00df_0 rfl rfl ?_
  refine xx_getr (fi := 0) C 4 rfl (by decide) (ceX_141 _ _ _) rfl in_J4 (by decide) rfl w_339 dJ5_ensureCapacityInternal_d00df_1 ?_
  refine xx_blen C 5 rfl (by decide) (fun row => ceX_142 _ _ row) dJ5_ensureCapacityInternal_d00df_4 h (fun v4 h => ?_)
  refine xx_aload_n C 6 rfl 0 dJ5_ensureCapacityInternal_d00df_5 rfl rfl ?_
  refine xx_geti (fi := 1) (j := 1) C 9 rfl (by decide) (ceX_141 _ _ _) rfl in_J4 (by decide) rfl w_340 dJ5_ensureCapacityInternal_d00df_6 h (fun v6 h => ?_)
  refine xx_ishr C 10 rfl dJ5_ensureCapacityInternal_d00df_9 ?_
  refine xx_nm C h (fun n10 h => ?_)
  refine xx_istore_n (lv1 := [(2, .int (iI n10)), (0, .ref (ad 141)), (1, .int (iI a1))]) C 11 rfl (by decide) dJ5_ensureCapacityInternal_d00df_10 rfl rfl ?_
  refine xx_iload_n C 12 rfl 2 dJ5_ensureCapacityInternal_d00df_11 rfl rfl ?_
  refine xx_iload_n C 13 rfl 0 dJ5_ensureCapacityInternal_d00df_12 rfl rfl ?_
  refine xx_isub C 14 rfl dJ5_ensureCapacityInternal_d00df_13 ?_
  refine xx_if_le (tgt := 38) C 17 rfl dJ5_ensureCapacityInternal_d00df_14 (by decide) h (fun h => ?_) (fun h => ?_)
  · exact xx_vret C E rfl ⟨Nat.le_of_ble_eq_true rfl, Nat.le_of_ble_eq_true rfl⟩ dJ5_ensureCapacityInternal_d00df_38 h
  · refine xx_aload_n C 18 rfl 1 dJ5_ensureCapacityInternal_d00df_17 rfl rfl ?_
    refine xx_aload_n C 19 rfl 1 dJ5_ensureCapacityInternal_d00df_18 rfl rfl ?_
    refine xx_getr (fi := 0) C 22 rfl (by decide) (ceX_141 _ _ _) rfl in_J4 (by decide) rfl w_339 dJ5_ensureCapacityInternal_d00df_19 ?_
    refine xx_aload_n C 23 rfl 1 dJ5_ensureCapacityInternal_d00df_22 rfl rfl ?_
    refine xx_iload_n C 24 rfl 2 dJ5_ensureCapacityInternal_d00df_23 rfl rfl ?_
    refine xx_cUip (As := [.int (iI a1)]) (st := [.ref (ad 142), .ref (ad 141)]) (o := 141) C 27 rfl (by decide) (ceX_141 _ _ _) rfl ca_J5_newCapacity_0f7a4 cu_J5_newCapacity_0f7a4 se_J5_newCapacity_0f7a4 w_803 rfl ⟨Nat.le_of_ble_eq_true rfl, Nat.le_of_ble_eq_true rfl⟩ ⟨Nat.le_of_ble_eq_true rfl, Nat.le_of_ble_eq_true rfl⟩ (Nat.le_of_ble_eq_true rfl) dJ5_ensureCapacityInternal_d00df_24 (fun v24 e9 => c_J5_newCapacity_0f7a4_o141 _ _ v24 e9) h (fun v24 h => ?_) rfl
    refine xx_aload_n C 28 rfl 1 dJ5_ensureCapacityInternal_d00df_27 rfl rfl ?_
    refine xx_geti (fi := 1) (j := 1) C 31 rfl (by decide) (ceX_141 _ _ _) rfl in_J4 (by decide) rfl w_340 dJ5_ensureCapacityInternal_d00df_28 h (fun v28 h => ?_)
    refine xx_ishl C 32 rfl dJ5_ensureCapacityInternal_d00df_31 ?_
    exact nn_ h

