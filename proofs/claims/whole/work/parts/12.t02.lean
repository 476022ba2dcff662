theorem dJ7_rangeCheck_23922_0 : decode cJ7_rangeCheck_23922 0 = .ok (.iload_n 1, 1) := by decide +kernel
theorem dJ7_rangeCheck_23922_1 : decode cJ7_rangeCheck_23922 1 = .ok (.iload_n 2, 1) := by decide +kernel
theorem dJ7_rangeCheck_23922_2 : decode cJ7_rangeCheck_23922 2 = .ok (.if_icmp .le 44, 3) := by decide +kernel
theorem dJ7_rangeCheck_23922_5 : decode cJ7_rangeCheck_23922 5 = .ok (.new 43, 3) := by decide +kernel
theorem dJ7_rangeCheck_23922_8 : decode cJ7_rangeCheck_23922 8 = .ok (.dup, 1) := by decide +kernel
theorem dJ7_rangeCheck_23922_9 : decode cJ7_rangeCheck_23922 9 = .ok (.new 45, 3) := by decide +kernel
theorem dJ7_rangeCheck_23922_12 : decode cJ7_rangeCheck_23922 12 = .ok (.dup, 1) := by decide +kernel
theorem dJ7_rangeCheck_23922_13 : decode cJ7_rangeCheck_23922 13 = .ok (.invokespecial 47, 3) := by decide +kernel
theorem dJ7_rangeCheck_23922_16 : decode cJ7_rangeCheck_23922 16 = .ok (.ldc 48, 2) := by decide +kernel
theorem dJ7_rangeCheck_23922_18 : decode cJ7_rangeCheck_23922 18 = .ok (.invokevirtual 50, 3) := by decide +kernel
theorem dJ7_rangeCheck_23922_21 : decode cJ7_rangeCheck_23922 21 = .ok (.iload_n 1, 1) := by decide +kernel
theorem dJ7_rangeCheck_23922_22 : decode cJ7_rangeCheck_23922 22 = .ok (.invokevirtual 54, 3) := by decide +kernel
theorem dJ7_rangeCheck_23922_25 : decode cJ7_rangeCheck_23922 25 = .ok (.ldc 57, 2) := by decide +kernel
theorem dJ7_rangeCheck_23922_27 : decode cJ7_rangeCheck_23922 27 = .ok (.invokevirtual 50, 3) := by decide +kernel
theorem dJ7_rangeCheck_23922_30 : decode cJ7_rangeCheck_23922 30 = .ok (.iload_n 2, 1) := by decide +kernel
theorem dJ7_rangeCheck_23922_31 : decode cJ7_rangeCheck_23922 31 = .ok (.invokevirtual 54, 3) := by decide +kernel
theorem dJ7_rangeCheck_23922_34 : decode cJ7_rangeCheck_23922 34 = .ok (.ldc 59, 2) := by decide +kernel
theorem dJ7_rangeCheck_23922_36 : decode cJ7_rangeCheck_23922 36 = .ok (.invokevirtual 50, 3) := by decide +kernel
theorem dJ7_rangeCheck_23922_39 : decode cJ7_rangeCheck_23922 39 = .ok (.invokevirtual 61, 3) := by decide +kernel
theorem dJ7_rangeCheck_23922_42 : decode cJ7_rangeCheck_23922 42 = .ok (.invokespecial 65, 3) := by decide +kernel
theorem dJ7_rangeCheck_23922_45 : decode cJ7_rangeCheck_23922 45 = .ok (.athrow, 1) := by decide +kernel
theorem dJ7_rangeCheck_23922_46 : decode cJ7_rangeCheck_23922 46 = .ok (.iload_n 1, 1) := by decide +kernel
theorem dJ7_rangeCheck_23922_47 : decode cJ7_rangeCheck_23922 47 = .ok (.ifCond .ge 12, 3) := by decide +kernel
theorem dJ7_rangeCheck_23922_50 : decode cJ7_rangeCheck_23922 50 = .ok (.new 68, 3) := by decide +kernel
theorem dJ7_rangeCheck_23922_53 : decode cJ7_rangeCheck_23922 53 = .ok (.dup, 1) := by decide +kernel
theorem dJ7_rangeCheck_23922_54 : decode cJ7_rangeCheck_23922 54 = .ok (.iload_n 1, 1) := by decide +kernel
theorem dJ7_rangeCheck_23922_55 : decode cJ7_rangeCheck_23922 55 = .ok (.invokespecial 70, 3) := by decide +kernel
theorem dJ7_rangeCheck_23922_58 : decode cJ7_rangeCheck_23922 58 = .ok (.athrow, 1) := by decide +kernel
theorem dJ7_rangeCheck_23922_59 : decode cJ7_rangeCheck_23922 59 = .ok (.iload_n 2, 1) := by decide +kernel
theorem dJ7_rangeCheck_23922_60 : decode cJ7_rangeCheck_23922 60 = .ok (.iload_n 0, 1) := by decide +kernel
theorem dJ7_rangeCheck_23922_61 : decode cJ7_rangeCheck_23922 61 = .ok (.if_icmp .le 12, 3) := by decide +kernel
theorem dJ7_rangeCheck_23922_64 : decode cJ7_rangeCheck_23922 64 = .ok (.new 68, 3) := by decide +kernel
theorem dJ7_rangeCheck_23922_67 : decode cJ7_rangeCheck_23922 67 = .ok (.dup, 1) := by decide +kernel
theorem dJ7_rangeCheck_23922_68 : decode cJ7_rangeCheck_23922 68 = .ok (.iload_n 2, 1) := by decide +kernel
theorem dJ7_rangeCheck_23922_69 : decode cJ7_rangeCheck_23922 69 = .ok (.invokespecial 70, 3) := by decide +kernel
theorem dJ7_rangeCheck_23922_72 : decode cJ7_rangeCheck_23922 72 = .ok (.athrow, 1) := by decide +kernel
theorem dJ7_rangeCheck_23922_73 : decode cJ7_rangeCheck_23922 73 = .ok (.return_, 1) := by decide +kernel
theorem dJ7_fill_eb02e_0 : decode cJ7_fill_eb02e 0 = .ok (.aload_n 0, 1) := by decide +kernel
theorem dJ7_fill_eb02e_1 : decode cJ7_fill_eb02e 1 = .ok (.arraylength, 1) := by decide +kernel
theorem dJ7_fill_eb02e_2 : decode cJ7_fill_eb02e 2 = .ok (.iload_n 1, 1) := by decide +kernel
theorem dJ7_fill_eb02e_3 : decode cJ7_fill_eb02e 3 = .ok (.iload_n 2, 1) := by decide +kernel
theorem dJ7_fill_eb02e_4 : decode cJ7_fill_eb02e 4 = .ok (.invokestatic 13, 3) := by decide +kernel
theorem dJ7_fill_eb02e_7 : decode cJ7_fill_eb02e 7 = .ok (.iload_n 1, 1) := by decide +kernel
theorem dJ7_fill_eb02e_8 : decode cJ7_fill_eb02e 8 = .ok (.istore 4, 2) := by decide +kernel
theorem dJ7_fill_eb02e_10 : decode cJ7_fill_eb02e 10 = .ok (.iload 4, 2) := by decide +kernel
theorem dJ7_fill_eb02e_12 : decode cJ7_fill_eb02e 12 = .ok (.iload_n 2, 1) := by decide +kernel
theorem dJ7_fill_eb02e_13 : decode cJ7_fill_eb02e 13 = .ok (.if_icmp .ge 14, 3) := by decide +kernel
theorem dJ7_fill_eb02e_16 : decode cJ7_fill_eb02e 16 = .ok (.aload_n 0, 1) := by decide +kernel
theorem dJ7_fill_eb02e_17 : decode cJ7_fill_eb02e 17 = .ok (.iload 4, 2) := by decide +kernel
theorem dJ7_fill_eb02e_19 : decode cJ7_fill_eb02e 19 = .ok (.iload_n 3, 1) := by decide +kernel
theorem dJ7_fill_eb02e_20 : decode cJ7_fill_eb02e 20 = .ok (.bastore, 1) := by decide +kernel
theorem dJ7_fill_eb02e_21 : decode cJ7_fill_eb02e 21 = .ok (.iinc 4 1, 3) := by decide +kernel
theorem dJ7_fill_eb02e_24 : decode cJ7_fill_eb02e 24 = .ok (.goto (-14), 3) := by decide +kernel
theorem dJ7_fill_eb02e_27 : decode cJ7_fill_eb02e 27 = .ok (.return_, 1) := by decide +kernel
theorem dJ1_fillNull_b72d1_0 : decode cJ1_fillNull_b72d1 0 = .ok (.aload_n 0, 1) := by decide +kernel
theorem dJ1_fillNull_b72d1_1 : decode cJ1_fillNull_b72d1 1 = .ok (.iload_n 1, 1) := by decide +kernel
theorem dJ1_fillNull_b72d1_2 : decode cJ1_fillNull_b72d1 2 = .ok (.iload_n 2, 1) := by decide +kernel
theorem dJ1_fillNull_b72d1_3 : decode cJ1_fillNull_b72d1 3 = .ok (.iconst 0, 1) := by decide +kernel
theorem dJ1_fillNull_b72d1_4 : decode cJ1_fillNull_b72d1 4 = .ok (.invokestatic 236, 3) := by decide +kernel
theorem dJ1_fillNull_b72d1_7 : decode cJ1_fillNull_b72d1 7 = .ok (.return_, 1) := by decide +kernel
theorem dJ5_setLength_d00df_0 : decode cJ5_setLength_d00df 0 = .ok (.iload_n 1, 1) := by decide +kernel
theorem dJ5_setLength_d00df_1 : decode cJ5_setLength_d00df 1 = .ok (.ifCond .ge 12, 3) := by decide +kernel
theorem dJ5_setLength_d00df_4 : decode cJ5_setLength_d00df 4 = .ok (.new 129, 3) := by decide +kernel
theorem dJ5_setLength_d00df_7 : decode cJ5_setLength_d00df 7 = .ok (.dup, 1) := by decide +kernel
theorem dJ5_setLength_d00df_8 : decode cJ5_setLength_d00df 8 = .ok (.iload_n 1, 1) := by decide +kernel
theorem dJ5_setLength_d00df_9 : decode cJ5_setLength_d00df 9 = .ok (.invokespecial 131, 3) := by decide +kernel
theorem dJ5_setLength_d00df_12 : decode cJ5_setLength_d00df 12 = .ok (.athrow, 1) := by decide +kernel
theorem dJ5_setLength_d00df_13 : decode cJ5_setLength_d00df 13 = .ok (.aload_n 0, 1) := by decide +kernel
theorem dJ5_setLength_d00df_14 : decode cJ5_setLength_d00df 14 = .ok (.iload_n 1, 1) := by decide +kernel
theorem dJ5_setLength_d00df_15 : decode cJ5_setLength_d00df 15 = .ok (.invokevirtual 100, 3) := by decide +kernel
theorem dJ5_setLength_d00df_18 : decode cJ5_setLength_d00df 18 = .ok (.aload_n 0, 1) := by decide +kernel
theorem dJ5_setLength_d00df_19 : decode cJ5_setLength_d00df 19 = .ok (.getfield 79, 3) := by decide +kernel
theorem dJ5_setLength_d00df_22 : decode cJ5_setLength_d00df 22 = .ok (.iload_n 1, 1) := by decide +kernel
theorem dJ5_setLength_d00df_23 : decode cJ5_setLength_d00df 23 = .ok (.if_icmp .ge 40, 3) := by decide +kernel
theorem dJ5_setLength_d00df_26 : decode cJ5_setLength_d00df 26 = .ok (.aload_n 0, 1) := by decide +kernel
theorem dJ5_setLength_d00df_27 : decode cJ5_setLength_d00df 27 = .ok (.invokevirtual 83, 3) := by decide +kernel
theorem dJ5_setLength_d00df_30 : decode cJ5_setLength_d00df 30 = .ok (.ifCond .eq 18, 3) := by decide +kernel
theorem dJ5_setLength_d00df_33 : decode cJ5_setLength_d00df 33 = .ok (.aload_n 0, 1) := by decide +kernel
theorem dJ5_setLength_d00df_34 : decode cJ5_setLength_d00df 34 = .ok (.getfield 15, 3) := by decide +kernel
theorem dJ5_setLength_d00df_37 : decode cJ5_setLength_d00df 37 = .ok (.aload_n 0, 1) := by decide +kernel
theorem dJ5_setLength_d00df_38 : decode cJ5_setLength_d00df 38 = .ok (.getfield 79, 3) := by decide +kernel
theorem dJ5_setLength_d00df_41 : decode cJ5_setLength_d00df 41 = .ok (.iload_n 1, 1) := by decide +kernel
theorem dJ5_setLength_d00df_42 : decode cJ5_setLength_d00df 42 = .ok (.invokestatic 133, 3) := by decide +kernel
theorem dJ5_setLength_d00df_45 : decode cJ5_setLength_d00df 45 = .ok (.goto 31, 3) := by decide +kernel
theorem dJ5_setLength_d00df_48 : decode cJ5_setLength_d00df 48 = .ok (.aload_n 0, 1) := by decide +kernel
theorem dJ5_setLength_d00df_49 : decode cJ5_setLength_d00df 49 = .ok (.getfield 15, 3) := by decide +kernel
theorem dJ5_setLength_d00df_52 : decode cJ5_setLength_d00df 52 = .ok (.aload_n 0, 1) := by decide +kernel
theorem dJ5_setLength_d00df_53 : decode cJ5_setLength_d00df 53 = .ok (.getfield 79, 3) := by decide +kernel
theorem dJ5_setLength_d00df_56 : decode cJ5_setLength_d00df 56 = .ok (.iload_n 1, 1) := by decide +kernel
theorem dJ5_setLength_d00df_57 : decode cJ5_setLength_d00df 57 = .ok (.invokestatic 137, 3) := by decide +kernel
theorem dJ5_setLength_d00df_60 : decode cJ5_setLength_d00df 60 = .ok (.goto 16, 3) := by decide +kernel
theorem dJ5_setLength_d00df_63 : decode cJ5_setLength_d00df 63 = .ok (.aload_n 0, 1) := by decide +kernel
theorem dJ5_setLength_d00df_64 : decode cJ5_setLength_d00df 64 = .ok (.getfield 79, 3) := by decide +kernel
theorem dJ5_setLength_d00df_67 : decode cJ5_setLength_d00df 67 = .ok (.iload_n 1, 1) := by decide +kernel
theorem dJ5_setLength_d00df_68 : decode cJ5_setLength_d00df 68 = .ok (.if_icmp .le 8, 3) := by decide +kernel
theorem dJ5_setLength_d00df_71 : decode cJ5_setLength_d00df 71 = .ok (.aload_n 0, 1) := by decide +kernel
theorem dJ5_setLength_d00df_72 : decode cJ5_setLength_d00df 72 = .ok (.iconst 1, 1) := by decide +kernel
theorem dJ5_setLength_d00df_73 : decode cJ5_setLength_d00df 73 = .ok (.putfield 73, 3) := by decide +kernel
theorem dJ5_setLength_d00df_76 : decode cJ5_setLength_d00df 76 = .ok (.aload_n 0, 1) := by decide +kernel
theorem dJ5_setLength_d00df_77 : decode cJ5_setLength_d00df 77 = .ok (.iload_n 1, 1) := by decide +kernel
theorem dJ5_setLength_d00df_78 : decode cJ5_setLength_d00df 78 = .ok (.putfield 79, 3) := by decide +kernel
theorem dJ5_setLength_d00df_81 : decode cJ5_setLength_d00df 81 = .ok (.return_, 1) := by decide +kernel
theorem dJ4_setLength_d00df_0 : decode cJ4_setLength_d00df 0 = .ok (.aload_n 0, 1) := by decide +kernel
theorem dJ4_setLength_d00df_1 : decode cJ4_setLength_d00df 1 = .ok (.iload_n 1, 1) := by decide +kernel
theorem dJ4_setLength_d00df_2 : decode cJ4_setLength_d00df 2 = .ok (.invokespecial 333, 3) := by decide +kernel
theorem dJ4_setLength_d00df_5 : decode cJ4_setLength_d00df 5 = .ok (.return_, 1) := by decide +kernel
theorem dX6_clearText_0 : decode cX6_clearText 0 = .ok (.aload_n 0, 1) := by decide +kernel
theorem dX6_clearText_1 : decode cX6_clearText 1 = .ok (.getfield 12, 3) := by decide +kernel
theorem dX6_clearText_4 : decode cX6_clearText 4 = .ok (.iconst 0, 1) := by decide +kernel
theorem dX6_clearText_5 : decode cX6_clearText 5 = .ok (.invokevirtual 52, 3) := by decide +kernel
theorem dX6_clearText_8 : decode cX6_clearText 8 = .ok (.return_, 1) := by decide +kernel
theorem dX6_valueAt_0 : decode cX6_valueAt 0 = .ok (.iload_n 1, 1) := by decide +kernel
theorem dX6_valueAt_1 : decode cX6_valueAt 1 = .ok (.ifCond .lt 14, 3) := by decide +kernel
theorem dX6_valueAt_4 : decode cX6_valueAt 4 = .ok (.iload_n 1, 1) := by decide +kernel
theorem dX6_valueAt_5 : decode cX6_valueAt 5 = .ok (.aload_n 0, 1) := by decide +kernel
theorem dX6_valueAt_6 : decode cX6_valueAt 6 = .ok (.getfield 12, 3) := by decide +kernel
theorem dX6_valueAt_9 : decode cX6_valueAt 9 = .ok (.invokevirtual 44, 3) := by decide +kernel
theorem dX6_valueAt_12 : decode cX6_valueAt 12 = .ok (.if_icmp .lt 5, 3) := by decide +kernel
theorem dX6_valueAt_15 : decode cX6_valueAt 15 = .ok (.iconst (-1), 1) := by decide +kernel
theorem dX6_valueAt_16 : decode cX6_valueAt 16 = .ok (.ireturn, 1) := by decide +kernel
theorem dX6_valueAt_17 : decode cX6_valueAt 17 = .ok (.aload_n 0, 1) := by decide +kernel
theorem dX6_valueAt_18 : decode cX6_valueAt 18 = .ok (.getfield 12, 3) := by decide +kernel
theorem dX6_valueAt_21 : decode cX6_valueAt 21 = .ok (.iload_n 1, 1) := by decide +kernel
theorem dX6_valueAt_22 : decode cX6_valueAt 22 = .ok (.invokevirtual 100, 3) := by decide +kernel
theorem dX6_valueAt_25 : decode cX6_valueAt 25 = .ok (.istore_n 3, 1) := by decide +kernel
theorem dX6_valueAt_26 : decode cX6_valueAt 26 = .ok (.iload_n 2, 1) := by decide +kernel
theorem dX6_valueAt_27 : decode cX6_valueAt 27 = .ok (.bipush 35, 2) := by decide +kernel
theorem dX6_valueAt_29 : decode cX6_valueAt 29 = .ok (.if_icmp .eq 9, 3) := by decide +kernel
theorem dX6_valueAt_32 : decode cX6_valueAt 32 = .ok (.iload_n 2, 1) := by decide +kernel
theorem dX6_valueAt_33 : decode cX6_valueAt 33 = .ok (.bipush 36, 2) := by decide +kernel
theorem dX6_valueAt_35 : decode cX6_valueAt 35 = .ok (.if_icmp .ne 24, 3) := by decide +kernel
theorem dX6_valueAt_38 : decode cX6_valueAt 38 = .ok (.iload_n 3, 1) := by decide +kernel
theorem dX6_valueAt_39 : decode cX6_valueAt 39 = .ok (.bipush 48, 2) := by decide +kernel
theorem dX6_valueAt_41 : decode cX6_valueAt 41 = .ok (.if_icmp .lt 16, 3) := by decide +kernel
theorem dX6_valueAt_44 : decode cX6_valueAt 44 = .ok (.iload_n 3, 1) := by decide +kernel
theorem dX6_valueAt_45 : decode cX6_valueAt 45 = .ok (.bipush 57, 2) := by decide +kernel
theorem dX6_valueAt_47 : decode cX6_valueAt 47 = .ok (.if_icmp .gt 10, 3) := by decide +kernel
theorem dX6_valueAt_50 : decode cX6_valueAt 50 = .ok (.iload_n 3, 1) := by decide +kernel
theorem dX6_valueAt_51 : decode cX6_valueAt 51 = .ok (.bipush 48, 2) := by decide +kernel
theorem dX6_valueAt_53 : decode cX6_valueAt 53 = .ok (.isub, 1) := by decide +kernel
theorem dX6_valueAt_54 : decode cX6_valueAt 54 = .ok (.goto 4, 3) := by decide +kernel
theorem dX6_valueAt_57 : decode cX6_valueAt 57 = .ok (.iconst (-1), 1) := by decide +kernel
theorem dX6_valueAt_58 : decode cX6_valueAt 58 = .ok (.ireturn, 1) := by decide +kernel
theorem dX6_valueAt_59 : decode cX6_valueAt 59 = .ok (.iload_n 2, 1) := by decide +kernel
theorem dX6_valueAt_60 : decode cX6_valueAt 60 = .ok (.bipush 64, 2) := by decide +kernel
theorem dX6_valueAt_62 : decode cX6_valueAt 62 = .ok (.if_icmp .ne 24, 3) := by decide +kernel
theorem dX6_valueAt_65 : decode cX6_valueAt 65 = .ok (.iload_n 3, 1) := by decide +kernel
theorem dX6_valueAt_66 : decode cX6_valueAt 66 = .ok (.bipush 97, 2) := by decide +kernel
theorem dX6_valueAt_68 : decode cX6_valueAt 68 = .ok (.if_icmp .lt 16, 3) := by decide +kernel
theorem dX6_valueAt_71 : decode cX6_valueAt 71 = .ok (.iload_n 3, 1) := by decide +kernel
theorem dX6_valueAt_72 : decode cX6_valueAt 72 = .ok (.bipush 103, 2) := by decide +kernel
theorem dX6_valueAt_74 : decode cX6_valueAt 74 = .ok (.if_icmp .ge 10, 3) := by decide +kernel
theorem dX6_valueAt_77 : decode cX6_valueAt 77 = .ok (.iload_n 3, 1) := by decide +kernel
theorem dX6_valueAt_78 : decode cX6_valueAt 78 = .ok (.bipush 97, 2) := by decide +kernel
theorem dX6_valueAt_80 : decode cX6_valueAt 80 = .ok (.isub, 1) := by decide +kernel
theorem dX6_valueAt_81 : decode cX6_valueAt 81 = .ok (.goto 4, 3) := by decide +kernel
theorem dX6_valueAt_84 : decode cX6_valueAt 84 = .ok (.iconst (-1), 1) := by decide +kernel
theorem dX6_valueAt_85 : decode cX6_valueAt 85 = .ok (.ireturn, 1) := by decide +kernel
theorem dX6_valueAt_86 : decode cX6_valueAt 86 = .ok (.iload_n 3, 1) := by decide +kernel
theorem dX6_valueAt_87 : decode cX6_valueAt 87 = .ok (.iload_n 2, 1) := by decide +kernel
theorem dX6_valueAt_88 : decode cX6_valueAt 88 = .ok (.if_icmp .ne 7, 3) := by decide +kernel
theorem dX6_valueAt_91 : decode cX6_valueAt 91 = .ok (.iconst 0, 1) := by decide +kernel
theorem dX6_valueAt_92 : decode cX6_valueAt 92 = .ok (.goto 4, 3) := by decide +kernel
theorem dX6_valueAt_95 : decode cX6_valueAt 95 = .ok (.iconst (-1), 1) := by decide +kernel
theorem dX6_valueAt_96 : decode cX6_valueAt 96 = .ok (.ireturn, 1) := by decide +kernel
theorem dX6_readSign_0 : decode cX6_readSign 0 = .ok (.aload_n 0, 1) := by decide +kernel
theorem dX6_readSign_1 : decode cX6_readSign 1 = .ok (.aload_n 0, 1) := by decide +kernel
theorem dX6_readSign_2 : decode cX6_readSign 2 = .ok (.getfield 41, 3) := by decide +kernel
theorem dX6_readSign_5 : decode cX6_readSign 5 = .ok (.iload_n 1, 1) := by decide +kernel
theorem dX6_readSign_6 : decode cX6_readSign 6 = .ok (.invokevirtual 101, 3) := by decide +kernel
theorem dX6_readSign_9 : decode cX6_readSign 9 = .ok (.istore_n 2, 1) := by decide +kernel
theorem dX6_readSign_10 : decode cX6_readSign 10 = .ok (.iload_n 2, 1) := by decide +kernel
theorem dX6_readSign_11 : decode cX6_readSign 11 = .ok (.ifCond .ge 5, 3) := by decide +kernel
theorem dX6_readSign_14 : decode cX6_readSign 14 = .ok (.iconst (-1), 1) := by decide +kernel
theorem dX6_readSign_15 : decode cX6_readSign 15 = .ok (.ireturn, 1) := by decide +kernel
theorem dX6_readSign_16 : decode cX6_readSign 16 = .ok (.aload_n 0, 1) := by decide +kernel
theorem dX6_readSign_17 : decode cX6_readSign 17 = .ok (.dup, 1) := by decide +kernel
theorem dX6_readSign_18 : decode cX6_readSign 18 = .ok (.getfield 41, 3) := by decide +kernel
theorem dX6_readSign_21 : decode cX6_readSign 21 = .ok (.iconst 1, 1) := by decide +kernel
theorem dX6_readSign_22 : decode cX6_readSign 22 = .ok (.iadd, 1) := by decide +kernel
theorem dX6_readSign_23 : decode cX6_readSign 23 = .ok (.putfield 41, 3) := by decide +kernel
theorem dX6_readSign_26 : decode cX6_readSign 26 = .ok (.iload_n 1, 1) := by decide +kernel
theorem dX6_readSign_27 : decode cX6_readSign 27 = .ok (.bipush 35, 2) := by decide +kernel
theorem dX6_readSign_29 : decode cX6_readSign 29 = .ok (.if_icmp .ne 15, 3) := by decide +kernel
theorem dX6_readSign_32 : decode cX6_readSign 32 = .ok (.aload_n 0, 1) := by decide +kernel
theorem dX6_readSign_33 : decode cX6_readSign 33 = .ok (.aload_n 0, 1) := by decide +kernel
theorem dX6_readSign_34 : decode cX6_readSign 34 = .ok (.getfield 41, 3) := by decide +kernel
theorem dX6_readSign_37 : decode cX6_readSign 37 = .ok (.iload_n 1, 1) := by decide +kernel
theorem dX6_readSign_38 : decode cX6_readSign 38 = .ok (.invokevirtual 101, 3) := by decide +kernel
theorem dX6_readSign_41 : decode cX6_readSign 41 = .ok (.goto 4, 3) := by decide +kernel
theorem dX6_readSign_44 : decode cX6_readSign 44 = .ok (.iconst (-1), 1) := by decide +kernel
theorem dX6_readSign_45 : decode cX6_readSign 45 = .ok (.istore_n 3, 1) := by decide +kernel
theorem dX6_readSign_46 : decode cX6_readSign 46 = .ok (.iload_n 3, 1) := by decide +kernel
theorem dX6_readSign_47 : decode cX6_readSign 47 = .ok (.ifCond .lt 20, 3) := by decide +kernel
theorem dX6_readSign_50 : decode cX6_readSign 50 = .ok (.aload_n 0, 1) := by decide +kernel
theorem dX6_readSign_51 : decode cX6_readSign 51 = .ok (.dup, 1) := by decide +kernel
theorem dX6_readSign_52 : decode cX6_readSign 52 = .ok (.getfield 41, 3) := by decide +kernel
theorem dX6_readSign_55 : decode cX6_readSign 55 = .ok (.iconst 1, 1) := by decide +kernel
theorem dX6_readSign_56 : decode cX6_readSign 56 = .ok (.iadd, 1) := by decide +kernel
theorem dX6_readSign_57 : decode cX6_readSign 57 = .ok (.putfield 41, 3) := by decide +kernel
theorem dX6_readSign_60 : decode cX6_readSign 60 = .ok (.iload_n 2, 1) := by decide +kernel
theorem dX6_readSign_61 : decode cX6_readSign 61 = .ok (.bipush 10, 2) := by decide +kernel
theorem dX6_readSign_63 : decode cX6_readSign 63 = .ok (.imul, 1) := by decide +kernel
theorem dX6_readSign_64 : decode cX6_readSign 64 = .ok (.iload_n 3, 1) := by decide +kernel
theorem dX6_readSign_65 : decode cX6_readSign 65 = .ok (.iadd, 1) := by decide +kernel
theorem dX6_readSign_66 : decode cX6_readSign 66 = .ok (.istore_n 2, 1) := by decide +kernel
theorem dX6_readSign_67 : decode cX6_readSign 67 = .ok (.iload_n 2, 1) := by decide +kernel
theorem dX6_readSign_68 : decode cX6_readSign 68 = .ok (.ireturn, 1) := by decide +kernel
theorem dX6_fits_0 : decode cX6_fits 0 = .ok (.iconst 0, 1) := by decide +kernel
theorem dX6_fits_1 : decode cX6_fits 1 = .ok (.istore_n 2, 1) := by decide +kernel
theorem dX6_fits_2 : decode cX6_fits 2 = .ok (.iconst 0, 1) := by decide +kernel
theorem dX6_fits_3 : decode cX6_fits 3 = .ok (.istore_n 3, 1) := by decide +kernel
theorem dX6_fits_4 : decode cX6_fits 4 = .ok (.iload_n 3, 1) := by decide +kernel
theorem dX6_fits_5 : decode cX6_fits 5 = .ok (.aload_n 1, 1) := by decide +kernel
theorem dX6_fits_6 : decode cX6_fits 6 = .ok (.invokevirtual 85, 3) := by decide +kernel
theorem dX6_fits_9 : decode cX6_fits 9 = .ok (.if_icmp .ge 59, 3) := by decide +kernel
theorem dX6_fits_12 : decode cX6_fits 12 = .ok (.aload_n 1, 1) := by decide +kernel
theorem dX6_fits_13 : decode cX6_fits 13 = .ok (.iload_n 3, 1) := by decide +kernel
theorem dX6_fits_14 : decode cX6_fits 14 = .ok (.invokevirtual 88, 3) := by decide +kernel
theorem dX6_fits_17 : decode cX6_fits 17 = .ok (.istore 4, 2) := by decide +kernel
theorem dX6_fits_19 : decode cX6_fits 19 = .ok (.aload_n 0, 1) := by decide +kernel
theorem dX6_fits_20 : decode cX6_fits 20 = .ok (.iload 4, 2) := by decide +kernel
theorem dX6_fits_22 : decode cX6_fits 22 = .ok (.invokevirtual 92, 3) := by decide +kernel
theorem dX6_fits_25 : decode cX6_fits 25 = .ok (.istore 5, 2) := by decide +kernel
theorem dX6_fits_27 : decode cX6_fits 27 = .ok (.iload 5, 2) := by decide +kernel
theorem dX6_fits_29 : decode cX6_fits 29 = .ok (.ifCond .ge 5, 3) := by decide +kernel
theorem dX6_fits_32 : decode cX6_fits 32 = .ok (.iconst 0, 1) := by decide +kernel
theorem dX6_fits_33 : decode cX6_fits 33 = .ok (.ireturn, 1) := by decide +kernel
theorem dX6_fits_34 : decode cX6_fits 34 = .ok (.iload 4, 2) := by decide +kernel
theorem dX6_fits_36 : decode cX6_fits 36 = .ok (.invokestatic 96, 3) := by decide +kernel
theorem dX6_fits_39 : decode cX6_fits 39 = .ok (.ifCond .eq 23, 3) := by decide +kernel
theorem dX6_fits_42 : decode cX6_fits 42 = .ok (.iload_n 2, 1) := by decide +kernel
theorem dX6_fits_43 : decode cX6_fits 43 = .ok (.aload_n 0, 1) := by decide +kernel
theorem dX6_fits_44 : decode cX6_fits 44 = .ok (.getfield 38, 3) := by decide +kernel
theorem dX6_fits_47 : decode cX6_fits 47 = .ok (.arraylength, 1) := by decide +kernel
theorem dX6_fits_48 : decode cX6_fits 48 = .ok (.if_icmp .ge 14, 3) := by decide +kernel
theorem dX6_fits_51 : decode cX6_fits 51 = .ok (.aload_n 0, 1) := by decide +kernel
theorem dX6_fits_52 : decode cX6_fits 52 = .ok (.getfield 38, 3) := by decide +kernel
theorem dX6_fits_55 : decode cX6_fits 55 = .ok (.iload_n 2, 1) := by decide +kernel
theorem dX6_fits_56 : decode cX6_fits 56 = .ok (.iload 5, 2) := by decide +kernel
theorem dX6_fits_58 : decode cX6_fits 58 = .ok (.iastore, 1) := by decide +kernel
theorem dX6_fits_59 : decode cX6_fits 59 = .ok (.iinc 2 1, 3) := by decide +kernel
theorem dX6_fits_62 : decode cX6_fits 62 = .ok (.iinc 3 1, 3) := by decide +kernel
theorem dX6_fits_65 : decode cX6_fits 65 = .ok (.goto (-61), 3) := by decide +kernel
theorem dX6_fits_68 : decode cX6_fits 68 = .ok (.iconst 1, 1) := by decide +kernel
theorem dX6_fits_69 : decode cX6_fits 69 = .ok (.ireturn, 1) := by decide +kernel
theorem dX6_isOrderEnd_0 : decode cX6_isOrderEnd 0 = .ok (.aload_n 0, 1) := by decide +kernel
theorem dX6_isOrderEnd_1 : decode cX6_isOrderEnd 1 = .ok (.getfield 41, 3) := by decide +kernel
theorem dX6_isOrderEnd_4 : decode cX6_isOrderEnd 4 = .ok (.aload_n 0, 1) := by decide +kernel
theorem dX6_isOrderEnd_5 : decode cX6_isOrderEnd 5 = .ok (.getfield 12, 3) := by decide +kernel
theorem dX6_isOrderEnd_8 : decode cX6_isOrderEnd 8 = .ok (.invokevirtual 44, 3) := by decide +kernel
theorem dX6_isOrderEnd_11 : decode cX6_isOrderEnd 11 = .ok (.if_icmp .ge 19, 3) := by decide +kernel
theorem dX6_isOrderEnd_14 : decode cX6_isOrderEnd 14 = .ok (.aload_n 0, 1) := by decide +kernel
theorem dX6_isOrderEnd_15 : decode cX6_isOrderEnd 15 = .ok (.getfield 12, 3) := by decide +kernel
theorem dX6_isOrderEnd_18 : decode cX6_isOrderEnd 18 = .ok (.aload_n 0, 1) := by decide +kernel
theorem dX6_isOrderEnd_19 : decode cX6_isOrderEnd 19 = .ok (.getfield 41, 3) := by decide +kernel
theorem dX6_isOrderEnd_22 : decode cX6_isOrderEnd 22 = .ok (.invokevirtual 100, 3) := by decide +kernel
theorem dX6_isOrderEnd_25 : decode cX6_isOrderEnd 25 = .ok (.bipush 59, 2) := by decide +kernel
theorem dX6_isOrderEnd_27 : decode cX6_isOrderEnd 27 = .ok (.if_icmp .ne 7, 3) := by decide +kernel
theorem dX6_isOrderEnd_30 : decode cX6_isOrderEnd 30 = .ok (.iconst 1, 1) := by decide +kernel
theorem dX6_isOrderEnd_31 : decode cX6_isOrderEnd 31 = .ok (.goto 4, 3) := by decide +kernel
theorem dX6_isOrderEnd_34 : decode cX6_isOrderEnd 34 = .ok (.iconst 0, 1) := by decide +kernel
theorem dX6_isOrderEnd_35 : decode cX6_isOrderEnd 35 = .ok (.ireturn, 1) := by decide +kernel
theorem dX6_readOrder_0 : decode cX6_readOrder 0 = .ok (.iload_n 1, 1) := by decide +kernel
theorem dX6_readOrder_1 : decode cX6_readOrder 1 = .ok (.istore_n 2, 1) := by decide +kernel
theorem dX6_readOrder_2 : decode cX6_readOrder 2 = .ok (.iconst 0, 1) := by decide +kernel
theorem dX6_readOrder_3 : decode cX6_readOrder 3 = .ok (.istore_n 3, 1) := by decide +kernel
theorem dX6_readOrder_4 : decode cX6_readOrder 4 = .ok (.iload_n 3, 1) := by decide +kernel
theorem dX6_readOrder_5 : decode cX6_readOrder 5 = .ok (.getstatic 60, 3) := by decide +kernel
theorem dX6_readOrder_8 : decode cX6_readOrder 8 = .ok (.arraylength, 1) := by decide +kernel
theorem dX6_readOrder_9 : decode cX6_readOrder 9 = .ok (.if_icmp .ge 57, 3) := by decide +kernel
theorem dX6_readOrder_12 : decode cX6_readOrder 12 = .ok (.aload_n 0, 1) := by decide +kernel
theorem dX6_readOrder_13 : decode cX6_readOrder 13 = .ok (.iload_n 1, 1) := by decide +kernel
theorem dX6_readOrder_14 : decode cX6_readOrder 14 = .ok (.putfield 41, 3) := by decide +kernel
theorem dX6_readOrder_17 : decode cX6_readOrder 17 = .ok (.aload_n 0, 1) := by decide +kernel
theorem dX6_readOrder_18 : decode cX6_readOrder 18 = .ok (.getstatic 60, 3) := by decide +kernel
theorem dX6_readOrder_21 : decode cX6_readOrder 21 = .ok (.iload_n 3, 1) := by decide +kernel
theorem dX6_readOrder_22 : decode cX6_readOrder 22 = .ok (.aaload, 1) := by decide +kernel
theorem dX6_readOrder_23 : decode cX6_readOrder 23 = .ok (.getfield 63, 3) := by decide +kernel
theorem dX6_readOrder_26 : decode cX6_readOrder 26 = .ok (.invokevirtual 67, 3) := by decide +kernel
theorem dX6_readOrder_29 : decode cX6_readOrder 29 = .ok (.ifCond .eq 22, 3) := by decide +kernel
theorem dX6_readOrder_32 : decode cX6_readOrder 32 = .ok (.aload_n 0, 1) := by decide +kernel
theorem dX6_readOrder_33 : decode cX6_readOrder 33 = .ok (.invokevirtual 71, 3) := by decide +kernel
theorem dX6_readOrder_36 : decode cX6_readOrder 36 = .ok (.ifCond .eq 15, 3) := by decide +kernel
theorem dX6_readOrder_39 : decode cX6_readOrder 39 = .ok (.aload_n 0, 1) := by decide +kernel
theorem dX6_readOrder_40 : decode cX6_readOrder 40 = .ok (.getstatic 60, 3) := by decide +kernel
theorem dX6_readOrder_43 : decode cX6_readOrder 43 = .ok (.iload_n 3, 1) := by decide +kernel
theorem dX6_readOrder_44 : decode cX6_readOrder 44 = .ok (.aaload, 1) := by decide +kernel
theorem dX6_readOrder_45 : decode cX6_readOrder 45 = .ok (.invokevirtual 75, 3) := by decide +kernel
theorem dX6_readOrder_48 : decode cX6_readOrder 48 = .ok (.bipush (-15), 2) := by decide +kernel
theorem dX6_readOrder_50 : decode cX6_readOrder 50 = .ok (.ireturn, 1) := by decide +kernel
theorem dX6_readOrder_51 : decode cX6_readOrder 51 = .ok (.iload_n 2, 1) := by decide +kernel
theorem dX6_readOrder_52 : decode cX6_readOrder 52 = .ok (.aload_n 0, 1) := by decide +kernel
theorem dX6_readOrder_53 : decode cX6_readOrder 53 = .ok (.getfield 41, 3) := by decide +kernel
theorem dX6_readOrder_56 : decode cX6_readOrder 56 = .ok (.invokestatic 79, 3) := by decide +kernel
theorem dX6_readOrder_59 : decode cX6_readOrder 59 = .ok (.istore_n 2, 1) := by decide +kernel
theorem dX6_readOrder_60 : decode cX6_readOrder 60 = .ok (.iinc 3 1, 3) := by decide +kernel
theorem dX6_readOrder_63 : decode cX6_readOrder 63 = .ok (.goto (-59), 3) := by decide +kernel
theorem dX6_readOrder_66 : decode cX6_readOrder 66 = .ok (.iload_n 2, 1) := by decide +kernel
theorem dX6_readOrder_67 : decode cX6_readOrder 67 = .ok (.ireturn, 1) := by decide +kernel
theorem dX6_read_0 : decode cX6_read 0 = .ok (.aload_n 0, 1) := by decide +kernel
theorem dX6_read_1 : decode cX6_read 1 = .ok (.iconst 0, 1) := by decide +kernel
theorem dX6_read_2 : decode cX6_read 2 = .ok (.putfield 34, 3) := by decide +kernel
theorem dX6_read_5 : decode cX6_read 5 = .ok (.iconst 0, 1) := by decide +kernel
theorem dX6_read_6 : decode cX6_read 6 = .ok (.istore_n 1, 1) := by decide +kernel
theorem dX6_read_7 : decode cX6_read 7 = .ok (.iconst 0, 1) := by decide +kernel
theorem dX6_read_8 : decode cX6_read 8 = .ok (.istore_n 2, 1) := by decide +kernel
theorem dX6_read_9 : decode cX6_read 9 = .ok (.iload_n 2, 1) := by decide +kernel
theorem dX6_read_10 : decode cX6_read 10 = .ok (.aload_n 0, 1) := by decide +kernel
theorem dX6_read_11 : decode cX6_read 11 = .ok (.getfield 20, 3) := by decide +kernel
theorem dX6_read_14 : decode cX6_read 14 = .ok (.arraylength, 1) := by decide +kernel
theorem dX6_read_15 : decode cX6_read 15 = .ok (.if_icmp .ge 47, 3) := by decide +kernel
theorem dX6_read_18 : decode cX6_read 18 = .ok (.aload_n 0, 1) := by decide +kernel
theorem dX6_read_19 : decode cX6_read 19 = .ok (.iload_n 1, 1) := by decide +kernel
theorem dX6_read_20 : decode cX6_read 20 = .ok (.invokevirtual 56, 3) := by decide +kernel
theorem dX6_read_23 : decode cX6_read 23 = .ok (.istore_n 3, 1) := by decide +kernel
theorem dX6_read_24 : decode cX6_read 24 = .ok (.iload_n 3, 1) := by decide +kernel
theorem dX6_read_25 : decode cX6_read 25 = .ok (.bipush (-15), 2) := by decide +kernel
theorem dX6_read_27 : decode cX6_read 27 = .ok (.if_icmp .eq 5, 3) := by decide +kernel
theorem dX6_read_30 : decode cX6_read 30 = .ok (.iload_n 3, 1) := by decide +kernel
theorem dX6_read_31 : decode cX6_read 31 = .ok (.ireturn, 1) := by decide +kernel
theorem dX6_read_32 : decode cX6_read 32 = .ok (.aload_n 0, 1) := by decide +kernel
theorem dX6_read_33 : decode cX6_read 33 = .ok (.getfield 41, 3) := by decide +kernel
theorem dX6_read_36 : decode cX6_read 36 = .ok (.aload_n 0, 1) := by decide +kernel
theorem dX6_read_37 : decode cX6_read 37 = .ok (.getfield 12, 3) := by decide +kernel
theorem dX6_read_40 : decode cX6_read 40 = .ok (.invokevirtual 44, 3) := by decide +kernel
theorem dX6_read_43 : decode cX6_read 43 = .ok (.if_icmp .lt 6, 3) := by decide +kernel
theorem dX6_read_46 : decode cX6_read 46 = .ok (.bipush (-15), 2) := by decide +kernel
theorem dX6_read_48 : decode cX6_read 48 = .ok (.ireturn, 1) := by decide +kernel
theorem dX6_read_49 : decode cX6_read 49 = .ok (.aload_n 0, 1) := by decide +kernel
theorem dX6_read_50 : decode cX6_read 50 = .ok (.getfield 41, 3) := by decide +kernel
theorem dX6_read_53 : decode cX6_read 53 = .ok (.iconst 1, 1) := by decide +kernel
theorem dX6_read_54 : decode cX6_read 54 = .ok (.iadd, 1) := by decide +kernel
theorem dX6_read_55 : decode cX6_read 55 = .ok (.istore_n 1, 1) := by decide +kernel
theorem dX6_read_56 : decode cX6_read 56 = .ok (.iinc 2 1, 3) := by decide +kernel
theorem dX6_read_59 : decode cX6_read 59 = .ok (.goto (-50), 3) := by decide +kernel
theorem dX6_read_62 : decode cX6_read 62 = .ok (.iload_n 1, 1) := by decide +kernel
theorem dX6_read_63 : decode cX6_read 63 = .ok (.ireturn, 1) := by decide +kernel
theorem dX11_append_0 : decode cX11_append 0 = .ok (.aload_n 0, 1) := by decide +kernel
theorem dX11_append_1 : decode cX11_append 1 = .ok (.getfield 58, 3) := by decide +kernel
theorem dX11_append_4 : decode cX11_append 4 = .ok (.iload_n 1, 1) := by decide +kernel
theorem dX11_append_5 : decode cX11_append 5 = .ok (.invokevirtual 187, 3) := by decide +kernel
theorem dX11_append_8 : decode cX11_append 8 = .ok (.ireturn, 1) := by decide +kernel
theorem dX11_carryOut_0 : decode cX11_carryOut 0 = .ok (.aload_n 0, 1) := by decide +kernel
theorem dX11_carryOut_1 : decode cX11_carryOut 1 = .ok (.getfield 58, 3) := by decide +kernel
theorem dX11_carryOut_4 : decode cX11_carryOut 4 = .ok (.iload_n 1, 1) := by decide +kernel
theorem dX11_carryOut_5 : decode cX11_carryOut 5 = .ok (.invokevirtual 292, 3) := by decide +kernel
theorem dX11_carryOut_8 : decode cX11_carryOut 8 = .ok (.ifCond .ne 6, 3) := by decide +kernel
theorem dX11_carryOut_11 : decode cX11_carryOut 11 = .ok (.bipush (-11), 2) := by decide +kernel
theorem dX11_carryOut_13 : decode cX11_carryOut 13 = .ok (.ireturn, 1) := by decide +kernel
theorem dX11_carryOut_14 : decode cX11_carryOut 14 = .ok (.aload_n 0, 1) := by decide +kernel
theorem dX11_carryOut_15 : decode cX11_carryOut 15 = .ok (.getfield 58, 3) := by decide +kernel
theorem dX11_carryOut_18 : decode cX11_carryOut 18 = .ok (.getfield 295, 3) := by decide +kernel
theorem dX11_carryOut_21 : decode cX11_carryOut 21 = .ok (.iload_n 1, 1) := by decide +kernel
theorem dX11_carryOut_22 : decode cX11_carryOut 22 = .ok (.iaload, 1) := by decide +kernel
theorem dX11_carryOut_23 : decode cX11_carryOut 23 = .ok (.istore_n 2, 1) := by decide +kernel
theorem dX11_carryOut_24 : decode cX11_carryOut 24 = .ok (.aload_n 0, 1) := by decide +kernel
theorem dX11_carryOut_25 : decode cX11_carryOut 25 = .ok (.getfield 58, 3) := by decide +kernel
theorem dX11_carryOut_28 : decode cX11_carryOut 28 = .ok (.getfield 298, 3) := by decide +kernel
theorem dX11_carryOut_31 : decode cX11_carryOut 31 = .ok (.iload_n 1, 1) := by decide +kernel
theorem dX11_carryOut_32 : decode cX11_carryOut 32 = .ok (.iaload, 1) := by decide +kernel
theorem dX11_carryOut_33 : decode cX11_carryOut 33 = .ok (.istore_n 3, 1) := by decide +kernel
theorem dX11_carryOut_34 : decode cX11_carryOut 34 = .ok (.getstatic 301, 3) := by decide +kernel
theorem dX11_carryOut_37 : decode cX11_carryOut 37 = .ok (.aload_n 0, 1) := by decide +kernel
theorem dX11_carryOut_38 : decode cX11_carryOut 38 = .ok (.getfield 58, 3) := by decide +kernel
theorem dX11_carryOut_41 : decode cX11_carryOut 41 = .ok (.getfield 306, 3) := by decide +kernel
theorem dX11_carryOut_44 : decode cX11_carryOut 44 = .ok (.iload_n 1, 1) := by decide +kernel
theorem dX11_carryOut_45 : decode cX11_carryOut 45 = .ok (.aaload, 1) := by decide +kernel
theorem dX11_carryOut_46 : decode cX11_carryOut 46 = .ok (.invokevirtual 310, 3) := by decide +kernel
theorem dX11_carryOut_49 : decode cX11_carryOut 49 = .ok (.iaload, 1) := by decide +kernel
theorem dX11_carryOut_50 : decode cX11_carryOut 50 = .ok (.tableswitch 155 1 10 #[54, 63, 72, 91, 101, 111, 120, 130, 138, 147], 54) := by decide +kernel
theorem dX11_carryOut_104 : decode cX11_carryOut 104 = .ok (.aload_n 0, 1) := by decide +kernel
theorem dX11_carryOut_105 : decode cX11_carryOut 105 = .ok (.getfield 28, 3) := by decide +kernel
theorem dX11_carryOut_108 : decode cX11_carryOut 108 = .ok (.iconst 0, 1) := by decide +kernel
theorem dX11_carryOut_109 : decode cX11_carryOut 109 = .ok (.invokevirtual 72, 3) := by decide +kernel
theorem dX11_carryOut_112 : decode cX11_carryOut 112 = .ok (.ireturn, 1) := by decide +kernel
theorem dX11_carryOut_113 : decode cX11_carryOut 113 = .ok (.aload_n 0, 1) := by decide +kernel
theorem dX11_carryOut_114 : decode cX11_carryOut 114 = .ok (.getfield 28, 3) := by decide +kernel
theorem dX11_carryOut_117 : decode cX11_carryOut 117 = .ok (.iconst 1, 1) := by decide +kernel
theorem dX11_carryOut_118 : decode cX11_carryOut 118 = .ok (.invokevirtual 72, 3) := by decide +kernel
theorem dX11_carryOut_121 : decode cX11_carryOut 121 = .ok (.ireturn, 1) := by decide +kernel
theorem dX11_carryOut_122 : decode cX11_carryOut 122 = .ok (.aload_n 0, 1) := by decide +kernel
theorem dX11_carryOut_123 : decode cX11_carryOut 123 = .ok (.getfield 28, 3) := by decide +kernel
theorem dX11_carryOut_126 : decode cX11_carryOut 126 = .ok (.iload_n 2, 1) := by decide +kernel
theorem dX11_carryOut_127 : decode cX11_carryOut 127 = .ok (.iload_n 3, 1) := by decide +kernel
theorem dX11_carryOut_128 : decode cX11_carryOut 128 = .ok (.aload_n 0, 1) := by decide +kernel
theorem dX11_carryOut_129 : decode cX11_carryOut 129 = .ok (.getfield 58, 3) := by decide +kernel
theorem dX11_carryOut_132 : decode cX11_carryOut 132 = .ok (.getfield 315, 3) := by decide +kernel
theorem dX11_carryOut_135 : decode cX11_carryOut 135 = .ok (.iload_n 1, 1) := by decide +kernel
theorem dX11_carryOut_136 : decode cX11_carryOut 136 = .ok (.iaload, 1) := by decide +kernel
theorem dX11_carryOut_137 : decode cX11_carryOut 137 = .ok (.invokevirtual 80, 3) := by decide +kernel
theorem dX11_carryOut_140 : decode cX11_carryOut 140 = .ok (.ireturn, 1) := by decide +kernel
theorem dX11_carryOut_141 : decode cX11_carryOut 141 = .ok (.aload_n 0, 1) := by decide +kernel
theorem dX11_carryOut_142 : decode cX11_carryOut 142 = .ok (.getfield 28, 3) := by decide +kernel
theorem dX11_carryOut_145 : decode cX11_carryOut 145 = .ok (.iload_n 2, 1) := by decide +kernel
theorem dX11_carryOut_146 : decode cX11_carryOut 146 = .ok (.iload_n 3, 1) := by decide +kernel
theorem dX11_carryOut_147 : decode cX11_carryOut 147 = .ok (.invokevirtual 84, 3) := by decide +kernel
theorem dX11_carryOut_150 : decode cX11_carryOut 150 = .ok (.ireturn, 1) := by decide +kernel
theorem dX11_carryOut_151 : decode cX11_carryOut 151 = .ok (.aload_n 0, 1) := by decide +kernel
theorem dX11_carryOut_152 : decode cX11_carryOut 152 = .ok (.getfield 28, 3) := by decide +kernel
theorem dX11_carryOut_155 : decode cX11_carryOut 155 = .ok (.iload_n 2, 1) := by decide +kernel
theorem dX11_carryOut_156 : decode cX11_carryOut 156 = .ok (.iload_n 3, 1) := by decide +kernel
theorem dX11_carryOut_157 : decode cX11_carryOut 157 = .ok (.invokevirtual 94, 3) := by decide +kernel
theorem dX11_carryOut_160 : decode cX11_carryOut 160 = .ok (.ireturn, 1) := by decide +kernel
theorem dX11_carryOut_161 : decode cX11_carryOut 161 = .ok (.aload_n 0, 1) := by decide +kernel
theorem dX11_carryOut_162 : decode cX11_carryOut 162 = .ok (.getfield 28, 3) := by decide +kernel
theorem dX11_carryOut_165 : decode cX11_carryOut 165 = .ok (.iload_n 2, 1) := by decide +kernel
theorem dX11_carryOut_166 : decode cX11_carryOut 166 = .ok (.invokevirtual 97, 3) := by decide +kernel
theorem dX11_carryOut_169 : decode cX11_carryOut 169 = .ok (.ireturn, 1) := by decide +kernel
theorem dX11_carryOut_170 : decode cX11_carryOut 170 = .ok (.aload_n 0, 1) := by decide +kernel
theorem dX11_carryOut_171 : decode cX11_carryOut 171 = .ok (.getfield 28, 3) := by decide +kernel
theorem dX11_carryOut_174 : decode cX11_carryOut 174 = .ok (.iload_n 2, 1) := by decide +kernel
theorem dX11_carryOut_175 : decode cX11_carryOut 175 = .ok (.iload_n 3, 1) := by decide +kernel
theorem dX11_carryOut_176 : decode cX11_carryOut 176 = .ok (.invokevirtual 88, 3) := by decide +kernel
theorem dX11_carryOut_179 : decode cX11_carryOut 179 = .ok (.ireturn, 1) := by decide +kernel
theorem dX11_carryOut_180 : decode cX11_carryOut 180 = .ok (.aload_n 0, 1) := by decide +kernel
theorem dX11_carryOut_181 : decode cX11_carryOut 181 = .ok (.getfield 35, 3) := by decide +kernel
theorem dX11_carryOut_184 : decode cX11_carryOut 184 = .ok (.invokevirtual 142, 3) := by decide +kernel
theorem dX11_carryOut_187 : decode cX11_carryOut 187 = .ok (.ireturn, 1) := by decide +kernel
theorem dX11_carryOut_188 : decode cX11_carryOut 188 = .ok (.aload_n 0, 1) := by decide +kernel
theorem dX11_carryOut_189 : decode cX11_carryOut 189 = .ok (.getfield 35, 3) := by decide +kernel
theorem dX11_carryOut_192 : decode cX11_carryOut 192 = .ok (.iload_n 2, 1) := by decide +kernel
theorem dX11_carryOut_193 : decode cX11_carryOut 193 = .ok (.invokevirtual 139, 3) := by decide +kernel
theorem dX11_carryOut_196 : decode cX11_carryOut 196 = .ok (.ireturn, 1) := by decide +kernel
theorem dX11_carryOut_197 : decode cX11_carryOut 197 = .ok (.aload_n 0, 1) := by decide +kernel
theorem dX11_carryOut_198 : decode cX11_carryOut 198 = .ok (.getfield 35, 3) := by decide +kernel
theorem dX11_carryOut_201 : decode cX11_carryOut 201 = .ok (.invokevirtual 145, 3) := by decide +kernel
theorem dX11_carryOut_204 : decode cX11_carryOut 204 = .ok (.ireturn, 1) := by decide +kernel
theorem dX11_carryOut_205 : decode cX11_carryOut 205 = .ok (.bipush (-11), 2) := by decide +kernel
theorem dX11_carryOut_207 : decode cX11_carryOut 207 = .ok (.ireturn, 1) := by decide +kernel
theorem dX11_run_0 : decode cX11_run 0 = .ok (.aload_n 0, 1) := by decide +kernel
theorem dX11_run_1 : decode cX11_run 1 = .ok (.getfield 58, 3) := by decide +kernel
theorem dX11_run_4 : decode cX11_run 4 = .ok (.invokevirtual 190, 3) := by decide +kernel
theorem dX11_run_7 : decode cX11_run 7 = .ok (.istore_n 1, 1) := by decide +kernel
theorem dX11_run_8 : decode cX11_run 8 = .ok (.aload_n 0, 1) := by decide +kernel
theorem dX11_run_9 : decode cX11_run 9 = .ok (.getfield 58, 3) := by decide +kernel
theorem dX11_run_12 : decode cX11_run 12 = .ok (.invokevirtual 193, 3) := by decide +kernel
theorem dX11_run_15 : decode cX11_run 15 = .ok (.iload_n 1, 1) := by decide +kernel
theorem dX11_run_16 : decode cX11_run 16 = .ok (.bipush (-15), 2) := by decide +kernel
theorem dX11_run_18 : decode cX11_run 18 = .ok (.if_icmp .eq 9, 3) := by decide +kernel
theorem dX11_run_21 : decode cX11_run 21 = .ok (.sipush (-1000), 3) := by decide +kernel
theorem dX11_run_24 : decode cX11_run 24 = .ok (.iload_n 1, 1) := by decide +kernel
theorem dX11_run_25 : decode cX11_run 25 = .ok (.isub, 1) := by decide +kernel
theorem dX11_run_26 : decode cX11_run 26 = .ok (.ireturn, 1) := by decide +kernel
theorem dX11_run_27 : decode cX11_run 27 = .ok (.aload_n 0, 1) := by decide +kernel
theorem dX11_run_28 : decode cX11_run 28 = .ok (.getfield 51, 3) := by decide +kernel
theorem dX11_run_31 : decode cX11_run 31 = .ok (.invokevirtual 69, 3) := by decide +kernel
theorem dX11_run_34 : decode cX11_run 34 = .ok (.iconst 0, 1) := by decide +kernel
theorem dX11_run_35 : decode cX11_run 35 = .ok (.istore_n 2, 1) := by decide +kernel
theorem dX11_run_36 : decode cX11_run 36 = .ok (.iload_n 2, 1) := by decide +kernel
theorem dX11_run_37 : decode cX11_run 37 = .ok (.aload_n 0, 1) := by decide +kernel
theorem dX11_run_38 : decode cX11_run 38 = .ok (.getfield 58, 3) := by decide +kernel
theorem dX11_run_41 : decode cX11_run 41 = .ok (.getfield 196, 3) := by decide +kernel
theorem dX11_run_44 : decode cX11_run 44 = .ok (.if_icmp .ge 38, 3) := by decide +kernel
theorem dX11_run_47 : decode cX11_run 47 = .ok (.aload_n 0, 1) := by decide +kernel
theorem dX11_run_48 : decode cX11_run 48 = .ok (.iload_n 2, 1) := by decide +kernel
theorem dX11_run_49 : decode cX11_run 49 = .ok (.invokevirtual 200, 3) := by decide +kernel
theorem dX11_run_52 : decode cX11_run 52 = .ok (.invokestatic 203, 3) := by decide +kernel
theorem dX11_run_55 : decode cX11_run 55 = .ok (.ifCond .eq 21, 3) := by decide +kernel
theorem dX11_run_58 : decode cX11_run 58 = .ok (.aload_n 0, 1) := by decide +kernel
theorem dX11_run_59 : decode cX11_run 59 = .ok (.getfield 51, 3) := by decide +kernel
theorem dX11_run_62 : decode cX11_run 62 = .ok (.invokevirtual 206, 3) := by decide +kernel
theorem dX11_run_65 : decode cX11_run 65 = .ok (.aload_n 0, 1) := by decide +kernel
theorem dX11_run_66 : decode cX11_run 66 = .ok (.getfield 19, 3) := by decide +kernel
theorem dX11_run_69 : decode cX11_run 69 = .ok (.bipush 8, 2) := by decide +kernel
theorem dX11_run_71 : decode cX11_run 71 = .ok (.iload_n 2, 1) := by decide +kernel
theorem dX11_run_72 : decode cX11_run 72 = .ok (.invokevirtual 209, 3) := by decide +kernel
theorem dX11_run_75 : decode cX11_run 75 = .ok (.ireturn, 1) := by decide +kernel
theorem dX11_run_76 : decode cX11_run 76 = .ok (.iinc 2 1, 3) := by decide +kernel
theorem dX11_run_79 : decode cX11_run 79 = .ok (.goto (-43), 3) := by decide +kernel
theorem dX11_run_82 : decode cX11_run 82 = .ok (.aload_n 0, 1) := by decide +kernel
theorem dX11_run_83 : decode cX11_run 83 = .ok (.getfield 51, 3) := by decide +kernel
theorem dX11_run_86 : decode cX11_run 86 = .ok (.aload_n 0, 1) := by decide +kernel
theorem dX11_run_87 : decode cX11_run 87 = .ok (.getfield 58, 3) := by decide +kernel
theorem dX11_run_90 : decode cX11_run 90 = .ok (.getfield 196, 3) := by decide +kernel
theorem dX11_run_93 : decode cX11_run 93 = .ok (.invokevirtual 76, 3) := by decide +kernel
theorem dX11_run_96 : decode cX11_run 96 = .ok (.ireturn, 1) := by decide +kernel
def f_J7_rangeCheck_23922 (μ : mu_T) (a0 : Int) (a1 : Int) (a2 : Int) : Option mu_T :=
  lt_ a2 a1
      (none)
      (lt_ a1 0
      (none)
      (lt_ a0 a2
      (none)
      (some μ)))
set_option maxHeartbeats 4000000 in
set_option maxRecDepth 100000 in
theorem c_J7_rangeCheck_23922 {G : gp_} {ad : Nat → Nat} (μ : mu_T) (a0 : Int) (a1 : Int) (a2 : Int) (μr : mu_T) (h : f_J7_rangeCheck_23922 μ a0 a1 a2 = some μr) : mv_ yJ7_rangeCheck_23922 cJ7_rangeCheck_23922 3 ({ frames := 0, cells := 0, slots := 0, locals := 0 } : Room) G 151 ad (ceX G ad) [.int (iI a0), .int (iI a1), .int (iI a2)] μ μr := by
  refine mv_in (own := "java/util/Arrays") (lv := [(0, .int (iI a0)), (1, .int (iI a1)), (2, .int (iI a2))]) (by decide) rfl rfl (Nat.le_of_ble_eq_true rfl) (fun X C E => ?_)
  unfold f_J7_rangeCheck_23922 at h
  refine xx_iload_n C 1 rfl 1 dJ7_rangeCheck_23922_0 rfl rfl ?_
  refine xx_iload_n C 2 rfl 2 dJ7_rangeCheck_23922_1 rfl rfl ?_
  refine xx_icmp_le (tgt := 46) C 5 rfl dJ7_rangeCheck_23922_2 (by decide) h (fun h => ?_) (fun h => ?_)
  · refine xx_iload_n C 47 rfl 1 dJ7_rangeCheck_23922_46 rfl rfl ?_
    refine xx_if_ge (tgt := 59) C 50 rfl dJ7_rangeCheck_23922_47 (by decide) h (fun h => ?_) (fun h => ?_)
    · refine xx_iload_n C 60 rfl 2 dJ7_rangeCheck_23922_59 rfl rfl ?_
      refine xx_iload_n C 61 rfl 0 dJ7_rangeCheck_23922_60 rfl rfl ?_
      refine xx_icmp_le (tgt := 73) C 64 rfl dJ7_rangeCheck_23922_61 (by decide) h (fun h => ?_) (fun h => ?_)
      · exact xx_vret C E rfl ⟨Nat.le_of_ble_eq_true rfl, Nat.le_of_ble_eq_true rfl⟩ dJ7_rangeCheck_23922_73 h
      · exact nn_ h
    · exact nn_ h
  · exact nn_ h

def f_J7_fill_eb02e_o142_L10 (a2 : Int) (a3 : Int) : Nat → Int → mu_T → Option mu_T
  | 0, _, _ => none
  | fu10 + 1, x4_10, μ10 => lt_ x4_10 a2
      (wb_ μ10 142 x4_10 a3 (fun μ20 => nm_ (x4_10 + 1) (fun n21 => (f_J7_fill_eb02e_o142_L10 a2 a3 fu10) n21 μ20)))
      (some μ10)
def f_J7_fill_eb02e_o142 (μ : mu_T) (a1 : Int) (a2 : Int) (a3 : Int) : Option mu_T :=
  nm_ (bl_ μ 142) (fun v1 => bd_ (f_J7_rangeCheck_23922 μ v1 a1 a2) (fun μ4 => f_J7_fill_eb02e_o142_L10 a2 a3 20000 a1 μ4))
set_option maxHeartbeats 4000000 in
set_option maxRecDepth 100000 in
theorem c_J7_fill_eb02e_o142 {G : gp_} {ad : Nat → Nat} (μ : mu_T) (a1 : Int) (a2 : Int) (a3 : Int) (μr : mu_T) (h : f_J7_fill_eb02e_o142 μ a1 a2 a3 = some μr) : mv_ yJ7_fill_eb02e cJ7_fill_eb02e 5 ({ frames := 1, cells := 0, slots := 0, locals := 22 } : Room) G 151 ad (ceX G ad) [.ref (ad 142), .int (iI a1), .int (iI a2), .int (iI a3)] μ μr := by
  refine mv_in (own := "java/util/Arrays") (lv := [(0, .ref (ad 142)), (1, .int (iI a1)), (2, .int (iI a2)), (3, .int (iI a3))]) (by decide) rfl rfl (Nat.le_of_ble_eq_true rfl) (fun X C E => ?_)
  unfold f_J7_fill_eb02e_o142 at h
  refine xx_aload_n C 1 rfl 0 dJ7_fill_eb02e_0 rfl rfl ?_
  refine xx_blen C 2 rfl (by decide) (fun row => ceX_142 _ _ row) dJ7_fill_eb02e_1 h (fun v1 h => ?_)
  refine xx_iload_n C 3 rfl 1 dJ7_fill_eb02e_2 rfl rfl ?_
  refine xx_iload_n C 4 rfl 2 dJ7_fill_eb02e_3 rfl rfl ?_
  refine xx_cSv (As := [.int (iI v1), .int (iI a1), .int (iI a2)]) (st := []) C 7 rfl  ca_J7_rangeCheck_23922 cs_J7_rangeCheck_23922 w_975 rfl ⟨Nat.le_of_ble_eq_true rfl, Nat.le_of_ble_eq_true rfl⟩ ⟨Nat.le_of_ble_eq_true rfl, Nat.le_of_ble_eq_true rfl⟩ (Nat.le_of_ble_eq_true rfl) dJ7_fill_eb02e_4 (fun μ4 e9 => c_J7_rangeCheck_23922 _ _ _ _ μ4 e9) h (fun μ4 h => ?_) rfl
  refine xx_iload_n C 8 rfl 1 dJ7_fill_eb02e_7 rfl rfl ?_
  refine xx_istore (lv1 := [(4, .int (iI a1)), (0, .ref (ad 142)), (1, .int (iI a1)), (2, .int (iI a2)), (3, .int (iI a3))]) C 10 rfl (by decide) dJ7_fill_eb02e_8 rfl ?_
  have L10 : ∀ (fu10 : Nat) (x4_10 : Int) (μ10 : mu_T), f_J7_fill_eb02e_o142_L10 a2 a3 fu10 x4_10 μ10 = some μr → wx_ G X 151 ad (ceX G ad) μ10 0 0 10 [(0, .ref (ad 142)), (2, .int (iI a2)), (3, .int (iI a3)), (4, .int (iI x4_10))] [] := by
    intro fu10
    induction fu10 with
    | zero => intro x4_10 μ10 h; exact nn_ h
    | succ fu10 K10 =>
      intro x4_10 μ10 h
      rw [f_J7_fill_eb02e_o142_L10] at h
      generalize f_J7_fill_eb02e_o142_L10 a2 a3 fu10 = R10 at K10 h
      refine xx_iload C 12 rfl 3 dJ7_fill_eb02e_10 rfl ?_
      refine xx_iload_n C 13 rfl 1 dJ7_fill_eb02e_12 rfl rfl ?_
      refine xx_icmp_ge (tgt := 27) C 16 rfl dJ7_fill_eb02e_13 (by decide) h (fun h => ?_) (fun h => ?_)
      · exact xx_vret C E rfl ⟨Nat.le_of_ble_eq_true rfl, Nat.le_of_ble_eq_true rfl⟩ dJ7_fill_eb02e_27 h
      · refine xx_aload_n C 17 rfl 0 dJ7_fill_eb02e_16 rfl rfl ?_
        refine xx_iload C 19 rfl 3 dJ7_fill_eb02e_17 rfl ?_
        refine xx_iload_n C 20 rfl 2 dJ7_fill_eb02e_19 rfl rfl ?_
        refine xx_bastore C 21 rfl (by decide) (fun row => ceX_142 _ _ row) dJ7_fill_eb02e_20 h (fun μ20 h => ?_)
        refine xx_iincn C 24 rfl 3 (by decide) dJ7_fill_eb02e_21 rfl h (fun n21 h => ?_)
        refine xx_lv (lv1 := [(4, .int (iI n21)), (0, .ref (ad 142)), (2, .int (iI a2)), (3, .int (iI a3))]) rfl ?_
        refine xx_goto C 10 dJ7_fill_eb02e_24 (by decide) ?_
        refine xx_sub [1, 2, 3, 0] rfl ?_
        exact K10 n21 μ20 h
  refine xx_sub [1, 3, 4, 0] rfl ?_
  exact L10 _ _ _ h

def f_J1_fillNull_b72d1_o142 (μ : mu_T) (a1 : Int) (a2 : Int) : Option mu_T :=
  bd_ (f_J7_fill_eb02e_o142 μ a1 a2 0) (fun μ4 => some μ4)
set_option maxHeartbeats 4000000 in
set_option maxRecDepth 100000 in
theorem c_J1_fillNull_b72d1_o142 {G : gp_} {ad : Nat → Nat} (μ : mu_T) (a1 : Int) (a2 : Int) (μr : mu_T) (h : f_J1_fillNull_b72d1_o142 μ a1 a2 = some μr) : mv_ yJ1_fillNull_b72d1 cJ1_fillNull_b72d1 3 ({ frames := 2, cells := 0, slots := 0, locals := 46 } : Room) G 151 ad (ceX G ad) [.ref (ad 142), .int (iI a1), .int (iI a2)] μ μr := by
  refine mv_in (own := "java/lang/StringLatin1") (lv := [(0, .ref (ad 142)), (1, .int (iI a1)), (2, .int (iI a2))]) (by decide) rfl rfl (Nat.le_of_ble_eq_true rfl) (fun X C E => ?_)
  unfold f_J1_fillNull_b72d1_o142 at h
  refine xx_aload_n C 1 rfl 0 dJ1_fillNull_b72d1_0 rfl rfl ?_
  refine xx_iload_n C 2 rfl 1 dJ1_fillNull_b72d1_1 rfl rfl ?_
  refine xx_iload_n C 3 rfl 2 dJ1_fillNull_b72d1_2 rfl rfl ?_
  refine xx_iconst C 4 rfl dJ1_fillNull_b72d1_3 ?_
  refine xx_cSv (As := [.ref (ad 142), .int (iI a1), .int (iI a2), .int (iI 0)]) (st := []) C 7 rfl  ca_J7_fill_eb02e cs_J7_fill_eb02e w_972 rfl ⟨Nat.le_of_ble_eq_true rfl, Nat.le_of_ble_eq_true rfl⟩ ⟨Nat.le_of_ble_eq_true rfl, Nat.le_of_ble_eq_true rfl⟩ (Nat.le_of_ble_eq_true rfl) dJ1_fillNull_b72d1_4 (fun μ4 e9 => c_J7_fill_eb02e_o142 _ _ _ _ μ4 e9) h (fun μ4 h => ?_) rfl
  exact xx_vret C E rfl ⟨Nat.le_of_ble_eq_true rfl, Nat.le_of_ble_eq_true rfl⟩ dJ1_fillNull_b72d1_7 h

def f_J5_setLength_d00df_o141 (μ : mu_T) (a1 : Int) : Option mu_T :=
  lt_ a1 0
      (none)
      (bd_ (f_J5_ensureCapacityInternal_d00df_o141 μ a1) (fun μ15 => nm_ (μ15 141 3) (fun v19 => lt_ v19 a1
      (bd_ (f_J5_isLatin1_aae02_o141 μ15) (fun v27 => eq_ v27 0
      (nm_ (μ15 141 3) (fun v53 => none))
      (nm_ (μ15 141 3) (fun v38 => bd_ (f_J1_fillNull_b72d1_o142 μ15 v38 a1) (fun μ42 => wf_ μ42 141 3 a1 (fun μ78 => some μ78))))))
      (nm_ (μ15 141 3) (fun v64 => lt_ a1 v64
      (wz_ μ15 141 2 1 (fun μ73 => wf_ μ73 141 3 a1 (fun μ78 => some μ78)))
      (wf_ μ15 141 3 a1 (fun μ78 => some μ78)))))))
set_option maxHeartbeats 4000000 in
set_option maxRecDepth 100000 in
theorem c_J5_setLength_d00df_o141 {G : gp_} {ad : Nat → Nat} (μ : mu_T) (a1 : Int) (μr : mu_T) (h : f_J5_setLength_d00df_o141 μ a1 = some μr) : mv_ yJ5_setLength_d00df cJ5_setLength_d00df 2 ({ frames := 4, cells := 0, slots := 0, locals := 92 } : Room) G 151 ad (ceX G ad) [.ref (ad 141), .int (iI a1)] μ μr := by
  refine mv_in (own := "java/lang/AbstractStringBuilder") (lv := [(0, .ref (ad 141)), (1, .int (iI a1))]) (by decide) rfl rfl (Nat.le_of_ble_eq_true rfl) (fun X C E => ?_)
  unfold f_J5_setLength_d00df_o141 at h
  refine xx_iload_n C 1 rfl 1 dJ5_setLength_d00df_0 rfl rfl ?_
  refine xx_if_ge (tgt := 13) C 4 rfl dJ5_setLength_d00df_1 (by decide) h (fun h => ?_) (fun h => ?_)
  · refine xx_aload_n C 14 rfl 0 dJ5_setLength_d00df_13 rfl rfl ?_
    refine xx_iload_n C 15 rfl 1 dJ5_setLength_d00df_14 rfl rfl ?_
    refine xx_cUv (As := [.int (iI a1)]) (st := []) (o := 141) C 18 rfl (by decide) (ceX_141 _ _ _) rfl ca_J5_ensureCapacityInternal_d00df cu_J5_ensureCapacityInternal_d00df se_J5_ensureCapacityInternal_d00df w_799 rfl ⟨Nat.le_of_ble_eq_true rfl, Nat.le_of_ble_eq_true rfl⟩ ⟨Nat.le_of_ble_eq_true rfl, Nat.le_of_ble_eq_true rfl⟩ (Nat.le_of_ble_eq_true rfl) dJ5_setLength_d00df_15 (fun μ15 e9 => c_J5_ensureCapacityInternal_d00df_o141 _ _ μ15 e9) h (fun μ15 h => ?_) rfl
    refine xx_aload_n C 19 rfl 0 dJ5_setLength_d00df_18 rfl rfl ?_
    refine xx_geti (fi := 3) (j := 3) C 22 rfl (by decide) (ceX_141 _ _ _) rfl in_J4 (by decide) rfl w_342 dJ5_setLength_d00df_19 h (fun v19 h => ?_)
    refine xx_iload_n C 23 rfl 1 dJ5_setLength_d00df_22 rfl rfl ?_
    refine xx_icmp_ge (tgt := 63) C 26 rfl dJ5_setLength_d00df_23 (by decide) h (fun h => ?_) (fun h => ?_)
    · refine xx_aload_n C 64 rfl 0 dJ5_setLength_d00df_63 rfl rfl ?_
      refine xx_geti (fi := 3) (j := 3) C 67 rfl (by decide) (ceX_141 _ _ _) rfl in_J4 (by decide) rfl w_342 dJ5_setLength_d00df_64 h (fun v64 h => ?_)
      refine xx_iload_n C 68 rfl 1 dJ5_setLength_d00df_67 rfl rfl ?_
      refine xx_icmp_le (tgt := 76) C 71 rfl dJ5_setLength_d00df_68 (by decide) h (fun h => ?_) (fun h => ?_)
      · refine xx_aload_n C 77 rfl 0 dJ5_setLength_d00df_76 rfl rfl ?_
        refine xx_iload_n C 78 rfl 1 dJ5_setLength_d00df_77 rfl rfl ?_
        refine xx_puti (fi := 3) (j := 3) C 81 rfl (by decide) (ceX_141 _ _ _) (puX_141_3 _ _ _ _) rfl in_J4 tyJ4 tyJ4_ok nmJ4 (by decide) (Nat.le_of_ble_eq_true rfl) ⟨rfl, rfl⟩ w_342 dJ5_setLength_d00df_78 h (fun μ78 h => ?_)
        exact xx_vret C E rfl ⟨Nat.le_of_ble_eq_true rfl, Nat.le_of_ble_eq_true rfl⟩ dJ5_setLength_d00df_81 h
      · refine xx_aload_n C 72 rfl 0 dJ5_setLength_d00df_71 rfl rfl ?_
        refine xx_iconst C 73 rfl dJ5_setLength_d00df_72 ?_
        refine xx_putz (fi := 2) (j := 2) C 76 rfl (by decide) (ceX_141 _ _ _) (puX_141_2 _ _ _ _) rfl in_J4 tyJ4 tyJ4_ok nmJ4 (by decide) (Nat.le_of_ble_eq_true rfl) ⟨rfl, rfl⟩ w_341 dJ5_setLength_d00df_73 h (fun μ73 h => ?_)
        refine xx_aload_n C 77 rfl 0 dJ5_setLength_d00df_76 rfl rfl ?_
        refine xx_iload_n C 78 rfl 1 dJ5_setLength_d00df_77 rfl rfl ?_
        refine xx_puti (fi := 3) (j := 3) C 81 rfl (by decide) (ceX_141 _ _ _) (puX_141_3 _ _ _ _) rfl in_J4 tyJ4 tyJ4_ok nmJ4 (by decide) (Nat.le_of_ble_eq_true rfl) ⟨rfl, rfl⟩ w_342 dJ5_setLength_d00df_78 h (fun μ78 h => ?_)
        exact xx_vret C E rfl ⟨Nat.le_of_ble_eq_true rfl, Nat.le_of_ble_eq_true rfl⟩ dJ5_setLength_d00df_81 h
    · refine xx_aload_n C 27 rfl 0 dJ5_setLength_d00df_26 rfl rfl ?_
      refine xx_cUip (As := []) (st := []) (o := 141) C 30 rfl (by decide) (ceX_141 _ _ _) rfl ca_J5_isLatin1_aae02 cu_J5_isLatin1_aae02 se_J5_isLatin1_aae02 w_830 rfl ⟨Nat.le_of_ble_eq_true rfl, Nat.le_of_ble_eq_true rfl⟩ ⟨Nat.le_of_ble_eq_true rfl, Nat.le_of_ble_eq_true rfl⟩ (Nat.le_of_ble_eq_true rfl) dJ5_setLength_d00df_27 (fun v27 e9 => c_J5_isLatin1_aae02_o141 _ v27 e9) h (fun v27 h => ?_) rfl
      refine xx_if_eq (tgt := 48) C 33 rfl dJ5_setLength_d00df_30 (by decide) h (fun h => ?_) (fun h => ?_)
      · refine xx_aload_n C 49 rfl 0 dJ5_setLength_d00df_48 rfl rfl ?_
        refine xx_getr (fi := 0) C 52 rfl (by decide) (ceX_141 _ _ _) rfl in_J4 (by decide) rfl w_339 dJ5_setLength_d00df_49 ?_
        refine xx_aload_n C 53 rfl 0 dJ5_setLength_d00df_52 rfl rfl ?_
        refine xx_geti (fi := 3) (j := 3) C 56 rfl (by decide) (ceX_141 _ _ _) rfl in_J4 (by decide) rfl w_342 dJ5_setLength_d00df_53 h (fun v53 h => ?_)
        refine xx_iload_n C 57 rfl 1 dJ5_setLength_d00df_56 rfl rfl ?_
        exact nn_ h
      · refine xx_aload_n C 34 rfl 0 dJ5_setLength_d00df_33 rfl rfl ?_
        refine xx_getr (fi := 0) C 37 rfl (by decide) (ceX_141 _ _ _) rfl in_J4 (by decide) rfl w_339 dJ5_setLength_d00df_34 ?_
        refine xx_aload_n C 38 rfl 0 dJ5_setLength_d00df_37 rfl rfl ?_
        refine xx_geti (fi := 3) (j := 3) C 41 rfl (by decide) (ceX_141 _ _ _) rfl in_J4 (by decide) rfl w_342 dJ5_setLength_d00df_38 h (fun v38 h => ?_)
        refine xx_iload_n C 42 rfl 1 dJ5_setLength_d00df_41 rfl rfl ?_
        refine xx_cSv (As := [.ref (ad 142), .int (iI v38), .int (iI a1)]) (st := []) C 45 rfl  ca_J1_fillNull_b72d1 cs_J1_fillNull_b72d1 w_969 rfl ⟨Nat.le_of_ble_eq_true rfl, Nat.le_of_ble_eq_true rfl⟩ ⟨Nat.le_of_ble_eq_true rfl, Nat.le_of_ble_eq_true rfl⟩ (Nat.le_of_ble_eq_true rfl) dJ5_setLength_d00df_42 (fun μ42 e9 => c_J1_fillNull_b72d1_o142 _ _ _ μ42 e9) h (fun μ42 h => ?_) rfl
        refine xx_goto C 76 dJ5_setLength_d00df_45 (by decide) ?_
        refine xx_aload_n C 77 rfl 0 dJ5_setLength_d00df_76 rfl rfl ?_
        refine xx_iload_n C 78 rfl 1 dJ5_setLength_d00df_77 rfl rfl ?_
        refine xx_puti (fi := 3) (j := 3) C 81 rfl (by decide) (ceX_141 _ _ _) (puX_141_3 _ _ _ _) rfl in_J4 tyJ4 tyJ4_ok nmJ4 (by decide) (Nat.le_of_ble_eq_true rfl) ⟨rfl, rfl⟩ w_342 dJ5_setLength_d00df_78 h (fun μ78 h => ?_)
        exact xx_vret C E rfl ⟨Nat.le_of_ble_eq_true rfl, Nat.le_of_ble_eq_true rfl⟩ dJ5_setLength_d00df_81 h
  · exact nn_ h

def f_J4_setLength_d00df_o141 (μ : mu_T) (a1 : Int) : Option mu_T :=
  bd_ (f_J5_setLength_d00df_o141 μ a1) (fun μ2 => some μ2)
set_option maxHeartbeats 4000000 in
set_option maxRecDepth 100000 in
theorem c_J4_setLength_d00df_o141 {G : gp_} {ad : Nat → Nat} (μ : mu_T) (a1 : Int) (μr : mu_T) (h : f_J4_setLength_d00df_o141 μ a1 = some μr) : mv_ yJ4_setLength_d00df cJ4_setLength_d00df 2 ({ frames := 5, cells := 0, slots := 0, locals := 113 } : Room) G 151 ad (ceX G ad) [.ref (ad 141), .int (iI a1)] μ μr := by
  refine mv_in (own := "java/lang/StringBuilder") (lv := [(0, .ref (ad 141)), (1, .int (iI a1))]) (by decide) rfl rfl (Nat.le_of_ble_eq_true rfl) (fun X C E => ?_)
  unfold f_J4_setLength_d00df_o141 at h
  refine xx_aload_n C 1 rfl 0 dJ4_setLength_d00df_0 rfl rfl ?_
  refine xx_iload_n C 2 rfl 1 dJ4_setLength_d00df_1 rfl rfl ?_
  refine xx_cPv (As := [.int (iI a1)]) (st := []) (o := 141) C 5 rfl (by decide) (ceX_141 _ _ _) rfl ca_J5_setLength_d00df cu_J5_setLength_d00df w_351 w_966 rfl ⟨Nat.le_of_ble_eq_true rfl, Nat.le_of_ble_eq_true rfl⟩ ⟨Nat.le_of_ble_eq_true rfl, Nat.le_of_ble_eq_true rfl⟩ (Nat.le_of_ble_eq_true rfl) dJ4_setLength_d00df_2 (fun μ2 e9 => c_J5_setLength_d00df_o141 _ _ μ2 e9) h (fun μ2 h => ?_) rfl
  exact xx_vret C E rfl ⟨Nat.le_of_ble_eq_true rfl, Nat.le_of_ble_eq_true rfl⟩ dJ4_setLength_d00df_5 h

def f_X6_clearText (μ : mu_T)  : Option mu_T :=
  bd_ (f_J4_setLength_d00df_o141 μ 0) (fun μ5 => some μ5)
set_option maxHeartbeats 4000000 in
set_option maxRecDepth 100000 in
theorem c_X6_clearText {G : gp_} {ad : Nat → Nat} (μ : mu_T)  (μr : mu_T) (h : f_X6_clearText μ  = some μr) : mv_ yX6_clearText cX6_clearText 1 ({ frames := 6, cells := 0, slots := 0, locals := 134 } : Room) G 151 ad (ceX G ad) [.ref (ad 140)] μ μr := by
  refine mv_in (own := "UrnHeap$Orders") (lv := [(0, .ref (ad 140))]) (by decide) rfl rfl (Nat.le_of_ble_eq_true rfl) (fun X C E => ?_)
  unfold f_X6_clearText at h
  refine xx_aload_n C 1 rfl 0 dX6_clearText_0 rfl rfl ?_
  refine xx_getr (fi := 0) C 4 rfl (by decide) (ceX_140 _ _ _) rfl in_X6 (by decide) rfl w_355 dX6_clearText_1 ?_
  refine xx_iconst C 5 rfl dX6_clearText_4 ?_
  refine xx_cVv (As := [.int (iI 0)]) (st := []) (o := 141) C 8 rfl (by decide) (ceX_141 _ _ _) rfl rfl ca_J4_setLength_d00df cv_J4_setLength_d00df w_962 rfl ⟨Nat.le_of_ble_eq_true rfl, Nat.le_of_ble_eq_true rfl⟩ ⟨Nat.le_of_ble_eq_true rfl, Nat.le_of_ble_eq_true rfl⟩ (Nat.le_of_ble_eq_true rfl) dX6_clearText_5 (fun μ5 e9 => c_J4_setLength_d00df_o141 _ _ μ5 e9) h (fun μ5 h => ?_) rfl
  exact xx_vret C E rfl ⟨Nat.le_of_ble_eq_true rfl, Nat.le_of_ble_eq_true rfl⟩ dX6_clearText_8 h

def f_J5_charAt_5068e_o141 (μ : mu_T) (a1 : Int) : Option Int :=
  nm_ (μ 141 1) (fun v1 => nm_ (μ 141 3) (fun v11 => nm_ (bl_ μ 142) (fun v15 => mn_ v11 (sr_ v15 v1) (fun v18 => bd_ (f_J0_checkIndex_df160 μ a1 v18) (fun u26 => eq_ v1 0
      (rb_ μ 142 a1 (fun v35 => rc_ (i2c_ (an_ v35 255))))
      (none))))))
set_option maxHeartbeats 4000000 in
set_option maxRecDepth 100000 in
theorem c_J5_charAt_5068e_o141 {G : gp_} {ad : Nat → Nat} (μ : mu_T) (a1 : Int) (a : Int) (h : f_J5_charAt_5068e_o141 μ a1 = some a) : mi_ yJ5_charAt_5068e cJ5_charAt_5068e 5 (some .char) ({ frames := 2, cells := 0, slots := 0, locals := 43 } : Room) G 151 ad (ceX G ad) [.ref (ad 141), .int (iI a1)] μ a μ := by
  refine mi_in (own := "java/lang/AbstractStringBuilder") (lv := [(0, .ref (ad 141)), (1, .int (iI a1))]) (by decide) rfl rfl (Nat.le_of_ble_eq_true rfl) (fun X C E => ?_)
  unfold f_J5_charAt_5068e_o141 at h
  refine xx_aload_n C 1 rfl 0 dJ5_charAt_5068e_0 rfl rfl ?_
  refine xx_geti (fi := 1) (j := 1) C 4 rfl (by decide) (ceX_141 _ _ _) rfl in_J4 (by decide) rfl w_340 dJ5_charAt_5068e_1 h (fun v1 h => ?_)
  refine xx_istore_n (lv1 := [(2, .int (iI v1)), (0, .ref (ad 141)), (1, .int (iI a1))]) C 5 rfl (by decide) dJ5_charAt_5068e_4 rfl rfl ?_
  refine xx_aload_n C 6 rfl 1 dJ5_charAt_5068e_5 rfl rfl ?_
  refine xx_getr (fi := 0) C 9 rfl (by decide) (ceX_141 _ _ _) rfl in_J4 (by decide) rfl w_339 dJ5_charAt_5068e_6 ?_
  refine xx_astore_n (lv1 := [(3, .ref (ad 142)), (2, .int (iI v1)), (0, .ref (ad 141)), (1, .int (iI a1))]) C 10 rfl (by decide) dJ5_charAt_5068e_9 rfl rfl ?_
  refine xx_aload_n C 11 rfl 2 dJ5_charAt_5068e_10 rfl rfl ?_
  refine xx_geti (fi := 3) (j := 3) C 14 rfl (by decide) (ceX_141 _ _ _) rfl in_J4 (by decide) rfl w_342 dJ5_charAt_5068e_11 h (fun v11 h => ?_)
  refine xx_aload_n C 15 rfl 0 dJ5_charAt_5068e_14 rfl rfl ?_
  refine xx_blen C 16 rfl (by decide) (fun row => ceX_142 _ _ row) dJ5_charAt_5068e_15 h (fun v15 h => ?_)
  refine xx_iload_n C 17 rfl 1 dJ5_charAt_5068e_16 rfl rfl ?_
  refine xx_ishr C 18 rfl dJ5_charAt_5068e_17 ?_
  refine xx_mmin C 21 rfl ⟨w_943, w_470, w_94, w_471⟩ ⟨Nat.le_of_ble_eq_true rfl, Nat.le_of_ble_eq_true rfl⟩ ⟨Nat.le_of_ble_eq_true rfl, Nat.le_of_ble_eq_true rfl⟩ dJ5_charAt_5068e_18 h (fun v18 h => ?_)
  refine xx_istore (lv1 := [(4, .int (iI v18)), (3, .ref (ad 142)), (2, .int (iI v1)), (0, .ref (ad 141)), (1, .int (iI a1))]) C 23 rfl (by decide) dJ5_charAt_5068e_21 rfl ?_
  refine xx_iload_n C 24 rfl 4 dJ5_charAt_5068e_23 rfl rfl ?_
  refine xx_iload C 26 rfl 0 dJ5_charAt_5068e_24 rfl ?_
  refine xx_cSvp (As := [.int (iI a1), .int (iI v18)]) (st := []) C 29 rfl  ca_J0_checkIndex_df160 cs_J0_checkIndex_df160 w_944 rfl ⟨Nat.le_of_ble_eq_true rfl, Nat.le_of_ble_eq_true rfl⟩ ⟨Nat.le_of_ble_eq_true rfl, Nat.le_of_ble_eq_true rfl⟩ (Nat.le_of_ble_eq_true rfl) dJ5_charAt_5068e_26 (fun u26 e9 => c_J0_checkIndex_df160 _ _ _ u26 e9) h (fun u26 h => ?_) rfl
  refine xx_iload_n C 30 rfl 2 dJ5_charAt_5068e_29 rfl rfl ?_
  refine xx_if_ne (tgt := 42) C 33 rfl dJ5_charAt_5068e_30 (by decide) h (fun h => ?_) (fun h => ?_)
  · refine xx_aload_n C 43 rfl 1 dJ5_charAt_5068e_42 rfl rfl ?_
    refine xx_iload_n C 44 rfl 4 dJ5_charAt_5068e_43 rfl rfl ?_
    exact nn_ h
  · refine xx_aload_n C 34 rfl 1 dJ5_charAt_5068e_33 rfl rfl ?_
    refine xx_iload_n C 35 rfl 4 dJ5_charAt_5068e_34 rfl rfl ?_
    refine xx_baload C 36 rfl (by decide) (fun row => ceX_142 _ _ row) dJ5_charAt_5068e_35 h (fun v35 h => ?_)
    refine xx_sipush C 39 rfl dJ5_charAt_5068e_36 (by decide) ?_
    refine xx_iand C 40 rfl dJ5_charAt_5068e_39 ?_
    refine xx_i2c C 41 rfl dJ5_charAt_5068e_40 ?_
    exact xx_cretp C E rfl ⟨Nat.le_of_ble_eq_true rfl, Nat.le_of_ble_eq_true rfl⟩ dJ5_charAt_5068e_41 h

def f_J4_charAt_5068e_o141 (μ : mu_T) (a1 : Int) : Option Int :=
  bd_ (f_J5_charAt_5068e_o141 μ a1) (fun v2 => rc_ v2)
set_option maxHeartbeats 4000000 in
set_option maxRecDepth 100000 in
theorem c_J4_charAt_5068e_o141 {G : gp_} {ad : Nat → Nat} (μ : mu_T) (a1 : Int) (a : Int) (h : f_J4_charAt_5068e_o141 μ a1 = some a) : mi_ yJ4_charAt_5068e cJ4_charAt_5068e 2 (some .char) ({ frames := 3, cells := 0, slots := 0, locals := 67 } : Room) G 151 ad (ceX G ad) [.ref (ad 141), .int (iI a1)] μ a μ := by
  refine mi_in (own := "java/lang/StringBuilder") (lv := [(0, .ref (ad 141)), (1, .int (iI a1))]) (by decide) rfl rfl (Nat.le_of_ble_eq_true rfl) (fun X C E => ?_)
  unfold f_J4_charAt_5068e_o141 at h
  refine xx_aload_n C 1 rfl 0 dJ4_charAt_5068e_0 rfl rfl ?_
  refine xx_iload_n C 2 rfl 1 dJ4_charAt_5068e_1 rfl rfl ?_
  refine xx_cPip (As := [.int (iI a1)]) (st := []) (o := 141) C 5 rfl (by decide) (ceX_141 _ _ _) rfl ca_J5_charAt_5068e cu_J5_charAt_5068e w_351 w_940 rfl ⟨Nat.le_of_ble_eq_true rfl, Nat.le_of_ble_eq_true rfl⟩ ⟨Nat.le_of_ble_eq_true rfl, Nat.le_of_ble_eq_true rfl⟩ (Nat.le_of_ble_eq_true rfl) dJ4_charAt_5068e_2 (fun v2 e9 => c_J5_charAt_5068e_o141 _ _ v2 e9) h (fun v2 h => ?_) rfl
  exact xx_cretp C E rfl ⟨Nat.le_of_ble_eq_true rfl, Nat.le_of_ble_eq_true rfl⟩ dJ4_charAt_5068e_5 h

def f_X6_valueAt (μ : mu_T) (a1 : Int) (a2 : Int) : Option Int :=
  lt_ a1 0
      (some (-1))
      (bd_ (f_J4_length_8abf5_o141 μ) (fun v9 => lt_ a1 v9
      (bd_ (f_J4_charAt_5068e_o141 μ a1) (fun v22 => jn_ (φ := Unit → Option Int) (fun _ => lt_ v22 48
      (some (-1))
      (lt_ 57 v22
      (some (-1))
      (some (v22 - 48))))
      (fun J38 => eq_ a2 35
      (J38 ())
      (eq_ a2 36
      (J38 ())
      (eq_ a2 64
      (lt_ v22 97
      (some (-1))
      (lt_ v22 103
      (some (v22 - 97))
      (some (-1))))
      (eq_ v22 a2
      (some 0)
      (some (-1))))))))
      (some (-1))))
set_option maxHeartbeats 4000000 in
set_option maxRecDepth 100000 in
theorem c_X6_valueAt {G : gp_} {ad : Nat → Nat} (μ : mu_T) (a1 : Int) (a2 : Int) (a : Int) (h : f_X6_valueAt μ a1 a2 = some a) : mi_ yX6_valueAt cX6_valueAt 4 (some .int) ({ frames := 4, cells := 0, slots := 0, locals := 88 } : Room) G 151 ad (ceX G ad) [.ref (ad 140), .int (iI a1), .int (iI a2)] μ a μ := by
  refine mi_in (own := "UrnHeap$Orders") (lv := [(0, .ref (ad 140)), (1, .int (iI a1)), (2, .int (iI a2))]) (by decide) rfl rfl (Nat.le_of_ble_eq_true rfl) (fun X C E => ?_)
  unfold f_X6_valueAt at h
  refine xx_iload_n C 1 rfl 1 dX6_valueAt_0 rfl rfl ?_
  refine xx_if_lt (tgt := 15) C 4 rfl dX6_valueAt_1 (by decide) h (fun h => ?_) (fun h => ?_)
  · refine xx_iconst C 16 rfl dX6_valueAt_15 ?_
    exact xx_iretp C E rfl ⟨Nat.le_of_ble_eq_true rfl, Nat.le_of_ble_eq_true rfl⟩ dX6_valueAt_16 h
  · refine xx_iload_n C 5 rfl 1 dX6_valueAt_4 rfl rfl ?_
    refine xx_aload_n C 6 rfl 0 dX6_valueAt_5 rfl rfl ?_
    refine xx_getr (fi := 0) C 9 rfl (by decide) (ceX_140 _ _ _) rfl in_X6 (by decide) rfl w_355 dX6_valueAt_6 ?_
    refine xx_cVip (As := []) (st := [.int (iI a1)]) (o := 141) C 12 rfl (by decide) (ceX_141 _ _ _) rfl rfl ca_J4_length_8abf5 cv_J4_length_8abf5 w_785 rfl ⟨Nat.le_of_ble_eq_true rfl, Nat.le_of_ble_eq_true rfl⟩ ⟨Nat.le_of_ble_eq_true rfl, Nat.le_of_ble_eq_true rfl⟩ (Nat.le_of_ble_eq_true rfl) dX6_valueAt_9 (fun v9 e9 => c_J4_length_8abf5_o141 _ v9 e9) h (fun v9 h => ?_) rfl
    refine xx_icmp_lt (tgt := 17) C 15 rfl dX6_valueAt_12 (by decide) h (fun h => ?_) (fun h => ?_)
    · refine xx_aload_n C 18 rfl 0 dX6_valueAt_17 rfl rfl ?_
      refine xx_getr (fi := 0) C 21 rfl (by decide) (ceX_140 _ _ _) rfl in_X6 (by decide) rfl w_355 dX6_valueAt_18 ?_
      refine xx_iload_n C 22 rfl 1 dX6_valueAt_21 rfl rfl ?_
      refine xx_cVip (As := [.int (iI a1)]) (st := []) (o := 141) C 25 rfl (by decide) (ceX_141 _ _ _) rfl rfl ca_J4_charAt_5068e cv_J4_charAt_5068e w_936 rfl ⟨Nat.le_of_ble_eq_true rfl, Nat.le_of_ble_eq_true rfl⟩ ⟨Nat.le_of_ble_eq_true rfl, Nat.le_of_ble_eq_true rfl⟩ (Nat.le_of_ble_eq_true rfl) dX6_valueAt_22 (fun v22 e9 => c_J4_charAt_5068e_o141 _ _ v22 e9) h (fun v22 h => ?_) rfl
      refine xx_istore_n (lv1 := [(3, .int (iI v22)), (0, .ref (ad 140)), (1, .int (iI a1)), (2, .int (iI a2))]) C 26 rfl (by decide) dX6_valueAt_25 rfl rfl ?_
      refine xx_iload_n C 27 rfl 3 dX6_valueAt_26 rfl rfl ?_
      refine xx_bipush C 29 rfl dX6_valueAt_27 (by decide) ?_
      refine jn_r (fun J => ∀ (_u : Unit), J _u = some a → wx_ G X 151 ad (ceX G ad) μ 0 0 38 [(3, .int (iI v22))] []) h (fun _ h => ?_) (fun J38 K38 h => ?_)
      · refine xx_iload_n C 39 rfl 0 dX6_valueAt_38 rfl rfl ?_
        refine xx_bipush C 41 rfl dX6_valueAt_39 (by decide) ?_
        refine xx_icmp_lt (tgt := 57) C 44 rfl dX6_valueAt_41 (by decide) h (fun h => ?_) (fun h => ?_)
        · refine xx_iconst C 58 rfl dX6_valueAt_57 ?_
          exact xx_iretp C E rfl ⟨Nat.le_of_ble_eq_true rfl, Nat.le_of_ble_eq_true rfl⟩ dX6_valueAt_58 h
        · refine xx_iload_n C 45 rfl 0 dX6_valueAt_44 rfl rfl ?_
          refine xx_bipush C 47 rfl dX6_valueAt_45 (by decide) ?_
          refine xx_icmp_gt (tgt := 57) C 50 rfl dX6_valueAt_47 (by decide) h (fun h => ?_) (fun h => ?_)
          · refine xx_iconst C 58 rfl dX6_valueAt_57 ?_
            exact xx_iretp C E rfl ⟨Nat.le_of_ble_eq_true rfl, Nat.le_of_ble_eq_true rfl⟩ dX6_valueAt_58 h
          · refine xx_iload_n C 51 rfl 0 dX6_valueAt_50 rfl rfl ?_
            refine xx_bipush C 53 rfl dX6_valueAt_51 (by decide) ?_
            refine xx_isub C 54 rfl dX6_valueAt_53 ?_
            refine xx_goto C 58 dX6_valueAt_54 (by decide) ?_
            exact xx_iretp C E rfl ⟨Nat.le_of_ble_eq_true rfl, Nat.le_of_ble_eq_true rfl⟩ dX6_valueAt_58 h
      · refine xx_icmp_eq (tgt := 38) C 32 rfl dX6_valueAt_29 (by decide) h (fun h => ?_) (fun h => ?_)
        · refine xx_sub [0] rfl ?_
          exact K38 () h
        · refine xx_iload_n C 33 rfl 3 dX6_valueAt_32 rfl rfl ?_
          refine xx_bipush C 35 rfl dX6_valueAt_33 (by decide) ?_
          refine xx_icmp_ne (tgt := 59) C 38 rfl dX6_valueAt_35 (by decide) h (fun h => ?_) (fun h => ?_)
          · refine xx_iload_n C 60 rfl 3 dX6_valueAt_59 rfl rfl ?_
            refine xx_bipush C 62 rfl dX6_valueAt_60 (by decide) ?_
            refine xx_icmp_ne (tgt := 86) C 65 rfl dX6_valueAt_62 (by decide) h (fun h => ?_) (fun h => ?_)
            · refine xx_iload_n C 87 rfl 0 dX6_valueAt_86 rfl rfl ?_
              refine xx_iload_n C 88 rfl 3 dX6_valueAt_87 rfl rfl ?_
              refine xx_icmp_ne (tgt := 95) C 91 rfl dX6_valueAt_88 (by decide) h (fun h => ?_) (fun h => ?_)
              · refine xx_iconst C 96 rfl dX6_valueAt_95 ?_
                exact xx_iretp C E rfl ⟨Nat.le_of_ble_eq_true rfl, Nat.le_of_ble_eq_true rfl⟩ dX6_valueAt_96 h
              · refine xx_iconst C 92 rfl dX6_valueAt_91 ?_
                refine xx_goto C 96 dX6_valueAt_92 (by decide) ?_
                exact xx_iretp C E rfl ⟨Nat.le_of_ble_eq_true rfl, Nat.le_of_ble_eq_true rfl⟩ dX6_valueAt_96 h
            · refine xx_iload_n C 66 rfl 0 dX6_valueAt_65 rfl rfl ?_
              refine xx_bipush C 68 rfl dX6_valueAt_66 (by decide) ?_
              refine xx_icmp_lt (tgt := 84) C 71 rfl dX6_valueAt_68 (by decide) h (fun h => ?_) (fun h => ?_)
              · refine xx_iconst C 85 rfl dX6_valueAt_84 ?_
                exact xx_iretp C E rfl ⟨Nat.le_of_ble_eq_true rfl, Nat.le_of_ble_eq_true rfl⟩ dX6_valueAt_85 h
              · refine xx_iload_n C 72 rfl 0 dX6_valueAt_71 rfl rfl ?_
                refine xx_bipush C 74 rfl dX6_valueAt_72 (by decide) ?_
                refine xx_icmp_ge (tgt := 84) C 77 rfl dX6_valueAt_74 (by decide) h (fun h => ?_) (fun h => ?_)
                · refine xx_iconst C 85 rfl dX6_valueAt_84 ?_
                  exact xx_iretp C E rfl ⟨Nat.le_of_ble_eq_true rfl, Nat.le_of_ble_eq_true rfl⟩ dX6_valueAt_85 h
                · refine xx_iload_n C 78 rfl 0 dX6_valueAt_77 rfl rfl ?_
                  refine xx_bipush C 80 rfl dX6_valueAt_78 (by decide) ?_
                  refine xx_isub C 81 rfl dX6_valueAt_80 ?_
                  refine xx_goto C 85 dX6_valueAt_81 (by decide) ?_
                  exact xx_iretp C E rfl ⟨Nat.le_of_ble_eq_true rfl, Nat.le_of_ble_eq_true rfl⟩ dX6_valueAt_85 h
          · refine xx_sub [0] rfl ?_
            exact K38 () h
    · refine xx_iconst C 16 rfl dX6_valueAt_15 ?_
      exact xx_iretp C E rfl ⟨Nat.le_of_ble_eq_true rfl, Nat.le_of_ble_eq_true rfl⟩ dX6_valueAt_16 h

def f_X6_readSign (μ : mu_T) (a1 : Int) : Option (Int × mu_T) :=
  nm_ (μ 140 7) (fun v2 => bd_ (f_X6_valueAt μ v2 a1) (fun v6 => lt_ v6 0
      (some ((-1), μ))
      (nm_ (μ 140 7) (fun v18 => wf_ μ 140 7 (v18 + 1) (fun μ23 => jn_ (φ := Int → Option (Int × mu_T)) (fun s0_45 => lt_ s0_45 0
      (some (v6, μ23))
      (nm_ (μ23 140 7) (fun v52 => wf_ μ23 140 7 (v52 + 1) (fun μ57 => nm_ (((v6 * 10) + s0_45)) (fun n66 => some (n66, μ57))))))
      (fun J45 => eq_ a1 35
      (nm_ (μ23 140 7) (fun v34 => bd_ (f_X6_valueAt μ23 v34 a1) (fun v38 => J45 v38)))
      (J45 (-1))))))))
set_option maxHeartbeats 4000000 in
set_option maxRecDepth 100000 in
theorem c_X6_readSign {G : gp_} {ad : Nat → Nat} (μ : mu_T) (a1 : Int) (a : Int) (μr : mu_T) (h : f_X6_readSign μ a1 = some (a, μr)) : mi_ yX6_readSign cX6_readSign 4 (some .int) ({ frames := 5, cells := 0, slots := 0, locals := 111 } : Room) G 151 ad (ceX G ad) [.ref (ad 140), .int (iI a1)] μ a μr := by
  refine mi_in (own := "UrnHeap$Orders") (lv := [(0, .ref (ad 140)), (1, .int (iI a1))]) (by decide) rfl rfl (Nat.le_of_ble_eq_true rfl) (fun X C E => ?_)
  unfold f_X6_readSign at h
  refine xx_aload_n C 1 rfl 0 dX6_readSign_0 rfl rfl ?_
  refine xx_aload_n C 2 rfl 0 dX6_readSign_1 rfl rfl ?_
  refine xx_geti (fi := 7) (j := 7) C 5 rfl (by decide) (ceX_140 _ _ _) rfl in_X6 (by decide) rfl w_367 dX6_readSign_2 h (fun v2 h => ?_)
  refine xx_iload_n C 6 rfl 1 dX6_readSign_5 rfl rfl ?_
  refine xx_cVip (As := [.int (iI v2), .int (iI a1)]) (st := []) (o := 140) C 9 rfl (by decide) (ceX_140 _ _ _) rfl rfl ca_X6_valueAt cv_X6_valueAt w_932 rfl ⟨Nat.le_of_ble_eq_true rfl, Nat.le_of_ble_eq_true rfl⟩ ⟨Nat.le_of_ble_eq_true rfl, Nat.le_of_ble_eq_true rfl⟩ (Nat.le_of_ble_eq_true rfl) dX6_readSign_6 (fun v6 e9 => c_X6_valueAt _ _ _ v6 e9) h (fun v6 h => ?_) rfl
  refine xx_istore_n (lv1 := [(2, .int (iI v6)), (0, .ref (ad 140)), (1, .int (iI a1))]) C 10 rfl (by decide) dX6_readSign_9 rfl rfl ?_
  refine xx_iload_n C 11 rfl 0 dX6_readSign_10 rfl rfl ?_
  refine xx_if_ge (tgt := 16) C 14 rfl dX6_readSign_11 (by decide) h (fun h => ?_) (fun h => ?_)
  · refine xx_aload_n C 17 rfl 1 dX6_readSign_16 rfl rfl ?_
    refine xx_dup C 18 rfl dX6_readSign_17 rfl ?_
    refine xx_geti (fi := 7) (j := 7) C 21 rfl (by decide) (ceX_140 _ _ _) rfl in_X6 (by decide) rfl w_367 dX6_readSign_18 h (fun v18 h => ?_)
    refine xx_iconst C 22 rfl dX6_readSign_21 ?_
    refine xx_iadd C 23 rfl dX6_readSign_22 ?_
    refine xx_puti (fi := 7) (j := 7) C 26 rfl (by decide) (ceX_140 _ _ _) (puX_140_7 _ _ _ _) rfl in_X6 tyX6 tyX6_ok nmX6 (by decide) (Nat.le_of_ble_eq_true rfl) ⟨rfl, rfl⟩ w_367 dX6_readSign_23 h (fun μ23 h => ?_)
    refine xx_iload_n C 27 rfl 2 dX6_readSign_26 rfl rfl ?_
    refine xx_bipush C 29 rfl dX6_readSign_27 (by decide) ?_
    refine jn_r (fun J => ∀ (s0_45 : Int), J s0_45 = some (a, μr) → wx_ G X 151 ad (ceX G ad) μ23 0 0 45 [(0, .ref (ad 140)), (2, .int (iI v6))] [.int (iI s0_45)]) h (fun s0_45 h => ?_) (fun J45 K45 h => ?_)
    · refine xx_istore_n (lv1 := [(3, .int (iI s0_45)), (0, .ref (ad 140)), (2, .int (iI v6))]) C 46 rfl (by decide) dX6_readSign_45 rfl rfl ?_
      refine xx_iload_n C 47 rfl 0 dX6_readSign_46 rfl rfl ?_
      refine xx_if_lt (tgt := 67) C 50 rfl dX6_readSign_47 (by decide) h (fun h => ?_) (fun h => ?_)
      · refine xx_iload_n C 68 rfl 2 dX6_readSign_67 rfl rfl ?_
        exact xx_iret C E rfl ⟨Nat.le_of_ble_eq_true rfl, Nat.le_of_ble_eq_true rfl⟩ dX6_readSign_68 h
      · refine xx_aload_n C 51 rfl 1 dX6_readSign_50 rfl rfl ?_
        refine xx_dup C 52 rfl dX6_readSign_51 rfl ?_
        refine xx_geti (fi := 7) (j := 7) C 55 rfl (by decide) (ceX_140 _ _ _) rfl in_X6 (by decide) rfl w_367 dX6_readSign_52 h (fun v52 h => ?_)
        refine xx_iconst C 56 rfl dX6_readSign_55 ?_
        refine xx_iadd C 57 rfl dX6_readSign_56 ?_
        refine xx_puti (fi := 7) (j := 7) C 60 rfl (by decide) (ceX_140 _ _ _) (puX_140_7 _ _ _ _) rfl in_X6 tyX6 tyX6_ok nmX6 (by decide) (Nat.le_of_ble_eq_true rfl) ⟨rfl, rfl⟩ w_367 dX6_readSign_57 h (fun μ57 h => ?_)
        refine xx_iload_n C 61 rfl 2 dX6_readSign_60 rfl rfl ?_
        refine xx_bipush C 63 rfl dX6_readSign_61 (by decide) ?_
        refine xx_imul C 64 rfl dX6_readSign_63 ?_
        refine xx_iload_n C 65 rfl 0 dX6_readSign_64 rfl rfl ?_
        refine xx_iadd C 66 rfl dX6_readSign_65 ?_
        refine xx_nm C h (fun n66 h => ?_)
        refine xx_istore_n (lv1 := [(2, .int (iI n66)), (3, .int (iI s0_45)), (0, .ref (ad 140))]) C 67 rfl (by decide) dX6_readSign_66 rfl rfl ?_
        refine xx_iload_n C 68 rfl 0 dX6_readSign_67 rfl rfl ?_
        exact xx_iret C E rfl ⟨Nat.le_of_ble_eq_true rfl, Nat.le_of_ble_eq_true rfl⟩ dX6_readSign_68 h
    · refine xx_icmp_ne (tgt := 44) C 32 rfl dX6_readSign_29 (by decide) h (fun h => ?_) (fun h => ?_)
      · refine xx_iconst C 45 rfl dX6_readSign_44 ?_
        refine xx_sub [1, 0] rfl ?_
        exact K45 (-1) h
      · refine xx_aload_n C 33 rfl 1 dX6_readSign_32 rfl rfl ?_
        refine xx_aload_n C 34 rfl 1 dX6_readSign_33 rfl rfl ?_
        refine xx_geti (fi := 7) (j := 7) C 37 rfl (by decide) (ceX_140 _ _ _) rfl in_X6 (by decide) rfl w_367 dX6_readSign_34 h (fun v34 h => ?_)
        refine xx_iload_n C 38 rfl 2 dX6_readSign_37 rfl rfl ?_
        refine xx_cVip (As := [.int (iI v34), .int (iI a1)]) (st := []) (o := 140) C 41 rfl (by decide) (ceX_140 _ _ _) rfl rfl ca_X6_valueAt cv_X6_valueAt w_932 rfl ⟨Nat.le_of_ble_eq_true rfl, Nat.le_of_ble_eq_true rfl⟩ ⟨Nat.le_of_ble_eq_true rfl, Nat.le_of_ble_eq_true rfl⟩ (Nat.le_of_ble_eq_true rfl) dX6_readSign_38 (fun v38 e9 => c_X6_valueAt _ _ _ v38 e9) h (fun v38 h => ?_) rfl
        refine xx_goto C 45 dX6_readSign_41 (by decide) ?_
        refine xx_sub [1, 0] rfl ?_
        exact K45 v38 h
  · refine xx_iconst C 15 rfl dX6_readSign_14 ?_
    exact xx_iret C E rfl ⟨Nat.le_of_ble_eq_true rfl, Nat.le_of_ble_eq_true rfl⟩ dX6_readSign_15 h

def f_X6_fits_L4 (a1 : Int) : Nat → Int → Int → mu_T → Option (Int × mu_T)
  | 0, _, _, _ => none
  | fu4 + 1, x2_4, x3_4, μ4 => gd_ (0 ≤ a1 ∧ a1 < 21) (bd_ (f_J0_length_8abf5 μ4 a1) (fun v6 => lt_ x3_4 v6
      (gd_ (0 ≤ a1 ∧ a1 < 21) (bd_ (f_J0_charAt_5068e μ4 a1 x3_4) (fun v14 => bp_ (f_X6_readSign μ4 v14) (fun v22 μ22 => lt_ v22 0
      (some (0, μ22))
      (bd_ (f_X6_isForNumber μ22 v14) (fun v36 => jn_ (φ := Int → mu_T → Option (Int × mu_T)) (fun x2_62 μ62 => nm_ (x3_4 + 1) (fun n62 => (f_X6_fits_L4 a1 fu4) x2_62 n62 μ62))
      (fun J62 => eq_ v36 0
      (J62 x2_4 μ22)
      (lt_ x2_4 3
      (wr_ μ22 147 3 x2_4 v22 (fun μ58 => nm_ (x2_4 + 1) (fun n59 => J62 n59 μ58)))
      (J62 x2_4 μ22)))))))))
      (some (1, μ4))))
def f_X6_fits (μ : mu_T) (a1 : Int) : Option (Int × mu_T) :=
  f_X6_fits_L4 a1 20000 0 0 μ
set_option maxHeartbeats 4000000 in
set_option maxRecDepth 100000 in
theorem c_X6_fits {G : gp_} {ad : Nat → Nat} (μ : mu_T) (a1 : Int) (a : Int) (μr : mu_T) (h : f_X6_fits μ a1 = some (a, μr)) : mi_ yX6_fits cX6_fits 6 (some .boolean) ({ frames := 6, cells := 0, slots := 0, locals := 134 } : Room) G 151 ad (ceX G ad) [.ref (ad 140), .ref (G.2.1 (200 + (a1 : Int).toNat))] μ a μr := by
  refine mi_in (own := "UrnHeap$Orders") (lv := [(0, .ref (ad 140)), (1, .ref (G.2.1 (200 + (a1 : Int).toNat)))]) (by decide) rfl rfl (Nat.le_of_ble_eq_true rfl) (fun X C E => ?_)
  unfold f_X6_fits at h
  refine xx_iconst C 1 rfl dX6_fits_0 ?_
  refine xx_istore_n (lv1 := [(2, .int (iI 0)), (0, .ref (ad 140)), (1, .ref (G.2.1 (200 + (a1 : Int).toNat)))]) C 2 rfl (by decide) dX6_fits_1 rfl rfl ?_
  refine xx_iconst C 3 rfl dX6_fits_2 ?_
  refine xx_istore_n (lv1 := [(3, .int (iI 0)), (2, .int (iI 0)), (0, .ref (ad 140)), (1, .ref (G.2.1 (200 + (a1 : Int).toNat)))]) C 4 rfl (by decide) dX6_fits_3 rfl rfl ?_
  have L4 : ∀ (fu4 : Nat) (x2_4 : Int) (x3_4 : Int) (μ4 : mu_T), f_X6_fits_L4 a1 fu4 x2_4 x3_4 μ4 = some (a, μr) → wx_ G X 151 ad (ceX G ad) μ4 0 0 4 [(0, .ref (ad 140)), (1, .ref (G.2.1 (200 + (a1 : Int).toNat))), (2, .int (iI x2_4)), (3, .int (iI x3_4))] [] := by
    intro fu4
    induction fu4 with
    | zero => intro x2_4 x3_4 μ4 h; exact nn_ h
    | succ fu4 K4 =>
      intro x2_4 x3_4 μ4 h
      rw [f_X6_fits_L4] at h
      generalize f_X6_fits_L4 a1 fu4 = R4 at K4 h
      refine xx_iload_n C 5 rfl 3 dX6_fits_4 rfl rfl ?_
      refine xx_aload_n C 6 rfl 1 dX6_fits_5 rfl rfl ?_
      refine xx_cKip (As := []) (st := [.int (iI x3_4)]) (z := a1) C 9 rfl rfl ca_J0_length_8abf5 cv_J0_length_8abf5 w_901 rfl ⟨Nat.le_of_ble_eq_true rfl, Nat.le_of_ble_eq_true rfl⟩ ⟨Nat.le_of_ble_eq_true rfl, Nat.le_of_ble_eq_true rfl⟩ (Nat.le_of_ble_eq_true rfl) dX6_fits_6 (fun v6 e9 => c_J0_length_8abf5 _ _ v6 e9) h (fun v6 h => ?_) rfl
      refine xx_icmp_ge (tgt := 68) C 12 rfl dX6_fits_9 (by decide) h (fun h => ?_) (fun h => ?_)
      · refine xx_iconst C 69 rfl dX6_fits_68 ?_
        exact xx_zret C E rfl rfl ⟨Nat.le_of_ble_eq_true rfl, Nat.le_of_ble_eq_true rfl⟩ dX6_fits_69 h
      · refine xx_aload_n C 13 rfl 1 dX6_fits_12 rfl rfl ?_
        refine xx_iload_n C 14 rfl 3 dX6_fits_13 rfl rfl ?_
        refine xx_cKip (As := [.int (iI x3_4)]) (st := []) (z := a1) C 17 rfl rfl ca_J0_charAt_5068e cv_J0_charAt_5068e w_910 rfl ⟨Nat.le_of_ble_eq_true rfl, Nat.le_of_ble_eq_true rfl⟩ ⟨Nat.le_of_ble_eq_true rfl, Nat.le_of_ble_eq_true rfl⟩ (Nat.le_of_ble_eq_true rfl) dX6_fits_14 (fun v14 e9 => c_J0_charAt_5068e _ _ _ v14 e9) h (fun v14 h => ?_) rfl
        refine xx_istore (lv1 := [(4, .int (iI v14)), (0, .ref (ad 140)), (1, .ref (G.2.1 (200 + (a1 : Int).toNat))), (2, .int (iI x2_4)), (3, .int (iI x3_4))]) C 19 rfl (by decide) dX6_fits_17 rfl ?_
        refine xx_aload_n C 20 rfl 1 dX6_fits_19 rfl rfl ?_
        refine xx_iload C 22 rfl 0 dX6_fits_20 rfl ?_
        refine xx_cVi (As := [.int (iI v14)]) (st := []) (o := 140) C 25 rfl (by decide) (ceX_140 _ _ _) rfl rfl ca_X6_readSign cv_X6_readSign w_928 rfl ⟨Nat.le_of_ble_eq_true rfl, Nat.le_of_ble_eq_true rfl⟩ ⟨Nat.le_of_ble_eq_true rfl, Nat.le_of_ble_eq_true rfl⟩ (Nat.le_of_ble_eq_true rfl) dX6_fits_22 (fun v22 μ22 e9 => c_X6_readSign _ _ v22 μ22 e9) h (fun v22 μ22 h => ?_) rfl
        refine xx_istore (lv1 := [(5, .int (iI v22)), (4, .int (iI v14)), (0, .ref (ad 140)), (1, .ref (G.2.1 (200 + (a1 : Int).toNat))), (2, .int (iI x2_4)), (3, .int (iI x3_4))]) C 27 rfl (by decide) dX6_fits_25 rfl ?_
        refine xx_iload C 29 rfl 0 dX6_fits_27 rfl ?_
        refine xx_if_ge (tgt := 34) C 32 rfl dX6_fits_29 (by decide) h (fun h => ?_) (fun h => ?_)
        · refine xx_iload C 36 rfl 1 dX6_fits_34 rfl ?_
          refine xx_cSip (As := [.int (iI v14)]) (st := []) C 39 rfl  ca_X6_isForNumber cs_X6_isForNumber w_946 rfl ⟨Nat.le_of_ble_eq_true rfl, Nat.le_of_ble_eq_true rfl⟩ ⟨Nat.le_of_ble_eq_true rfl, Nat.le_of_ble_eq_true rfl⟩ (Nat.le_of_ble_eq_true rfl) dX6_fits_36 (fun v36 e9 => c_X6_isForNumber _ _ v36 e9) h (fun v36 h => ?_) rfl
          refine jn_r (fun J => ∀ (x2_62 : Int) (μ62 : mu_T), J x2_62 μ62 = some (a, μr) → wx_ G X 151 ad (ceX G ad) μ62 0 0 62 [(0, .ref (ad 140)), (1, .ref (G.2.1 (200 + (a1 : Int).toNat))), (2, .int (iI x2_62)), (3, .int (iI x3_4))] []) h (fun x2_62 μ62 h => ?_) (fun J62 K62 h => ?_)
          · refine xx_iincn C 65 rfl 3 (by decide) dX6_fits_62 rfl h (fun n62 h => ?_)
            refine xx_lv (lv1 := [(3, .int (iI n62)), (0, .ref (ad 140)), (1, .ref (G.2.1 (200 + (a1 : Int).toNat))), (2, .int (iI x2_62))]) rfl ?_
            refine xx_goto C 4 dX6_fits_65 (by decide) ?_
            refine xx_sub [1, 2, 3, 0] rfl ?_
            exact K4 x2_62 n62 μ62 h
          · refine xx_if_eq (tgt := 62) C 42 rfl dX6_fits_39 (by decide) h (fun h => ?_) (fun h => ?_)
            · refine xx_sub [2, 3, 4, 5] rfl ?_
              exact K62 x2_4 μ22 h
            · refine xx_iload_n C 43 rfl 4 dX6_fits_42 rfl rfl ?_
              refine xx_aload_n C 44 rfl 2 dX6_fits_43 rfl rfl ?_
              refine xx_getr (fi := 6) C 47 rfl (by decide) (ceX_140 _ _ _) rfl in_X6 (by decide) rfl w_366 dX6_fits_44 ?_
              refine xx_alen (nA := 3) C 48 rfl (by decide) (fun row => ceX_147 _ _ row) dX6_fits_47 ?_
              refine xx_icmp_ge (tgt := 62) C 51 rfl dX6_fits_48 (by decide) h (fun h => ?_) (fun h => ?_)
              · refine xx_sub [2, 3, 4, 5] rfl ?_
                exact K62 x2_4 μ22 h
              · refine xx_aload_n C 52 rfl 2 dX6_fits_51 rfl rfl ?_
                refine xx_getr (fi := 6) C 55 rfl (by decide) (ceX_140 _ _ _) rfl in_X6 (by decide) rfl w_366 dX6_fits_52 ?_
                refine xx_iload_n C 56 rfl 4 dX6_fits_55 rfl rfl ?_
                refine xx_iload C 58 rfl 0 dX6_fits_56 rfl ?_
                refine xx_iastore C 59 rfl (by decide) (fun row => ceX_147 _ _ row) (by decide) dX6_fits_58 h (fun μ58 h => ?_)
                refine xx_iincn C 62 rfl 4 (by decide) dX6_fits_59 rfl h (fun n59 h => ?_)
                refine xx_lv (lv1 := [(2, .int (iI n59)), (5, .int (iI v22)), (4, .int (iI v14)), (0, .ref (ad 140)), (1, .ref (G.2.1 (200 + (a1 : Int).toNat))), (3, .int (iI x3_4))]) rfl ?_
                refine xx_sub [3, 4, 0, 5] rfl ?_
                exact K62 n59 μ58 h
        · refine xx_iconst C 33 rfl dX6_fits_32 ?_
          exact xx_zret C E rfl rfl ⟨Nat.le_of_ble_eq_true rfl, Nat.le_of_ble_eq_true rfl⟩ dX6_fits_33 h
  refine xx_sub [2, 3, 1, 0] rfl ?_
  exact L4 _ _ _ _ h

def f_X6_isOrderEnd (μ : mu_T)  : Option Int :=
  nm_ (μ 140 7) (fun v1 => bd_ (f_J4_length_8abf5_o141 μ) (fun v8 => lt_ v1 v8
      (nm_ (μ 140 7) (fun v19 => bd_ (f_J4_charAt_5068e_o141 μ v19) (fun v22 => eq_ v22 59
      (some 1)
      (some 0))))
      (some 1)))
set_option maxHeartbeats 4000000 in
set_option maxRecDepth 100000 in
theorem c_X6_isOrderEnd {G : gp_} {ad : Nat → Nat} (μ : mu_T)  (a : Int) (h : f_X6_isOrderEnd μ  = some a) : mi_ yX6_isOrderEnd cX6_isOrderEnd 1 (some .boolean) ({ frames := 4, cells := 0, slots := 0, locals := 88 } : Room) G 151 ad (ceX G ad) [.ref (ad 140)] μ a μ := by
  refine mi_in (own := "UrnHeap$Orders") (lv := [(0, .ref (ad 140))]) (by decide) rfl rfl (Nat.le_of_ble_eq_true rfl) (fun X C E => ?_)
  unfold f_X6_isOrderEnd at h
  refine xx_aload_n C 1 rfl 0 dX6_isOrderEnd_0 rfl rfl ?_
  refine xx_geti (fi := 7) (j := 7) C 4 rfl (by decide) (ceX_140 _ _ _) rfl in_X6 (by decide) rfl w_367 dX6_isOrderEnd_1 h (fun v1 h => ?_)
  refine xx_aload_n C 5 rfl 0 dX6_isOrderEnd_4 rfl rfl ?_
  refine xx_getr (fi := 0) C 8 rfl (by decide) (ceX_140 _ _ _) rfl in_X6 (by decide) rfl w_355 dX6_isOrderEnd_5 ?_
  refine xx_cVip (As := []) (st := [.int (iI v1)]) (o := 141) C 11 rfl (by decide) (ceX_141 _ _ _) rfl rfl ca_J4_length_8abf5 cv_J4_length_8abf5 w_785 rfl ⟨Nat.le_of_ble_eq_true rfl, Nat.le_of_ble_eq_true rfl⟩ ⟨Nat.le_of_ble_eq_true rfl, Nat.le_of_ble_eq_true rfl⟩ (Nat.le_of_ble_eq_true rfl) dX6_isOrderEnd_8 (fun v8 e9 => c_J4_length_8abf5_o141 _ v8 e9) h (fun v8 h => ?_) rfl
  refine xx_icmp_ge (tgt := 30) C 14 rfl dX6_isOrderEnd_11 (by decide) h (fun h => ?_) (fun h => ?_)
  · refine xx_iconst C 31 rfl dX6_isOrderEnd_30 ?_
    refine xx_goto C 35 dX6_isOrderEnd_31 (by decide) ?_
    exact xx_zretl C E rfl rfl ⟨Nat.le_of_ble_eq_true rfl, Nat.le_of_ble_eq_true rfl⟩ dX6_isOrderEnd_35 h
  · refine xx_aload_n C 15 rfl 0 dX6_isOrderEnd_14 rfl rfl ?_
    refine xx_getr (fi := 0) C 18 rfl (by decide) (ceX_140 _ _ _) rfl in_X6 (by decide) rfl w_355 dX6_isOrderEnd_15 ?_
    refine xx_aload_n C 19 rfl 0 dX6_isOrderEnd_18 rfl rfl ?_
    refine xx_geti (fi := 7) (j := 7) C 22 rfl (by decide) (ceX_140 _ _ _) rfl in_X6 (by decide) rfl w_367 dX6_isOrderEnd_19 h (fun v19 h => ?_)
    refine xx_cVip (As := [.int (iI v19)]) (st := []) (o := 141) C 25 rfl (by decide) (ceX_141 _ _ _) rfl rfl ca_J4_charAt_5068e cv_J4_charAt_5068e w_936 rfl ⟨Nat.le_of_ble_eq_true rfl, Nat.le_of_ble_eq_true rfl⟩ ⟨Nat.le_of_ble_eq_true rfl, Nat.le_of_ble_eq_true rfl⟩ (Nat.le_of_ble_eq_true rfl) dX6_isOrderEnd_22 (fun v22 e9 => c_J4_charAt_5068e_o141 _ _ v22 e9) h (fun v22 h => ?_) rfl
    refine xx_bipush C 27 rfl dX6_isOrderEnd_25 (by decide) ?_
    refine xx_icmp_ne (tgt := 34) C 30 rfl dX6_isOrderEnd_27 (by decide) h (fun h => ?_) (fun h => ?_)
    · refine xx_iconst C 35 rfl dX6_isOrderEnd_34 ?_
      exact xx_zretl C E rfl rfl ⟨Nat.le_of_ble_eq_true rfl, Nat.le_of_ble_eq_true rfl⟩ dX6_isOrderEnd_35 h
    · refine xx_iconst C 31 rfl dX6_isOrderEnd_30 ?_
      refine xx_goto C 35 dX6_isOrderEnd_31 (by decide) ?_
      exact xx_zretl C E rfl rfl ⟨Nat.le_of_ble_eq_true rfl, Nat.le_of_ble_eq_true rfl⟩ dX6_isOrderEnd_35 h

def f_X6_readOrder_L4 (J39 : Int → mu_T → Option (Int × mu_T)) (a1 : Int) : Nat → Int → Int → mu_T → Option (Int × mu_T)
  | 0, _, _, _ => none
  | fu4 + 1, x2_4, x3_4, μ4 => lt_ x3_4 10
      (wf_ μ4 140 7 a1 (fun μ14 => gd_ (0 ≤ x3_4 ∧ x3_4 < 10) (gd_ (0 ≤ x3_4 ∧ x3_4 < 10) (bp_ (f_X6_fits μ14 x3_4) (fun v26 μ26 => jn_ (φ := Unit → Option (Int × mu_T)) (fun _ => nm_ (μ26 140 7) (fun v53 => mx_ x2_4 v53 (fun v56 => nm_ (x3_4 + 1) (fun n60 => (f_X6_readOrder_L4 J39 a1 fu4) v56 n60 μ26))))
      (fun J51 => eq_ v26 0
      (J51 ())
      (bd_ (f_X6_isOrderEnd μ26) (fun v33 => eq_ v33 0
      (J51 ())
      (J39 x3_4 μ26)))))))))
      (some (x2_4, μ4))
def f_X6_readOrder (μ : mu_T) (a1 : Int) : Option (Int × mu_T) :=
  jn_ (φ := Int → mu_T → Option (Int × mu_T)) (fun x3_39 μ39 => gd_ (0 ≤ x3_39 ∧ x3_39 < 10) (bd_ (f_X6_keep μ39 x3_39) (fun μ45 => some ((-15), μ45))))
      (fun J39 => f_X6_readOrder_L4 J39 a1 20000 a1 0 μ)
set_option maxHeartbeats 4000000 in
set_option maxRecDepth 100000 in
theorem c_X6_readOrder {G : gp_} {ad : Nat → Nat} (μ : mu_T) (a1 : Int) (a : Int) (μr : mu_T) (h : f_X6_readOrder μ a1 = some (a, μr)) : mi_ yX6_readOrder cX6_readOrder 4 (some .int) ({ frames := 7, cells := 0, slots := 0, locals := 159 } : Room) G 151 ad (ceX G ad) [.ref (ad 140), .int (iI a1)] μ a μr := by
  refine mi_in (own := "UrnHeap$Orders") (lv := [(0, .ref (ad 140)), (1, .int (iI a1))]) (by decide) rfl rfl (Nat.le_of_ble_eq_true rfl) (fun X C E => ?_)
  unfold f_X6_readOrder at h
  refine xx_iload_n C 1 rfl 1 dX6_readOrder_0 rfl rfl ?_
  refine xx_istore_n (lv1 := [(2, .int (iI a1)), (0, .ref (ad 140)), (1, .int (iI a1))]) C 2 rfl (by decide) dX6_readOrder_1 rfl rfl ?_
  refine xx_iconst C 3 rfl dX6_readOrder_2 ?_
  refine xx_istore_n (lv1 := [(3, .int (iI 0)), (2, .int (iI a1)), (0, .ref (ad 140)), (1, .int (iI a1))]) C 4 rfl (by decide) dX6_readOrder_3 rfl rfl ?_
  refine jn_r (fun J => ∀ (x3_39 : Int) (μ39 : mu_T), J x3_39 μ39 = some (a, μr) → wx_ G X 151 ad (ceX G ad) μ39 0 0 39 [(0, .ref (ad 140)), (3, .int (iI x3_39))] []) h (fun x3_39 μ39 h => ?_) (fun J39 K39 h => ?_)
  · refine xx_aload_n C 40 rfl 0 dX6_readOrder_39 rfl rfl ?_
    refine xx_gall C 43 rfl rfl dX6_readOrder_40 ?_
    refine xx_iload_n C 44 rfl 1 dX6_readOrder_43 rfl rfl ?_
    refine xx_alda C 45 rfl dX6_readOrder_44 h (fun h => ?_)
    refine xx_cVv (As := [.ref (G.2.1 (100 + (x3_39 : Int).toNat))]) (st := []) (o := 140) C 48 rfl (by decide) (ceX_140 _ _ _) rfl rfl ca_X6_keep cv_X6_keep w_953 rfl ⟨Nat.le_of_ble_eq_true rfl, Nat.le_of_ble_eq_true rfl⟩ ⟨Nat.le_of_ble_eq_true rfl, Nat.le_of_ble_eq_true rfl⟩ (Nat.le_of_ble_eq_true rfl) dX6_readOrder_45 (fun μ45 e9 => c_X6_keep _ _ μ45 e9) h (fun μ45 h => ?_) rfl
    refine xx_bipush C 50 rfl dX6_readOrder_48 (by decide) ?_
    exact xx_iret C E rfl ⟨Nat.le_of_ble_eq_true rfl, Nat.le_of_ble_eq_true rfl⟩ dX6_readOrder_50 h
  · have L4 : ∀ (fu4 : Nat) (x2_4 : Int) (x3_4 : Int) (μ4 : mu_T), f_X6_readOrder_L4 J39 a1 fu4 x2_4 x3_4 μ4 = some (a, μr) → wx_ G X 151 ad (ceX G ad) μ4 0 0 4 [(0, .ref (ad 140)), (1, .int (iI a1)), (2, .int (iI x2_4)), (3, .int (iI x3_4))] [] := by
      intro fu4
      induction fu4 with
      | zero => intro x2_4 x3_4 μ4 h; exact nn_ h
      | succ fu4 K4 =>
        intro x2_4 x3_4 μ4 h
        rw [f_X6_readOrder_L4] at h
        generalize f_X6_readOrder_L4 J39 a1 fu4 = R4 at K4 h
        refine xx_iload_n C 5 rfl 3 dX6_readOrder_4 rfl rfl ?_
        refine xx_gall C 8 rfl rfl dX6_readOrder_5 ?_
        refine xx_alllen C 9 rfl dX6_readOrder_8 ?_
        refine xx_icmp_ge (tgt := 66) C 12 rfl dX6_readOrder_9 (by decide) h (fun h => ?_) (fun h => ?_)
        · refine xx_iload_n C 67 rfl 2 dX6_readOrder_66 rfl rfl ?_
          exact xx_iret C E rfl ⟨Nat.le_of_ble_eq_true rfl, Nat.le_of_ble_eq_true rfl⟩ dX6_readOrder_67 h
        · refine xx_aload_n C 13 rfl 0 dX6_readOrder_12 rfl rfl ?_
          refine xx_iload_n C 14 rfl 1 dX6_readOrder_13 rfl rfl ?_
          refine xx_puti (fi := 7) (j := 7) C 17 rfl (by decide) (ceX_140 _ _ _) (puX_140_7 _ _ _ _) rfl in_X6 tyX6 tyX6_ok nmX6 (by decide) (Nat.le_of_ble_eq_true rfl) ⟨rfl, rfl⟩ w_367 dX6_readOrder_14 h (fun μ14 h => ?_)
          refine xx_aload_n C 18 rfl 0 dX6_readOrder_17 rfl rfl ?_
          refine xx_gall C 21 rfl rfl dX6_readOrder_18 ?_
          refine xx_iload_n C 22 rfl 3 dX6_readOrder_21 rfl rfl ?_
          refine xx_alda C 23 rfl dX6_readOrder_22 h (fun h => ?_)
          refine xx_form C 26 rfl w_1609 dX6_readOrder_23 h (fun h => ?_)
          refine xx_cVi (As := [.ref (G.2.1 (200 + (x3_4 : Int).toNat))]) (st := []) (o := 140) C 29 rfl (by decide) (ceX_140 _ _ _) rfl rfl ca_X6_fits cv_X6_fits w_897 rfl ⟨Nat.le_of_ble_eq_true rfl, Nat.le_of_ble_eq_true rfl⟩ ⟨Nat.le_of_ble_eq_true rfl, Nat.le_of_ble_eq_true rfl⟩ (Nat.le_of_ble_eq_true rfl) dX6_readOrder_26 (fun v26 μ26 e9 => c_X6_fits _ _ v26 μ26 e9) h (fun v26 μ26 h => ?_) rfl
          refine jn_r (fun J => ∀ (_u : Unit), J _u = some (a, μr) → wx_ G X 151 ad (ceX G ad) μ26 0 0 51 [(0, .ref (ad 140)), (1, .int (iI a1)), (2, .int (iI x2_4)), (3, .int (iI x3_4))] []) h (fun _ h => ?_) (fun J51 K51 h => ?_)
          · refine xx_iload_n C 52 rfl 2 dX6_readOrder_51 rfl rfl ?_
            refine xx_aload_n C 53 rfl 0 dX6_readOrder_52 rfl rfl ?_
            refine xx_geti (fi := 7) (j := 7) C 56 rfl (by decide) (ceX_140 _ _ _) rfl in_X6 (by decide) rfl w_367 dX6_readOrder_53 h (fun v53 h => ?_)
            refine xx_mmax C 59 rfl ⟨w_957, w_811, w_94, w_812⟩ ⟨Nat.le_of_ble_eq_true rfl, Nat.le_of_ble_eq_true rfl⟩ ⟨Nat.le_of_ble_eq_true rfl, Nat.le_of_ble_eq_true rfl⟩ dX6_readOrder_56 h (fun v56 h => ?_)
            refine xx_istore_n (lv1 := [(2, .int (iI v56)), (0, .ref (ad 140)), (1, .int (iI a1)), (3, .int (iI x3_4))]) C 60 rfl (by decide) dX6_readOrder_59 rfl rfl ?_
            refine xx_iincn C 63 rfl 3 (by decide) dX6_readOrder_60 rfl h (fun n60 h => ?_)
            refine xx_lv (lv1 := [(3, .int (iI n60)), (2, .int (iI v56)), (0, .ref (ad 140)), (1, .int (iI a1))]) rfl ?_
            refine xx_goto C 4 dX6_readOrder_63 (by decide) ?_
            refine xx_sub [2, 3, 1, 0] rfl ?_
            exact K4 v56 n60 μ26 h
          · refine xx_if_eq (tgt := 51) C 32 rfl dX6_readOrder_29 (by decide) h (fun h => ?_) (fun h => ?_)
            · exact K51 () h
            · refine xx_aload_n C 33 rfl 0 dX6_readOrder_32 rfl rfl ?_
              refine xx_cVip (As := []) (st := []) (o := 140) C 36 rfl (by decide) (ceX_140 _ _ _) rfl rfl ca_X6_isOrderEnd cv_X6_isOrderEnd w_949 rfl ⟨Nat.le_of_ble_eq_true rfl, Nat.le_of_ble_eq_true rfl⟩ ⟨Nat.le_of_ble_eq_true rfl, Nat.le_of_ble_eq_true rfl⟩ (Nat.le_of_ble_eq_true rfl) dX6_readOrder_33 (fun v33 e9 => c_X6_isOrderEnd _ v33 e9) h (fun v33 h => ?_) rfl
              refine xx_if_eq (tgt := 51) C 39 rfl dX6_readOrder_36 (by decide) h (fun h => ?_) (fun h => ?_)
              · exact K51 () h
              · refine xx_sub [0, 3] rfl ?_
                exact K39 x3_4 μ26 h
    refine xx_sub [2, 3, 1, 0] rfl ?_
    exact L4 _ _ _ _ h

def f_X6_read_L9  : Nat → Int → Int → mu_T → Option (Int × mu_T)
  | 0, _, _, _ => none
  | fu9 + 1, x1_9, x2_9, μ9 => lt_ x2_9 60
      (bp_ (f_X6_readOrder μ9 x1_9) (fun v20 μ20 => eq_ v20 (-15)
      (nm_ (μ20 140 7) (fun v33 => bd_ (f_J4_length_8abf5_o141 μ20) (fun v40 => lt_ v33 v40
      (nm_ (μ20 140 7) (fun v50 => nm_ ((v50 + 1)) (fun n55 => nm_ (x2_9 + 1) (fun n56 => (f_X6_read_L9 fu9) n55 n56 μ20))))
      (some ((-15), μ20)))))
      (some (v20, μ20))))
      (some (x1_9, μ9))
def f_X6_read (μ : mu_T)  : Option (Int × mu_T) :=
  wf_ μ 140 5 0 (fun μ2 => f_X6_read_L9 20000 0 0 μ2)
set_option maxHeartbeats 4000000 in
set_option maxRecDepth 100000 in
theorem c_X6_read {G : gp_} {ad : Nat → Nat} (μ : mu_T)  (a : Int) (μr : mu_T) (h : f_X6_read μ  = some (a, μr)) : mi_ yX6_read cX6_read 4 (some .int) ({ frames := 8, cells := 0, slots := 0, locals := 182 } : Room) G 151 ad (ceX G ad) [.ref (ad 140)] μ a μr := by
  refine mi_in (own := "UrnHeap$Orders") (lv := [(0, .ref (ad 140))]) (by decide) rfl rfl (Nat.le_of_ble_eq_true rfl) (fun X C E => ?_)
  unfold f_X6_read at h
  refine xx_aload_n C 1 rfl 0 dX6_read_0 rfl rfl ?_
  refine xx_iconst C 2 rfl dX6_read_1 ?_
  refine xx_puti (fi := 5) (j := 5) C 5 rfl (by decide) (ceX_140 _ _ _) (puX_140_5 _ _ _ _) rfl in_X6 tyX6 tyX6_ok nmX6 (by decide) (Nat.le_of_ble_eq_true rfl) ⟨rfl, rfl⟩ w_364 dX6_read_2 h (fun μ2 h => ?_)
  refine xx_iconst C 6 rfl dX6_read_5 ?_
  refine xx_istore_n (lv1 := [(1, .int (iI 0)), (0, .ref (ad 140))]) C 7 rfl (by decide) dX6_read_6 rfl rfl ?_
  refine xx_iconst C 8 rfl dX6_read_7 ?_
  refine xx_istore_n (lv1 := [(2, .int (iI 0)), (1, .int (iI 0)), (0, .ref (ad 140))]) C 9 rfl (by decide) dX6_read_8 rfl rfl ?_
  have L9 : ∀ (fu9 : Nat) (x1_9 : Int) (x2_9 : Int) (μ9 : mu_T), f_X6_read_L9 fu9 x1_9 x2_9 μ9 = some (a, μr) → wx_ G X 151 ad (ceX G ad) μ9 0 0 9 [(0, .ref (ad 140)), (1, .int (iI x1_9)), (2, .int (iI x2_9))] [] := by
    intro fu9
    induction fu9 with
    | zero => intro x1_9 x2_9 μ9 h; exact nn_ h
    | succ fu9 K9 =>
      intro x1_9 x2_9 μ9 h
      rw [f_X6_read_L9] at h
      generalize f_X6_read_L9 fu9 = R9 at K9 h
      refine xx_iload_n C 10 rfl 2 dX6_read_9 rfl rfl ?_
      refine xx_aload_n C 11 rfl 0 dX6_read_10 rfl rfl ?_
      refine xx_getr (fi := 1) C 14 rfl (by decide) (ceX_140 _ _ _) rfl in_X6 (by decide) rfl w_356 dX6_read_11 ?_
      refine xx_klen (nA := 60) C 15 rfl (by decide) (fun row => ceX_143 _ _ row) dX6_read_14 ?_
      refine xx_icmp_ge (tgt := 62) C 18 rfl dX6_read_15 (by decide) h (fun h => ?_) (fun h => ?_)
      · refine xx_iload_n C 63 rfl 1 dX6_read_62 rfl rfl ?_
        exact xx_iret C E rfl ⟨Nat.le_of_ble_eq_true rfl, Nat.le_of_ble_eq_true rfl⟩ dX6_read_63 h
      · refine xx_aload_n C 19 rfl 0 dX6_read_18 rfl rfl ?_
        refine xx_iload_n C 20 rfl 1 dX6_read_19 rfl rfl ?_
        refine xx_cVi (As := [.int (iI x1_9)]) (st := []) (o := 140) C 23 rfl (by decide) (ceX_140 _ _ _) rfl rfl ca_X6_readOrder cv_X6_readOrder w_891 rfl ⟨Nat.le_of_ble_eq_true rfl, Nat.le_of_ble_eq_true rfl⟩ ⟨Nat.le_of_ble_eq_true rfl, Nat.le_of_ble_eq_true rfl⟩ (Nat.le_of_ble_eq_true rfl) dX6_read_20 (fun v20 μ20 e9 => c_X6_readOrder _ _ v20 μ20 e9) h (fun v20 μ20 h => ?_) rfl
        refine xx_istore_n (lv1 := [(3, .int (iI v20)), (0, .ref (ad 140)), (1, .int (iI x1_9)), (2, .int (iI x2_9))]) C 24 rfl (by decide) dX6_read_23 rfl rfl ?_
        refine xx_iload_n C 25 rfl 0 dX6_read_24 rfl rfl ?_
        refine xx_bipush C 27 rfl dX6_read_25 (by decide) ?_
        refine xx_icmp_eq (tgt := 32) C 30 rfl dX6_read_27 (by decide) h (fun h => ?_) (fun h => ?_)
        · refine xx_aload_n C 33 rfl 1 dX6_read_32 rfl rfl ?_
          refine xx_geti (fi := 7) (j := 7) C 36 rfl (by decide) (ceX_140 _ _ _) rfl in_X6 (by decide) rfl w_367 dX6_read_33 h (fun v33 h => ?_)
          refine xx_aload_n C 37 rfl 1 dX6_read_36 rfl rfl ?_
          refine xx_getr (fi := 0) C 40 rfl (by decide) (ceX_140 _ _ _) rfl in_X6 (by decide) rfl w_355 dX6_read_37 ?_
          refine xx_cVip (As := []) (st := [.int (iI v33)]) (o := 141) C 43 rfl (by decide) (ceX_141 _ _ _) rfl rfl ca_J4_length_8abf5 cv_J4_length_8abf5 w_785 rfl ⟨Nat.le_of_ble_eq_true rfl, Nat.le_of_ble_eq_true rfl⟩ ⟨Nat.le_of_ble_eq_true rfl, Nat.le_of_ble_eq_true rfl⟩ (Nat.le_of_ble_eq_true rfl) dX6_read_40 (fun v40 e9 => c_J4_length_8abf5_o141 _ v40 e9) h (fun v40 h => ?_) rfl
          refine xx_icmp_lt (tgt := 49) C 46 rfl dX6_read_43 (by decide) h (fun h => ?_) (fun h => ?_)
          · refine xx_aload_n C 50 rfl 1 dX6_read_49 rfl rfl ?_
            refine xx_geti (fi := 7) (j := 7) C 53 rfl (by decide) (ceX_140 _ _ _) rfl in_X6 (by decide) rfl w_367 dX6_read_50 h (fun v50 h => ?_)
            refine xx_iconst C 54 rfl dX6_read_53 ?_
            refine xx_iadd C 55 rfl dX6_read_54 ?_
            refine xx_nm C h (fun n55 h => ?_)
            refine xx_istore_n (lv1 := [(1, .int (iI n55)), (3, .int (iI v20)), (0, .ref (ad 140)), (2, .int (iI x2_9))]) C 56 rfl (by decide) dX6_read_55 rfl rfl ?_
            refine xx_iincn C 59 rfl 3 (by decide) dX6_read_56 rfl h (fun n56 h => ?_)
            refine xx_lv (lv1 := [(2, .int (iI n56)), (1, .int (iI n55)), (3, .int (iI v20)), (0, .ref (ad 140))]) rfl ?_
            refine xx_goto C 9 dX6_read_59 (by decide) ?_
            refine xx_sub [3, 1, 0] rfl ?_
            exact K9 n55 n56 μ20 h
          · refine xx_bipush C 48 rfl dX6_read_46 (by decide) ?_
            exact xx_iret C E rfl ⟨Nat.le_of_ble_eq_true rfl, Nat.le_of_ble_eq_true rfl⟩ dX6_read_48 h
        · refine xx_iload_n C 31 rfl 0 dX6_read_30 rfl rfl ?_
          exact xx_iret C E rfl ⟨Nat.le_of_ble_eq_true rfl, Nat.le_of_ble_eq_true rfl⟩ dX6_read_31 h
  refine xx_sub [2, 1, 0] rfl ?_
  exact L9 _ _ _ _ h

def f_X11_appendg (μ : mu_T) (a1 : Int) : Option (Int × mu_T) :=
  bp_ (f_X6_addSigng μ a1) (fun v5 μ5 => some (v5, μ5))
set_option maxHeartbeats 4000000 in
set_option maxRecDepth 100000 in
theorem c_X11_appendg {G : gp_} {ad : Nat → Nat} (p q : Nat) (μ : mu_T) (a1 : Int) (a : Int) (μr : mu_T) (h : f_X11_appendg μ a1 = some (a, μr)) : mgi_ yX11_append cX11_append 2 (some .int) ({ frames := 7, cells := 1, slots := 70, locals := 155 } : Room) G ad p q [.ref (ad 132), .int (iI a1)] μ a μr := by
  refine mg_in (own := "UrnHeap") (lv := [(0, .ref (ad 132)), (1, .int (iI a1))]) (by decide) rfl rfl (Nat.le_of_ble_eq_true rfl) (fun X C E => ?_)
  have hb : (0 + 0 ≤ 0 ∧ 0 + 0 ≤ 0) := ⟨Nat.le_refl _, Nat.le_refl _⟩
  unfold f_X11_appendg at h
  refine xx_aload_n C 1 rfl 0 dX11_append_0 rfl rfl ?_
  refine xx_getr (fi := 6) C 4 rfl (by decide) (ceX_132 _ _ _) rfl in_X11 (by decide) rfl w_403 dX11_append_1 ?_
  refine xx_iload_n C 5 rfl 1 dX11_append_4 rfl rfl ?_
  refine xx_gVi (As := [.int (iI a1)]) (st := []) (o := 140) C 8 rfl (by decide) (ceX_140 _ _ _) rfl rfl ca_X6_addSign cv_X6_addSign w_781 rfl ⟨Nat.le_of_ble_eq_true rfl, Nat.le_of_ble_eq_true rfl⟩ (gB_ hb (Nat.le_of_ble_eq_true rfl) (Nat.le_of_ble_eq_true rfl)) (Nat.le_of_ble_eq_true rfl) dX11_append_5 (fun v5 μ5 e9 => c_X6_addSigng p q _ _ v5 μ5 e9) h (fun p q v5 μ5 h => ?_) rfl
  have hb := gN_ (c2 := 1) (s2 := 70) hb
  exact xx_giret C E rfl (gR_ hb (Nat.le_of_ble_eq_true rfl) (Nat.le_of_ble_eq_true rfl)) dX11_append_8 h

def f_X11_carryOut (μ : mu_T) (a1 : Int) : Option (Int × mu_T) :=
  bd_ (f_X6_has μ a1) (fun v5 => eq_ v5 0
      (some ((-11), μ))
      (rd_ μ 144 60 a1 (fun v22 => rd_ μ 145 60 a1 (fun v32 => rd_ μ 143 60 a1 (fun v45 => gd_ (0 ≤ v45 ∧ v45 < 10) (bd_ (f_Jx29ce0_ordinal_8abf5 μ v45) (fun v46 => gd_ (0 ≤ v46 ∧ v46 < 10) (ts_ (v46 + 1) [1, 2, 3, 4, 5, 6, 7, 8, 9, 10] [bp_ (f_X1_makeUrn μ 0) (fun v109 μ109 => some (v109, μ109)),
      bp_ (f_X1_makeUrn μ 1) (fun v118 μ118 => some (v118, μ118)),
      rd_ μ 146 60 a1 (fun v136 => bp_ (f_X1_tieThread μ v22 v32 v136) (fun v137 μ137 => some (v137, μ137))),
      bp_ (f_X1_takeThread μ v22 v32) (fun v147 μ147 => some (v147, μ147)),
      bp_ (f_X1_giveName μ v22 v32) (fun v157 μ157 => some (v157, μ157)),
      bp_ (f_X1_takeName μ v22) (fun v166 μ166 => some (v166, μ166)),
      bp_ (f_X1_tieWeak μ v22 v32) (fun v176 μ176 => some (v176, μ176)),
      bp_ (f_X10_endRound μ) (fun v184 μ184 => some (v184, μ184)),
      bp_ (f_X10_doParts μ v22) (fun v193 μ193 => some (v193, μ193)),
      bp_ (f_X10_doRite μ) (fun v201 μ201 => some (v201, μ201))]
      (some ((-11), μ))))))))))
set_option maxHeartbeats 4000000 in
set_option maxRecDepth 100000 in
theorem c_X11_carryOut {G : gp_} {ad : Nat → Nat} (μ : mu_T) (a1 : Int) (a : Int) (μr : mu_T) (h : f_X11_carryOut μ a1 = some (a, μr)) : mi_ yX11_carryOut cX11_carryOut 4 (some .int) ({ frames := 5, cells := 0, slots := 0, locals := 108 } : Room) G 151 ad (ceX G ad) [.ref (ad 132), .int (iI a1)] μ a μr := by
  refine mi_in (own := "UrnHeap") (lv := [(0, .ref (ad 132)), (1, .int (iI a1))]) (by decide) rfl rfl (Nat.le_of_ble_eq_true rfl) (fun X C E => ?_)
  unfold f_X11_carryOut at h
  refine xx_aload_n C 1 rfl 0 dX11_carryOut_0 rfl rfl ?_
  refine xx_getr (fi := 6) C 4 rfl (by decide) (ceX_132 _ _ _) rfl in_X11 (by decide) rfl w_403 dX11_carryOut_1 ?_
  refine xx_iload_n C 5 rfl 1 dX11_carryOut_4 rfl rfl ?_
  refine xx_cVip (As := [.int (iI a1)]) (st := []) (o := 140) C 8 rfl (by decide) (ceX_140 _ _ _) rfl rfl ca_X6_has cv_X6_has w_986 rfl ⟨Nat.le_of_ble_eq_true rfl, Nat.le_of_ble_eq_true rfl⟩ ⟨Nat.le_of_ble_eq_true rfl, Nat.le_of_ble_eq_true rfl⟩ (Nat.le_of_ble_eq_true rfl) dX11_carryOut_5 (fun v5 e9 => c_X6_has _ _ v5 e9) h (fun v5 h => ?_) rfl
  refine xx_if_ne (tgt := 14) C 11 rfl dX11_carryOut_8 (by decide) h (fun h => ?_) (fun h => ?_)
  · refine xx_aload_n C 15 rfl 0 dX11_carryOut_14 rfl rfl ?_
    refine xx_getr (fi := 6) C 18 rfl (by decide) (ceX_132 _ _ _) rfl in_X11 (by decide) rfl w_403 dX11_carryOut_15 ?_
    refine xx_getr (fi := 2) C 21 rfl (by decide) (ceX_140 _ _ _) rfl in_X6 (by decide) rfl w_359 dX11_carryOut_18 ?_
    refine xx_iload_n C 22 rfl 1 dX11_carryOut_21 rfl rfl ?_
    refine xx_iaload C 23 rfl (by decide) (fun row => ceX_144 _ _ row) (by decide) dX11_carryOut_22 h (fun v22 h => ?_)
    refine xx_istore_n (lv1 := [(2, .int (iI v22)), (0, .ref (ad 132)), (1, .int (iI a1))]) C 24 rfl (by decide) dX11_carryOut_23 rfl rfl ?_
    refine xx_aload_n C 25 rfl 1 dX11_carryOut_24 rfl rfl ?_
    refine xx_getr (fi := 6) C 28 rfl (by decide) (ceX_132 _ _ _) rfl in_X11 (by decide) rfl w_403 dX11_carryOut_25 ?_
    refine xx_getr (fi := 3) C 31 rfl (by decide) (ceX_140 _ _ _) rfl in_X6 (by decide) rfl w_361 dX11_carryOut_28 ?_
    refine xx_iload_n C 32 rfl 2 dX11_carryOut_31 rfl rfl ?_
    refine xx_iaload C 33 rfl (by decide) (fun row => ceX_145 _ _ row) (by decide) dX11_carryOut_32 h (fun v32 h => ?_)
    refine xx_istore_n (lv1 := [(3, .int (iI v32)), (2, .int (iI v22)), (0, .ref (ad 132)), (1, .int (iI a1))]) C 34 rfl (by decide) dX11_carryOut_33 rfl rfl ?_
    refine xx_gsm C 37 rfl w_990 dX11_carryOut_34 ?_
    refine xx_aload_n C 38 rfl 2 dX11_carryOut_37 rfl rfl ?_
    refine xx_getr (fi := 6) C 41 rfl (by decide) (ceX_132 _ _ _) rfl in_X11 (by decide) rfl w_403 dX11_carryOut_38 ?_
    refine xx_getr (fi := 1) C 44 rfl (by decide) (ceX_140 _ _ _) rfl in_X6 (by decide) rfl w_357 dX11_carryOut_41 ?_
    refine xx_iload_n C 45 rfl 3 dX11_carryOut_44 rfl rfl ?_
    refine xx_aldk C 46 rfl (by decide) (fun row => ceX_143 _ _ row) (by decide) dX11_carryOut_45 h (fun v45 h => ?_)
    refine xx_cOip (x := (⟨"UrnHeap$Kind", "ordinal", "()I"⟩ : MethodName)) (y := yJx29ce0_ordinal_8abf5) (st := [.ref (G.2.1 1)]) C 49 rfl rfl rfl ca_Jx29ce0_ordinal_8abf5 ⟨w_993, w_996, w_995⟩ w_992 ⟨Nat.le_of_ble_eq_true rfl, Nat.le_of_ble_eq_true rfl⟩ ⟨Nat.le_of_ble_eq_true rfl, Nat.le_of_ble_eq_true rfl⟩ (Nat.le_of_ble_eq_true rfl) dX11_carryOut_46 (fun v46 e9 => c_Jx29ce0_ordinal_8abf5 _ _ v46 e9) h (fun v46 h => ?_)
    refine xx_smld C 50 rfl dX11_carryOut_49 h (fun h => ?_)
    refine xx_tsw C [1, 2, 3, 4, 5, 6, 7, 8, 9, 10] _ [104, 113, 122, 141, 151, 161, 170, 180, 188, 197] 205 dX11_carryOut_50 (by decide) rfl h (fun h => ?_) ⟨fun h => ?_, fun h => ?_, fun h => ?_, fun h => ?_, fun h => ?_, fun h => ?_, fun h => ?_, fun h => ?_, fun h => ?_, fun h => ?_, trivial⟩
    · refine xx_bipush C 207 rfl dX11_carryOut_205 (by decide) ?_
      exact xx_iret C E rfl ⟨Nat.le_of_ble_eq_true rfl, Nat.le_of_ble_eq_true rfl⟩ dX11_carryOut_207 h
    · refine xx_aload_n C 105 rfl 2 dX11_carryOut_104 rfl rfl ?_
      refine xx_getr (fi := 2) C 108 rfl (by decide) (ceX_132 _ _ _) rfl in_X11 (by decide) rfl w_399 dX11_carryOut_105 ?_
      refine xx_iconst C 109 rfl dX11_carryOut_108 ?_
      refine xx_cVi (As := [.int (iI 0)]) (st := []) (o := 134) C 112 rfl (by decide) (ceX_134 _ _ _) rfl rfl ca_X1_makeUrn cv_X1_makeUrn w_446 rfl ⟨Nat.le_of_ble_eq_true rfl, Nat.le_of_ble_eq_true rfl⟩ ⟨Nat.le_of_ble_eq_true rfl, Nat.le_of_ble_eq_true rfl⟩ (Nat.le_of_ble_eq_true rfl) dX11_carryOut_109 (fun v109 μ109 e9 => c_X1_makeUrn _ _ v109 μ109 e9) h (fun v109 μ109 h => ?_) rfl
      exact xx_iret C E rfl ⟨Nat.le_of_ble_eq_true rfl, Nat.le_of_ble_eq_true rfl⟩ dX11_carryOut_112 h
    · refine xx_aload_n C 114 rfl 2 dX11_carryOut_113 rfl rfl ?_
      refine xx_getr (fi := 2) C 117 rfl (by decide) (ceX_132 _ _ _) rfl in_X11 (by decide) rfl w_399 dX11_carryOut_114 ?_
      refine xx_iconst C 118 rfl dX11_carryOut_117 ?_
      refine xx_cVi (As := [.int (iI 1)]) (st := []) (o := 134) C 121 rfl (by decide) (ceX_134 _ _ _) rfl rfl ca_X1_makeUrn cv_X1_makeUrn w_446 rfl ⟨Nat.le_of_ble_eq_true rfl, Nat.le_of_ble_eq_true rfl⟩ ⟨Nat.le_of_ble_eq_true rfl, Nat.le_of_ble_eq_true rfl⟩ (Nat.le_of_ble_eq_true rfl) dX11_carryOut_118 (fun v118 μ118 e9 => c_X1_makeUrn _ _ v118 μ118 e9) h (fun v118 μ118 h => ?_) rfl
      exact xx_iret C E rfl ⟨Nat.le_of_ble_eq_true rfl, Nat.le_of_ble_eq_true rfl⟩ dX11_carryOut_121 h
    · refine xx_aload_n C 123 rfl 2 dX11_carryOut_122 rfl rfl ?_
      refine xx_getr (fi := 2) C 126 rfl (by decide) (ceX_132 _ _ _) rfl in_X11 (by decide) rfl w_399 dX11_carryOut_123 ?_
      refine xx_iload_n C 127 rfl 1 dX11_carryOut_126 rfl rfl ?_
      refine xx_iload_n C 128 rfl 0 dX11_carryOut_127 rfl rfl ?_
      refine xx_aload_n C 129 rfl 2 dX11_carryOut_128 rfl rfl ?_
      refine xx_getr (fi := 6) C 132 rfl (by decide) (ceX_132 _ _ _) rfl in_X11 (by decide) rfl w_403 dX11_carryOut_129 ?_
      refine xx_getr (fi := 4) C 135 rfl (by decide) (ceX_140 _ _ _) rfl in_X6 (by decide) rfl w_363 dX11_carryOut_132 ?_
      refine xx_iload_n C 136 rfl 3 dX11_carryOut_135 rfl rfl ?_
      refine xx_iaload C 137 rfl (by decide) (fun row => ceX_146 _ _ row) (by decide) dX11_carryOut_136 h (fun v136 h => ?_)
      refine xx_cVi (As := [.int (iI v22), .int (iI v32), .int (iI v136)]) (st := []) (o := 134) C 140 rfl (by decide) (ceX_134 _ _ _) rfl rfl ca_X1_tieThread cv_X1_tieThread w_476 rfl ⟨Nat.le_of_ble_eq_true rfl, Nat.le_of_ble_eq_true rfl⟩ ⟨Nat.le_of_ble_eq_true rfl, Nat.le_of_ble_eq_true rfl⟩ (Nat.le_of_ble_eq_true rfl) dX11_carryOut_137 (fun v137 μ137 e9 => c_X1_tieThread _ _ _ _ v137 μ137 e9) h (fun v137 μ137 h => ?_) rfl
      exact xx_iret C E rfl ⟨Nat.le_of_ble_eq_true rfl, Nat.le_of_ble_eq_true rfl⟩ dX11_carryOut_140 h
    · refine xx_aload_n C 142 rfl 2 dX11_carryOut_141 rfl rfl ?_
      refine xx_getr (fi := 2) C 145 rfl (by decide) (ceX_132 _ _ _) rfl in_X11 (by decide) rfl w_399 dX11_carryOut_142 ?_
      refine xx_iload_n C 146 rfl 1 dX11_carryOut_145 rfl rfl ?_
      refine xx_iload_n C 147 rfl 0 dX11_carryOut_146 rfl rfl ?_
      refine xx_cVi (As := [.int (iI v22), .int (iI v32)]) (st := []) (o := 134) C 150 rfl (by decide) (ceX_134 _ _ _) rfl rfl ca_X1_takeThread cv_X1_takeThread w_515 rfl ⟨Nat.le_of_ble_eq_true rfl, Nat.le_of_ble_eq_true rfl⟩ ⟨Nat.le_of_ble_eq_true rfl, Nat.le_of_ble_eq_true rfl⟩ (Nat.le_of_ble_eq_true rfl) dX11_carryOut_147 (fun v147 μ147 e9 => c_X1_takeThread _ _ _ v147 μ147 e9) h (fun v147 μ147 h => ?_) rfl
      exact xx_iret C E rfl ⟨Nat.le_of_ble_eq_true rfl, Nat.le_of_ble_eq_true rfl⟩ dX11_carryOut_150 h
    · refine xx_aload_n C 152 rfl 2 dX11_carryOut_151 rfl rfl ?_
      refine xx_getr (fi := 2) C 155 rfl (by decide) (ceX_132 _ _ _) rfl in_X11 (by decide) rfl w_399 dX11_carryOut_152 ?_
      refine xx_iload_n C 156 rfl 1 dX11_carryOut_155 rfl rfl ?_
      refine xx_iload_n C 157 rfl 0 dX11_carryOut_156 rfl rfl ?_
      refine xx_cVi (As := [.int (iI v22), .int (iI v32)]) (st := []) (o := 134) C 160 rfl (by decide) (ceX_134 _ _ _) rfl rfl ca_X1_giveName cv_X1_giveName w_539 rfl ⟨Nat.le_of_ble_eq_true rfl, Nat.le_of_ble_eq_true rfl⟩ ⟨Nat.le_of_ble_eq_true rfl, Nat.le_of_ble_eq_true rfl⟩ (Nat.le_of_ble_eq_true rfl) dX11_carryOut_157 (fun v157 μ157 e9 => c_X1_giveName _ _ _ v157 μ157 e9) h (fun v157 μ157 h => ?_) rfl
      exact xx_iret C E rfl ⟨Nat.le_of_ble_eq_true rfl, Nat.le_of_ble_eq_true rfl⟩ dX11_carryOut_160 h
    · refine xx_aload_n C 162 rfl 2 dX11_carryOut_161 rfl rfl ?_
      refine xx_getr (fi := 2) C 165 rfl (by decide) (ceX_132 _ _ _) rfl in_X11 (by decide) rfl w_399 dX11_carryOut_162 ?_
      refine xx_iload_n C 166 rfl 1 dX11_carryOut_165 rfl rfl ?_
      refine xx_cVi (As := [.int (iI v22)]) (st := []) (o := 134) C 169 rfl (by decide) (ceX_134 _ _ _) rfl rfl ca_X1_takeName cv_X1_takeName w_550 rfl ⟨Nat.le_of_ble_eq_true rfl, Nat.le_of_ble_eq_true rfl⟩ ⟨Nat.le_of_ble_eq_true rfl, Nat.le_of_ble_eq_true rfl⟩ (Nat.le_of_ble_eq_true rfl) dX11_carryOut_166 (fun v166 μ166 e9 => c_X1_takeName _ _ v166 μ166 e9) h (fun v166 μ166 h => ?_) rfl
      exact xx_iret C E rfl ⟨Nat.le_of_ble_eq_true rfl, Nat.le_of_ble_eq_true rfl⟩ dX11_carryOut_169 h
    · refine xx_aload_n C 171 rfl 2 dX11_carryOut_170 rfl rfl ?_
      refine xx_getr (fi := 2) C 174 rfl (by decide) (ceX_132 _ _ _) rfl in_X11 (by decide) rfl w_399 dX11_carryOut_171 ?_
      refine xx_iload_n C 175 rfl 1 dX11_carryOut_174 rfl rfl ?_
      refine xx_iload_n C 176 rfl 0 dX11_carryOut_175 rfl rfl ?_
      refine xx_cVi (As := [.int (iI v22), .int (iI v32)]) (st := []) (o := 134) C 179 rfl (by decide) (ceX_134 _ _ _) rfl rfl ca_X1_tieWeak cv_X1_tieWeak w_523 rfl ⟨Nat.le_of_ble_eq_true rfl, Nat.le_of_ble_eq_true rfl⟩ ⟨Nat.le_of_ble_eq_true rfl, Nat.le_of_ble_eq_true rfl⟩ (Nat.le_of_ble_eq_true rfl) dX11_carryOut_176 (fun v176 μ176 e9 => c_X1_tieWeak _ _ _ v176 μ176 e9) h (fun v176 μ176 h => ?_) rfl
      exact xx_iret C E rfl ⟨Nat.le_of_ble_eq_true rfl, Nat.le_of_ble_eq_true rfl⟩ dX11_carryOut_179 h
    · refine xx_aload_n C 181 rfl 2 dX11_carryOut_180 rfl rfl ?_
      refine xx_getr (fi := 3) C 184 rfl (by decide) (ceX_132 _ _ _) rfl in_X11 (by decide) rfl w_400 dX11_carryOut_181 ?_
      refine xx_cVi (As := []) (st := []) (o := 135) C 187 rfl (by decide) (ceX_135 _ _ _) rfl rfl ca_X10_endRound cv_X10_endRound w_646 rfl ⟨Nat.le_of_ble_eq_true rfl, Nat.le_of_ble_eq_true rfl⟩ ⟨Nat.le_of_ble_eq_true rfl, Nat.le_of_ble_eq_true rfl⟩ (Nat.le_of_ble_eq_true rfl) dX11_carryOut_184 (fun v184 μ184 e9 => c_X10_endRound _ v184 μ184 e9) h (fun v184 μ184 h => ?_) rfl
      exact xx_iret C E rfl ⟨Nat.le_of_ble_eq_true rfl, Nat.le_of_ble_eq_true rfl⟩ dX11_carryOut_187 h
    · refine xx_aload_n C 189 rfl 2 dX11_carryOut_188 rfl rfl ?_
      refine xx_getr (fi := 3) C 192 rfl (by decide) (ceX_132 _ _ _) rfl in_X11 (by decide) rfl w_400 dX11_carryOut_189 ?_
      refine xx_iload_n C 193 rfl 1 dX11_carryOut_192 rfl rfl ?_
      refine xx_cVi (As := [.int (iI v22)]) (st := []) (o := 135) C 196 rfl (by decide) (ceX_135 _ _ _) rfl rfl ca_X10_doParts cv_X10_doParts w_601 rfl ⟨Nat.le_of_ble_eq_true rfl, Nat.le_of_ble_eq_true rfl⟩ ⟨Nat.le_of_ble_eq_true rfl, Nat.le_of_ble_eq_true rfl⟩ (Nat.le_of_ble_eq_true rfl) dX11_carryOut_193 (fun v193 μ193 e9 => c_X10_doParts _ _ v193 μ193 e9) h (fun v193 μ193 h => ?_) rfl
      exact xx_iret C E rfl ⟨Nat.le_of_ble_eq_true rfl, Nat.le_of_ble_eq_true rfl⟩ dX11_carryOut_196 h
    · refine xx_aload_n C 198 rfl 2 dX11_carryOut_197 rfl rfl ?_
      refine xx_getr (fi := 3) C 201 rfl (by decide) (ceX_132 _ _ _) rfl in_X11 (by decide) rfl w_400 dX11_carryOut_198 ?_
      refine xx_cVi (As := []) (st := []) (o := 135) C 204 rfl (by decide) (ceX_135 _ _ _) rfl rfl ca_X10_doRite cv_X10_doRite w_654 rfl ⟨Nat.le_of_ble_eq_true rfl, Nat.le_of_ble_eq_true rfl⟩ ⟨Nat.le_of_ble_eq_true rfl, Nat.le_of_ble_eq_true rfl⟩ (Nat.le_of_ble_eq_true rfl) dX11_carryOut_201 (fun v201 μ201 e9 => c_X10_doRite _ v201 μ201 e9) h (fun v201 μ201 h => ?_) rfl
      exact xx_iret C E rfl ⟨Nat.le_of_ble_eq_true rfl, Nat.le_of_ble_eq_true rfl⟩ dX11_carryOut_204 h
  · refine xx_bipush C 13 rfl dX11_carryOut_11 (by decide) ?_
    exact xx_iret C E rfl ⟨Nat.le_of_ble_eq_true rfl, Nat.le_of_ble_eq_true rfl⟩ dX11_carryOut_13 h

def f_X11_run_L36 (J58 : Int → mu_T → Option (Int × mu_T)) (J82 : mu_T → Option (Int × mu_T)) : Nat → Int → mu_T → Option (Int × mu_T)
  | 0, _, _ => none
  | fu36 + 1, x2_36, μ36 => nm_ (μ36 140 5) (fun v41 => lt_ x2_36 v41
      (bp_ (f_X11_carryOut μ36 x2_36) (fun v49 μ49 => bd_ (f_X3_isRefusal μ49 v49) (fun v52 => eq_ v52 0
      (nm_ (x2_36 + 1) (fun n76 => (f_X11_run_L36 J58 J82 fu36) n76 μ49))
      (J58 x2_36 μ49))))
      (J82 μ36))
def f_X11_run (μ : mu_T)  : Option (Int × mu_T) :=
  bp_ (f_X6_read μ) (fun v4 μ4 => bd_ (f_X6_clearText μ4) (fun μ12 => eq_ v4 (-15)
      (bd_ (f_X3_keepBefore μ12) (fun μ31 => jn_ (φ := mu_T → Option (Int × mu_T)) (fun μ82 => nm_ (μ82 140 5) (fun v90 => bp_ (f_X3_settle μ82 v90) (fun v93 μ93 => some (v93, μ93))))
      (fun J82 => jn_ (φ := Int → mu_T → Option (Int × mu_T)) (fun x2_58 μ58 => bd_ (f_X3_takeBack μ58) (fun μ62 => bp_ (f_X8_refuse μ62 8 x2_58) (fun v72 μ72 => some (v72, μ72))))
      (fun J58 => f_X11_run_L36 J58 J82 20000 0 μ31))))
      (some (((-1000) - v4), μ12))))
set_option maxHeartbeats 4000000 in
set_option maxRecDepth 100000 in
theorem c_X11_run {G : gp_} {ad : Nat → Nat} (μ : mu_T)  (a : Int) (μr : mu_T) (h : f_X11_run μ  = some (a, μr)) : mi_ yX11_run cX11_run 3 (some .int) ({ frames := 9, cells := 0, slots := 0, locals := 205 } : Room) G 151 ad (ceX G ad) [.ref (ad 132)] μ a μr := by
  refine mi_in (own := "UrnHeap") (lv := [(0, .ref (ad 132))]) (by decide) rfl rfl (Nat.le_of_ble_eq_true rfl) (fun X C E => ?_)
  unfold f_X11_run at h
  refine xx_aload_n C 1 rfl 0 dX11_run_0 rfl rfl ?_
  refine xx_getr (fi := 6) C 4 rfl (by decide) (ceX_132 _ _ _) rfl in_X11 (by decide) rfl w_403 dX11_run_1 ?_
  refine xx_cVi (As := []) (st := []) (o := 140) C 7 rfl (by decide) (ceX_140 _ _ _) rfl rfl ca_X6_read cv_X6_read w_887 rfl ⟨Nat.le_of_ble_eq_true rfl, Nat.le_of_ble_eq_true rfl⟩ ⟨Nat.le_of_ble_eq_true rfl, Nat.le_of_ble_eq_true rfl⟩ (Nat.le_of_ble_eq_true rfl) dX11_run_4 (fun v4 μ4 e9 => c_X6_read _ v4 μ4 e9) h (fun v4 μ4 h => ?_) rfl
  refine xx_istore_n (lv1 := [(1, .int (iI v4)), (0, .ref (ad 132))]) C 8 rfl (by decide) dX11_run_7 rfl rfl ?_
  refine xx_aload_n C 9 rfl 1 dX11_run_8 rfl rfl ?_
  refine xx_getr (fi := 6) C 12 rfl (by decide) (ceX_132 _ _ _) rfl in_X11 (by decide) rfl w_403 dX11_run_9 ?_
  refine xx_cVv (As := []) (st := []) (o := 140) C 15 rfl (by decide) (ceX_140 _ _ _) rfl rfl ca_X6_clearText cv_X6_clearText w_958 rfl ⟨Nat.le_of_ble_eq_true rfl, Nat.le_of_ble_eq_true rfl⟩ ⟨Nat.le_of_ble_eq_true rfl, Nat.le_of_ble_eq_true rfl⟩ (Nat.le_of_ble_eq_true rfl) dX11_run_12 (fun μ12 e9 => c_X6_clearText _ μ12 e9) h (fun μ12 h => ?_) rfl
  refine xx_iload_n C 16 rfl 0 dX11_run_15 rfl rfl ?_
  refine xx_bipush C 18 rfl dX11_run_16 (by decide) ?_
  refine xx_icmp_eq (tgt := 27) C 21 rfl dX11_run_18 (by decide) h (fun h => ?_) (fun h => ?_)
  · refine xx_aload_n C 28 rfl 1 dX11_run_27 rfl rfl ?_
    refine xx_getr (fi := 5) C 31 rfl (by decide) (ceX_132 _ _ _) rfl in_X11 (by decide) rfl w_402 dX11_run_28 ?_
    refine xx_cVv (As := []) (st := []) (o := 138) C 34 rfl (by decide) (ceX_138 _ _ _) rfl rfl ca_X3_keepBefore cv_X3_keepBefore w_426 rfl ⟨Nat.le_of_ble_eq_true rfl, Nat.le_of_ble_eq_true rfl⟩ ⟨Nat.le_of_ble_eq_true rfl, Nat.le_of_ble_eq_true rfl⟩ (Nat.le_of_ble_eq_true rfl) dX11_run_31 (fun μ31 e9 => c_X3_keepBefore _ μ31 e9) h (fun μ31 h => ?_) rfl
    refine xx_iconst C 35 rfl dX11_run_34 ?_
    refine xx_istore_n (lv1 := [(2, .int (iI 0)), (1, .int (iI v4)), (0, .ref (ad 132))]) C 36 rfl (by decide) dX11_run_35 rfl rfl ?_
    refine jn_r (fun J => ∀ (μ82 : mu_T), J μ82 = some (a, μr) → wx_ G X 151 ad (ceX G ad) μ82 0 0 82 [(0, .ref (ad 132))] []) h (fun μ82 h => ?_) (fun J82 K82 h => ?_)
    · refine xx_aload_n C 83 rfl 0 dX11_run_82 rfl rfl ?_
      refine xx_getr (fi := 5) C 86 rfl (by decide) (ceX_132 _ _ _) rfl in_X11 (by decide) rfl w_402 dX11_run_83 ?_
      refine xx_aload_n C 87 rfl 0 dX11_run_86 rfl rfl ?_
      refine xx_getr (fi := 6) C 90 rfl (by decide) (ceX_132 _ _ _) rfl in_X11 (by decide) rfl w_403 dX11_run_87 ?_
      refine xx_geti (fi := 5) (j := 5) C 93 rfl (by decide) (ceX_140 _ _ _) rfl in_X6 (by decide) rfl w_365 dX11_run_90 h (fun v90 h => ?_)
      refine xx_cVi (As := [.int (iI v90)]) (st := []) (o := 138) C 96 rfl (by decide) (ceX_138 _ _ _) rfl rfl ca_X3_settle cv_X3_settle w_462 rfl ⟨Nat.le_of_ble_eq_true rfl, Nat.le_of_ble_eq_true rfl⟩ ⟨Nat.le_of_ble_eq_true rfl, Nat.le_of_ble_eq_true rfl⟩ (Nat.le_of_ble_eq_true rfl) dX11_run_93 (fun v93 μ93 e9 => c_X3_settle _ _ v93 μ93 e9) h (fun v93 μ93 h => ?_) rfl
      exact xx_iret C E rfl ⟨Nat.le_of_ble_eq_true rfl, Nat.le_of_ble_eq_true rfl⟩ dX11_run_96 h
    · refine jn_r (fun J => ∀ (x2_58 : Int) (μ58 : mu_T), J x2_58 μ58 = some (a, μr) → wx_ G X 151 ad (ceX G ad) μ58 0 0 58 [(0, .ref (ad 132)), (2, .int (iI x2_58))] []) h (fun x2_58 μ58 h => ?_) (fun J58 K58 h => ?_)
      · refine xx_aload_n C 59 rfl 0 dX11_run_58 rfl rfl ?_
        refine xx_getr (fi := 5) C 62 rfl (by decide) (ceX_132 _ _ _) rfl in_X11 (by decide) rfl w_402 dX11_run_59 ?_
        refine xx_cVv (As := []) (st := []) (o := 138) C 65 rfl (by decide) (ceX_138 _ _ _) rfl rfl ca_X3_takeBack cv_X3_takeBack w_999 rfl ⟨Nat.le_of_ble_eq_true rfl, Nat.le_of_ble_eq_true rfl⟩ ⟨Nat.le_of_ble_eq_true rfl, Nat.le_of_ble_eq_true rfl⟩ (Nat.le_of_ble_eq_true rfl) dX11_run_62 (fun μ62 e9 => c_X3_takeBack _ μ62 e9) h (fun μ62 h => ?_) rfl
        refine xx_aload_n C 66 rfl 0 dX11_run_65 rfl rfl ?_
        refine xx_getr (fi := 1) C 69 rfl (by decide) (ceX_132 _ _ _) rfl in_X11 (by decide) rfl w_398 dX11_run_66 ?_
        refine xx_bipush C 71 rfl dX11_run_69 (by decide) ?_
        refine xx_iload_n C 72 rfl 1 dX11_run_71 rfl rfl ?_
        refine xx_cVi (As := [.int (iI 8), .int (iI x2_58)]) (st := []) (o := 133) C 75 rfl (by decide) (ceX_133 _ _ _) rfl rfl ca_X8_refuse cv_X8_refuse w_1003 rfl ⟨Nat.le_of_ble_eq_true rfl, Nat.le_of_ble_eq_true rfl⟩ ⟨Nat.le_of_ble_eq_true rfl, Nat.le_of_ble_eq_true rfl⟩ (Nat.le_of_ble_eq_true rfl) dX11_run_72 (fun v72 μ72 e9 => c_X8_refuse _ _ _ v72 μ72 e9) h (fun v72 μ72 h => ?_) rfl
        exact xx_iret C E rfl ⟨Nat.le_of_ble_eq_true rfl, Nat.le_of_ble_eq_true rfl⟩ dX11_run_75 h
      · have L36 : ∀ (fu36 : Nat) (x2_36 : Int) (μ36 : mu_T), f_X11_run_L36 J58 J82 fu36 x2_36 μ36 = some (a, μr) → wx_ G X 151 ad (ceX G ad) μ36 0 0 36 [(0, .ref (ad 132)), (2, .int (iI x2_36))] [] := by
          intro fu36
          induction fu36 with
          | zero => intro x2_36 μ36 h; exact nn_ h
          | succ fu36 K36 =>
            intro x2_36 μ36 h
            rw [f_X11_run_L36] at h
            generalize f_X11_run_L36 J58 J82 fu36 = R36 at K36 h
            refine xx_iload_n C 37 rfl 1 dX11_run_36 rfl rfl ?_
            refine xx_aload_n C 38 rfl 0 dX11_run_37 rfl rfl ?_
            refine xx_getr (fi := 6) C 41 rfl (by decide) (ceX_132 _ _ _) rfl in_X11 (by decide) rfl w_403 dX11_run_38 ?_
            refine xx_geti (fi := 5) (j := 5) C 44 rfl (by decide) (ceX_140 _ _ _) rfl in_X6 (by decide) rfl w_365 dX11_run_41 h (fun v41 h => ?_)
            refine xx_icmp_ge (tgt := 82) C 47 rfl dX11_run_44 (by decide) h (fun h => ?_) (fun h => ?_)
            · refine xx_sub [0] rfl ?_
              exact K82 μ36 h
            · refine xx_aload_n C 48 rfl 0 dX11_run_47 rfl rfl ?_
              refine xx_iload_n C 49 rfl 1 dX11_run_48 rfl rfl ?_
              refine xx_cVi (As := [.int (iI x2_36)]) (st := []) (o := 132) C 52 rfl (by decide) (ceX_132 _ _ _) rfl rfl ca_X11_carryOut cv_X11_carryOut w_982 rfl ⟨Nat.le_of_ble_eq_true rfl, Nat.le_of_ble_eq_true rfl⟩ ⟨Nat.le_of_ble_eq_true rfl, Nat.le_of_ble_eq_true rfl⟩ (Nat.le_of_ble_eq_true rfl) dX11_run_49 (fun v49 μ49 e9 => c_X11_carryOut _ _ v49 μ49 e9) h (fun v49 μ49 h => ?_) rfl
              refine xx_cSip (As := [.int (iI v49)]) (st := []) C 55 rfl  ca_X3_isRefusal cs_X3_isRefusal w_998 rfl ⟨Nat.le_of_ble_eq_true rfl, Nat.le_of_ble_eq_true rfl⟩ ⟨Nat.le_of_ble_eq_true rfl, Nat.le_of_ble_eq_true rfl⟩ (Nat.le_of_ble_eq_true rfl) dX11_run_52 (fun v52 e9 => c_X3_isRefusal _ _ v52 e9) h (fun v52 h => ?_) rfl
              refine xx_if_eq (tgt := 76) C 58 rfl dX11_run_55 (by decide) h (fun h => ?_) (fun h => ?_)
              · refine xx_iincn C 79 rfl 1 (by decide) dX11_run_76 rfl h (fun n76 h => ?_)
                refine xx_lv (lv1 := [(2, .int (iI n76)), (0, .ref (ad 132))]) rfl ?_
                refine xx_goto C 36 dX11_run_79 (by decide) ?_
                refine xx_sub [1, 0] rfl ?_
                exact K36 n76 μ49 h
              · exact K58 x2_36 μ49 h
        refine xx_sub [2, 0] rfl ?_
        exact L36 _ _ _ h
  · refine xx_sipush C 24 rfl dX11_run_21 (by decide) ?_
    refine xx_iload_n C 25 rfl 0 dX11_run_24 rfl rfl ?_
    refine xx_isub C 26 rfl dX11_run_25 ?_
    exact xx_iret C E rfl ⟨Nat.le_of_ble_eq_true rfl, Nat.le_of_ble_eq_true rfl⟩ dX11_run_26 h

