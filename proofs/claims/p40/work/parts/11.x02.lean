theorem dX2_threadsFrom_0 : decode cX2_threadsFrom 0 = .ok (.iconst 0, 1) := by decide +kernel
theorem dX2_threadsFrom_1 : decode cX2_threadsFrom 1 = .ok (.istore_n 2, 1) := by decide +kernel
theorem dX2_threadsFrom_2 : decode cX2_threadsFrom 2 = .ok (.iconst 0, 1) := by decide +kernel
theorem dX2_threadsFrom_3 : decode cX2_threadsFrom 3 = .ok (.istore_n 3, 1) := by decide +kernel
theorem dX2_threadsFrom_4 : decode cX2_threadsFrom 4 = .ok (.iload_n 3, 1) := by decide +kernel
theorem dX2_threadsFrom_5 : decode cX2_threadsFrom 5 = .ok (.iconst 4, 1) := by decide +kernel
theorem dX2_threadsFrom_6 : decode cX2_threadsFrom 6 = .ok (.if_icmp .ge 23, 3) := by decide +kernel
theorem dX2_threadsFrom_9 : decode cX2_threadsFrom 9 = .ok (.aload_n 0, 1) := by decide +kernel
theorem dX2_threadsFrom_10 : decode cX2_threadsFrom 10 = .ok (.iload_n 1, 1) := by decide +kernel
theorem dX2_threadsFrom_11 : decode cX2_threadsFrom 11 = .ok (.iload_n 3, 1) := by decide +kernel
theorem dX2_threadsFrom_12 : decode cX2_threadsFrom 12 = .ok (.invokevirtual 98, 3) := by decide +kernel
theorem dX2_threadsFrom_15 : decode cX2_threadsFrom 15 = .ok (.bipush (-15), 2) := by decide +kernel
theorem dX2_threadsFrom_17 : decode cX2_threadsFrom 17 = .ok (.if_icmp .eq 6, 3) := by decide +kernel
theorem dX2_threadsFrom_20 : decode cX2_threadsFrom 20 = .ok (.iinc 2 1, 3) := by decide +kernel
theorem dX2_threadsFrom_23 : decode cX2_threadsFrom 23 = .ok (.iinc 3 1, 3) := by decide +kernel
theorem dX2_threadsFrom_26 : decode cX2_threadsFrom 26 = .ok (.goto (-22), 3) := by decide +kernel
theorem dX2_threadsFrom_29 : decode cX2_threadsFrom 29 = .ok (.iload_n 2, 1) := by decide +kernel
theorem dX2_threadsFrom_30 : decode cX2_threadsFrom 30 = .ok (.ireturn, 1) := by decide +kernel
theorem dX2_holdersOf_0 : decode cX2_holdersOf 0 = .ok (.iconst 0, 1) := by decide +kernel
theorem dX2_holdersOf_1 : decode cX2_holdersOf 1 = .ok (.istore_n 2, 1) := by decide +kernel
theorem dX2_holdersOf_2 : decode cX2_holdersOf 2 = .ok (.iconst 0, 1) := by decide +kernel
theorem dX2_holdersOf_3 : decode cX2_holdersOf 3 = .ok (.istore_n 3, 1) := by decide +kernel
theorem dX2_holdersOf_4 : decode cX2_holdersOf 4 = .ok (.iload_n 3, 1) := by decide +kernel
theorem dX2_holdersOf_5 : decode cX2_holdersOf 5 = .ok (.aload_n 0, 1) := by decide +kernel
theorem dX2_holdersOf_6 : decode cX2_holdersOf 6 = .ok (.getfield 9, 3) := by decide +kernel
theorem dX2_holdersOf_9 : decode cX2_holdersOf 9 = .ok (.arraylength, 1) := by decide +kernel
theorem dX2_holdersOf_10 : decode cX2_holdersOf 10 = .ok (.if_icmp .ge 22, 3) := by decide +kernel
theorem dX2_holdersOf_13 : decode cX2_holdersOf 13 = .ok (.aload_n 0, 1) := by decide +kernel
theorem dX2_holdersOf_14 : decode cX2_holdersOf 14 = .ok (.getfield 9, 3) := by decide +kernel
theorem dX2_holdersOf_17 : decode cX2_holdersOf 17 = .ok (.iload_n 3, 1) := by decide +kernel
theorem dX2_holdersOf_18 : decode cX2_holdersOf 18 = .ok (.iaload, 1) := by decide +kernel
theorem dX2_holdersOf_19 : decode cX2_holdersOf 19 = .ok (.iload_n 1, 1) := by decide +kernel
theorem dX2_holdersOf_20 : decode cX2_holdersOf 20 = .ok (.if_icmp .ne 6, 3) := by decide +kernel
theorem dX2_holdersOf_23 : decode cX2_holdersOf 23 = .ok (.iinc 2 1, 3) := by decide +kernel
theorem dX2_holdersOf_26 : decode cX2_holdersOf 26 = .ok (.iinc 3 1, 3) := by decide +kernel
theorem dX2_holdersOf_29 : decode cX2_holdersOf 29 = .ok (.goto (-25), 3) := by decide +kernel
theorem dX2_holdersOf_32 : decode cX2_holdersOf 32 = .ok (.iconst 0, 1) := by decide +kernel
theorem dX2_holdersOf_33 : decode cX2_holdersOf 33 = .ok (.istore_n 3, 1) := by decide +kernel
theorem dX2_holdersOf_34 : decode cX2_holdersOf 34 = .ok (.iload_n 3, 1) := by decide +kernel
theorem dX2_holdersOf_35 : decode cX2_holdersOf 35 = .ok (.bipush 6, 2) := by decide +kernel
theorem dX2_holdersOf_37 : decode cX2_holdersOf 37 = .ok (.if_icmp .ge 22, 3) := by decide +kernel
theorem dX2_holdersOf_40 : decode cX2_holdersOf 40 = .ok (.aload_n 0, 1) := by decide +kernel
theorem dX2_holdersOf_41 : decode cX2_holdersOf 41 = .ok (.getfield 27, 3) := by decide +kernel
theorem dX2_holdersOf_44 : decode cX2_holdersOf 44 = .ok (.iload_n 3, 1) := by decide +kernel
theorem dX2_holdersOf_45 : decode cX2_holdersOf 45 = .ok (.iaload, 1) := by decide +kernel
theorem dX2_holdersOf_46 : decode cX2_holdersOf 46 = .ok (.iload_n 1, 1) := by decide +kernel
theorem dX2_holdersOf_47 : decode cX2_holdersOf 47 = .ok (.if_icmp .ne 6, 3) := by decide +kernel
theorem dX2_holdersOf_50 : decode cX2_holdersOf 50 = .ok (.iinc 2 1, 3) := by decide +kernel
theorem dX2_holdersOf_53 : decode cX2_holdersOf 53 = .ok (.iinc 3 1, 3) := by decide +kernel
theorem dX2_holdersOf_56 : decode cX2_holdersOf 56 = .ok (.goto (-22), 3) := by decide +kernel
theorem dX2_holdersOf_59 : decode cX2_holdersOf 59 = .ok (.iload_n 2, 1) := by decide +kernel
theorem dX2_holdersOf_60 : decode cX2_holdersOf 60 = .ok (.ireturn, 1) := by decide +kernel
theorem dX2_holdersOfAll_0 : decode cX2_holdersOfAll 0 = .ok (.iconst 0, 1) := by decide +kernel
theorem dX2_holdersOfAll_1 : decode cX2_holdersOfAll 1 = .ok (.istore_n 1, 1) := by decide +kernel
theorem dX2_holdersOfAll_2 : decode cX2_holdersOfAll 2 = .ok (.iconst 0, 1) := by decide +kernel
theorem dX2_holdersOfAll_3 : decode cX2_holdersOfAll 3 = .ok (.istore_n 2, 1) := by decide +kernel
theorem dX2_holdersOfAll_4 : decode cX2_holdersOfAll 4 = .ok (.iload_n 2, 1) := by decide +kernel
theorem dX2_holdersOfAll_5 : decode cX2_holdersOfAll 5 = .ok (.bipush 24, 2) := by decide +kernel
theorem dX2_holdersOfAll_7 : decode cX2_holdersOfAll 7 = .ok (.if_icmp .ge 25, 3) := by decide +kernel
theorem dX2_holdersOfAll_10 : decode cX2_holdersOfAll 10 = .ok (.aload_n 0, 1) := by decide +kernel
theorem dX2_holdersOfAll_11 : decode cX2_holdersOfAll 11 = .ok (.iload_n 2, 1) := by decide +kernel
theorem dX2_holdersOfAll_12 : decode cX2_holdersOfAll 12 = .ok (.invokevirtual 102, 3) := by decide +kernel
theorem dX2_holdersOfAll_15 : decode cX2_holdersOfAll 15 = .ok (.ifCond .eq 11, 3) := by decide +kernel
theorem dX2_holdersOfAll_18 : decode cX2_holdersOfAll 18 = .ok (.iload_n 1, 1) := by decide +kernel
theorem dX2_holdersOfAll_19 : decode cX2_holdersOfAll 19 = .ok (.aload_n 0, 1) := by decide +kernel
theorem dX2_holdersOfAll_20 : decode cX2_holdersOfAll 20 = .ok (.iload_n 2, 1) := by decide +kernel
theorem dX2_holdersOfAll_21 : decode cX2_holdersOfAll 21 = .ok (.invokevirtual 105, 3) := by decide +kernel
theorem dX2_holdersOfAll_24 : decode cX2_holdersOfAll 24 = .ok (.iadd, 1) := by decide +kernel
theorem dX2_holdersOfAll_25 : decode cX2_holdersOfAll 25 = .ok (.istore_n 1, 1) := by decide +kernel
theorem dX2_holdersOfAll_26 : decode cX2_holdersOfAll 26 = .ok (.iinc 2 1, 3) := by decide +kernel
theorem dX2_holdersOfAll_29 : decode cX2_holdersOfAll 29 = .ok (.goto (-25), 3) := by decide +kernel
theorem dX2_holdersOfAll_32 : decode cX2_holdersOfAll 32 = .ok (.iload_n 1, 1) := by decide +kernel
theorem dX2_holdersOfAll_33 : decode cX2_holdersOfAll 33 = .ok (.ireturn, 1) := by decide +kernel
theorem dX2_freedLate_0 : decode cX2_freedLate 0 = .ok (.iload_n 1, 1) := by decide +kernel
theorem dX2_freedLate_1 : decode cX2_freedLate 1 = .ok (.ifCond .lt 17, 3) := by decide +kernel
theorem dX2_freedLate_4 : decode cX2_freedLate 4 = .ok (.iload_n 1, 1) := by decide +kernel
theorem dX2_freedLate_5 : decode cX2_freedLate 5 = .ok (.bipush 12, 2) := by decide +kernel
theorem dX2_freedLate_7 : decode cX2_freedLate 7 = .ok (.if_icmp .ge 11, 3) := by decide +kernel
theorem dX2_freedLate_10 : decode cX2_freedLate 10 = .ok (.iload_n 1, 1) := by decide +kernel
theorem dX2_freedLate_11 : decode cX2_freedLate 11 = .ok (.aload_n 0, 1) := by decide +kernel
theorem dX2_freedLate_12 : decode cX2_freedLate 12 = .ok (.getfield 56, 3) := by decide +kernel
theorem dX2_freedLate_15 : decode cX2_freedLate 15 = .ok (.if_icmp .lt 6, 3) := by decide +kernel
theorem dX2_freedLate_18 : decode cX2_freedLate 18 = .ok (.bipush (-11), 2) := by decide +kernel
theorem dX2_freedLate_20 : decode cX2_freedLate 20 = .ok (.ireturn, 1) := by decide +kernel
theorem dX2_freedLate_21 : decode cX2_freedLate 21 = .ok (.aload_n 0, 1) := by decide +kernel
theorem dX2_freedLate_22 : decode cX2_freedLate 22 = .ok (.getfield 30, 3) := by decide +kernel
theorem dX2_freedLate_25 : decode cX2_freedLate 25 = .ok (.aload_n 0, 1) := by decide +kernel
theorem dX2_freedLate_26 : decode cX2_freedLate 26 = .ok (.getfield 56, 3) := by decide +kernel
theorem dX2_freedLate_29 : decode cX2_freedLate 29 = .ok (.iconst 1, 1) := by decide +kernel
theorem dX2_freedLate_30 : decode cX2_freedLate 30 = .ok (.isub, 1) := by decide +kernel
theorem dX2_freedLate_31 : decode cX2_freedLate 31 = .ok (.iload_n 1, 1) := by decide +kernel
theorem dX2_freedLate_32 : decode cX2_freedLate 32 = .ok (.isub, 1) := by decide +kernel
theorem dX2_freedLate_33 : decode cX2_freedLate 33 = .ok (.bipush 12, 2) := by decide +kernel
theorem dX2_freedLate_35 : decode cX2_freedLate 35 = .ok (.irem, 1) := by decide +kernel
theorem dX2_freedLate_36 : decode cX2_freedLate 36 = .ok (.iaload, 1) := by decide +kernel
theorem dX2_freedLate_37 : decode cX2_freedLate 37 = .ok (.ireturn, 1) := by decide +kernel
theorem dJ9_floorMod_7cf53_0 : decode cJ9_floorMod_7cf53 0 = .ok (.iload_n 0, 1) := by decide +kernel
theorem dJ9_floorMod_7cf53_1 : decode cJ9_floorMod_7cf53 1 = .ok (.iload_n 1, 1) := by decide +kernel
theorem dJ9_floorMod_7cf53_2 : decode cJ9_floorMod_7cf53 2 = .ok (.irem, 1) := by decide +kernel
theorem dJ9_floorMod_7cf53_3 : decode cJ9_floorMod_7cf53 3 = .ok (.istore_n 2, 1) := by decide +kernel
theorem dJ9_floorMod_7cf53_4 : decode cJ9_floorMod_7cf53 4 = .ok (.iload_n 0, 1) := by decide +kernel
theorem dJ9_floorMod_7cf53_5 : decode cJ9_floorMod_7cf53 5 = .ok (.iload_n 1, 1) := by decide +kernel
theorem dJ9_floorMod_7cf53_6 : decode cJ9_floorMod_7cf53 6 = .ok (.ixor, 1) := by decide +kernel
theorem dJ9_floorMod_7cf53_7 : decode cJ9_floorMod_7cf53 7 = .ok (.ifCond .ge 11, 3) := by decide +kernel
theorem dJ9_floorMod_7cf53_10 : decode cJ9_floorMod_7cf53 10 = .ok (.iload_n 2, 1) := by decide +kernel
theorem dJ9_floorMod_7cf53_11 : decode cJ9_floorMod_7cf53 11 = .ok (.ifCond .eq 7, 3) := by decide +kernel
theorem dJ9_floorMod_7cf53_14 : decode cJ9_floorMod_7cf53 14 = .ok (.iload_n 2, 1) := by decide +kernel
theorem dJ9_floorMod_7cf53_15 : decode cJ9_floorMod_7cf53 15 = .ok (.iload_n 1, 1) := by decide +kernel
theorem dJ9_floorMod_7cf53_16 : decode cJ9_floorMod_7cf53 16 = .ok (.iadd, 1) := by decide +kernel
theorem dJ9_floorMod_7cf53_17 : decode cJ9_floorMod_7cf53 17 = .ok (.ireturn, 1) := by decide +kernel
theorem dJ9_floorMod_7cf53_18 : decode cJ9_floorMod_7cf53 18 = .ok (.iload_n 2, 1) := by decide +kernel
theorem dJ9_floorMod_7cf53_19 : decode cJ9_floorMod_7cf53 19 = .ok (.ireturn, 1) := by decide +kernel
theorem dX2_free_0 : decode cX2_free 0 = .ok (.aload_n 0, 1) := by decide +kernel
theorem dX2_free_1 : decode cX2_free 1 = .ok (.iload_n 1, 1) := by decide +kernel
theorem dX2_free_2 : decode cX2_free 2 = .ok (.invokevirtual 102, 3) := by decide +kernel
theorem dX2_free_5 : decode cX2_free 5 = .ok (.ifCond .ne 4, 3) := by decide +kernel
theorem dX2_free_8 : decode cX2_free 8 = .ok (.return_, 1) := by decide +kernel
theorem dX2_free_9 : decode cX2_free 9 = .ok (.aload_n 0, 1) := by decide +kernel
theorem dX2_free_10 : decode cX2_free 10 = .ok (.getfield 21, 3) := by decide +kernel
theorem dX2_free_13 : decode cX2_free 13 = .ok (.iload_n 1, 1) := by decide +kernel
theorem dX2_free_14 : decode cX2_free 14 = .ok (.iconst (-1), 1) := by decide +kernel
theorem dX2_free_15 : decode cX2_free 15 = .ok (.iastore, 1) := by decide +kernel
theorem dX2_free_16 : decode cX2_free 16 = .ok (.aload_n 0, 1) := by decide +kernel
theorem dX2_free_17 : decode cX2_free 17 = .ok (.getfield 18, 3) := by decide +kernel
theorem dX2_free_20 : decode cX2_free 20 = .ok (.iload_n 1, 1) := by decide +kernel
theorem dX2_free_21 : decode cX2_free 21 = .ok (.iconst 0, 1) := by decide +kernel
theorem dX2_free_22 : decode cX2_free 22 = .ok (.iastore, 1) := by decide +kernel
theorem dX2_free_23 : decode cX2_free 23 = .ok (.aload_n 0, 1) := by decide +kernel
theorem dX2_free_24 : decode cX2_free 24 = .ok (.getfield 15, 3) := by decide +kernel
theorem dX2_free_27 : decode cX2_free 27 = .ok (.iload_n 1, 1) := by decide +kernel
theorem dX2_free_28 : decode cX2_free 28 = .ok (.bipush (-15), 2) := by decide +kernel
theorem dX2_free_30 : decode cX2_free 30 = .ok (.iastore, 1) := by decide +kernel
theorem dX2_free_31 : decode cX2_free 31 = .ok (.iconst 0, 1) := by decide +kernel
theorem dX2_free_32 : decode cX2_free 32 = .ok (.istore_n 2, 1) := by decide +kernel
theorem dX2_free_33 : decode cX2_free 33 = .ok (.iload_n 2, 1) := by decide +kernel
theorem dX2_free_34 : decode cX2_free 34 = .ok (.iconst 4, 1) := by decide +kernel
theorem dX2_free_35 : decode cX2_free 35 = .ok (.if_icmp .ge 21, 3) := by decide +kernel
theorem dX2_free_38 : decode cX2_free 38 = .ok (.aload_n 0, 1) := by decide +kernel
theorem dX2_free_39 : decode cX2_free 39 = .ok (.getfield 9, 3) := by decide +kernel
theorem dX2_free_42 : decode cX2_free 42 = .ok (.iload_n 1, 1) := by decide +kernel
theorem dX2_free_43 : decode cX2_free 43 = .ok (.iconst 4, 1) := by decide +kernel
theorem dX2_free_44 : decode cX2_free 44 = .ok (.imul, 1) := by decide +kernel
theorem dX2_free_45 : decode cX2_free 45 = .ok (.iload_n 2, 1) := by decide +kernel
theorem dX2_free_46 : decode cX2_free 46 = .ok (.iadd, 1) := by decide +kernel
theorem dX2_free_47 : decode cX2_free 47 = .ok (.bipush (-15), 2) := by decide +kernel
theorem dX2_free_49 : decode cX2_free 49 = .ok (.iastore, 1) := by decide +kernel
theorem dX2_free_50 : decode cX2_free 50 = .ok (.iinc 2 1, 3) := by decide +kernel
theorem dX2_free_53 : decode cX2_free 53 = .ok (.goto (-20), 3) := by decide +kernel
theorem dX2_free_56 : decode cX2_free 56 = .ok (.iconst 0, 1) := by decide +kernel
theorem dX2_free_57 : decode cX2_free 57 = .ok (.istore_n 2, 1) := by decide +kernel
theorem dX2_free_58 : decode cX2_free 58 = .ok (.iload_n 2, 1) := by decide +kernel
theorem dX2_free_59 : decode cX2_free 59 = .ok (.aload_n 0, 1) := by decide +kernel
theorem dX2_free_60 : decode cX2_free 60 = .ok (.getfield 9, 3) := by decide +kernel
theorem dX2_free_63 : decode cX2_free 63 = .ok (.arraylength, 1) := by decide +kernel
theorem dX2_free_64 : decode cX2_free 64 = .ok (.if_icmp .ge 27, 3) := by decide +kernel
theorem dX2_free_67 : decode cX2_free 67 = .ok (.aload_n 0, 1) := by decide +kernel
theorem dX2_free_68 : decode cX2_free 68 = .ok (.getfield 9, 3) := by decide +kernel
theorem dX2_free_71 : decode cX2_free 71 = .ok (.iload_n 2, 1) := by decide +kernel
theorem dX2_free_72 : decode cX2_free 72 = .ok (.iaload, 1) := by decide +kernel
theorem dX2_free_73 : decode cX2_free 73 = .ok (.iload_n 1, 1) := by decide +kernel
theorem dX2_free_74 : decode cX2_free 74 = .ok (.if_icmp .ne 11, 3) := by decide +kernel
theorem dX2_free_77 : decode cX2_free 77 = .ok (.aload_n 0, 1) := by decide +kernel
theorem dX2_free_78 : decode cX2_free 78 = .ok (.getfield 9, 3) := by decide +kernel
theorem dX2_free_81 : decode cX2_free 81 = .ok (.iload_n 2, 1) := by decide +kernel
theorem dX2_free_82 : decode cX2_free 82 = .ok (.bipush (-15), 2) := by decide +kernel
theorem dX2_free_84 : decode cX2_free 84 = .ok (.iastore, 1) := by decide +kernel
theorem dX2_free_85 : decode cX2_free 85 = .ok (.iinc 2 1, 3) := by decide +kernel
theorem dX2_free_88 : decode cX2_free 88 = .ok (.goto (-30), 3) := by decide +kernel
theorem dX2_free_91 : decode cX2_free 91 = .ok (.aload_n 0, 1) := by decide +kernel
theorem dX2_free_92 : decode cX2_free 92 = .ok (.getfield 30, 3) := by decide +kernel
theorem dX2_free_95 : decode cX2_free 95 = .ok (.aload_n 0, 1) := by decide +kernel
theorem dX2_free_96 : decode cX2_free 96 = .ok (.getfield 56, 3) := by decide +kernel
theorem dX2_free_99 : decode cX2_free 99 = .ok (.bipush 12, 2) := by decide +kernel
theorem dX2_free_101 : decode cX2_free 101 = .ok (.invokestatic 115, 3) := by decide +kernel
theorem dX2_free_104 : decode cX2_free 104 = .ok (.iload_n 1, 1) := by decide +kernel
theorem dX2_free_105 : decode cX2_free 105 = .ok (.iastore, 1) := by decide +kernel
theorem dX2_free_106 : decode cX2_free 106 = .ok (.aload_n 0, 1) := by decide +kernel
theorem dX2_free_107 : decode cX2_free 107 = .ok (.dup, 1) := by decide +kernel
theorem dX2_free_108 : decode cX2_free 108 = .ok (.getfield 56, 3) := by decide +kernel
theorem dX2_free_111 : decode cX2_free 111 = .ok (.iconst 1, 1) := by decide +kernel
theorem dX2_free_112 : decode cX2_free 112 = .ok (.iadd, 1) := by decide +kernel
theorem dX2_free_113 : decode cX2_free 113 = .ok (.putfield 56, 3) := by decide +kernel
theorem dX2_free_116 : decode cX2_free 116 = .ok (.return_, 1) := by decide +kernel
theorem dX2_areUrns_0 : decode cX2_areUrns 0 = .ok (.aload_n 1, 1) := by decide +kernel
theorem dX2_areUrns_1 : decode cX2_areUrns 1 = .ok (.astore_n 2, 1) := by decide +kernel
theorem dX2_areUrns_2 : decode cX2_areUrns 2 = .ok (.aload_n 2, 1) := by decide +kernel
theorem dX2_areUrns_3 : decode cX2_areUrns 3 = .ok (.arraylength, 1) := by decide +kernel
theorem dX2_areUrns_4 : decode cX2_areUrns 4 = .ok (.istore_n 3, 1) := by decide +kernel
theorem dX2_areUrns_5 : decode cX2_areUrns 5 = .ok (.iconst 0, 1) := by decide +kernel
theorem dX2_areUrns_6 : decode cX2_areUrns 6 = .ok (.istore 4, 2) := by decide +kernel
theorem dX2_areUrns_8 : decode cX2_areUrns 8 = .ok (.iload 4, 2) := by decide +kernel
theorem dX2_areUrns_10 : decode cX2_areUrns 10 = .ok (.iload_n 3, 1) := by decide +kernel
theorem dX2_areUrns_11 : decode cX2_areUrns 11 = .ok (.if_icmp .ge 33, 3) := by decide +kernel
theorem dX2_areUrns_14 : decode cX2_areUrns 14 = .ok (.aload_n 2, 1) := by decide +kernel
theorem dX2_areUrns_15 : decode cX2_areUrns 15 = .ok (.iload 4, 2) := by decide +kernel
theorem dX2_areUrns_17 : decode cX2_areUrns 17 = .ok (.iaload, 1) := by decide +kernel
theorem dX2_areUrns_18 : decode cX2_areUrns 18 = .ok (.istore 5, 2) := by decide +kernel
theorem dX2_areUrns_20 : decode cX2_areUrns 20 = .ok (.iload 5, 2) := by decide +kernel
theorem dX2_areUrns_22 : decode cX2_areUrns 22 = .ok (.bipush (-15), 2) := by decide +kernel
theorem dX2_areUrns_24 : decode cX2_areUrns 24 = .ok (.if_icmp .eq 14, 3) := by decide +kernel
theorem dX2_areUrns_27 : decode cX2_areUrns 27 = .ok (.aload_n 0, 1) := by decide +kernel
theorem dX2_areUrns_28 : decode cX2_areUrns 28 = .ok (.iload 5, 2) := by decide +kernel
theorem dX2_areUrns_30 : decode cX2_areUrns 30 = .ok (.invokevirtual 102, 3) := by decide +kernel
theorem dX2_areUrns_33 : decode cX2_areUrns 33 = .ok (.ifCond .ne 5, 3) := by decide +kernel
theorem dX2_areUrns_36 : decode cX2_areUrns 36 = .ok (.iconst 0, 1) := by decide +kernel
theorem dX2_areUrns_37 : decode cX2_areUrns 37 = .ok (.ireturn, 1) := by decide +kernel
theorem dX2_areUrns_38 : decode cX2_areUrns 38 = .ok (.iinc 4 1, 3) := by decide +kernel
theorem dX2_areUrns_41 : decode cX2_areUrns 41 = .ok (.goto (-33), 3) := by decide +kernel
theorem dX2_areUrns_44 : decode cX2_areUrns 44 = .ok (.iconst 1, 1) := by decide +kernel
theorem dX2_areUrns_45 : decode cX2_areUrns 45 = .ok (.ireturn, 1) := by decide +kernel
theorem dX2_hasBlackToWhite_0 : decode cX2_hasBlackToWhite 0 = .ok (.iconst 0, 1) := by decide +kernel
theorem dX2_hasBlackToWhite_1 : decode cX2_hasBlackToWhite 1 = .ok (.istore_n 1, 1) := by decide +kernel
theorem dX2_hasBlackToWhite_2 : decode cX2_hasBlackToWhite 2 = .ok (.iload_n 1, 1) := by decide +kernel
theorem dX2_hasBlackToWhite_3 : decode cX2_hasBlackToWhite 3 = .ok (.aload_n 0, 1) := by decide +kernel
theorem dX2_hasBlackToWhite_4 : decode cX2_hasBlackToWhite 4 = .ok (.getfield 9, 3) := by decide +kernel
theorem dX2_hasBlackToWhite_7 : decode cX2_hasBlackToWhite 7 = .ok (.arraylength, 1) := by decide +kernel
theorem dX2_hasBlackToWhite_8 : decode cX2_hasBlackToWhite 8 = .ok (.if_icmp .ge 36, 3) := by decide +kernel
theorem dX2_hasBlackToWhite_11 : decode cX2_hasBlackToWhite 11 = .ok (.aload_n 0, 1) := by decide +kernel
theorem dX2_hasBlackToWhite_12 : decode cX2_hasBlackToWhite 12 = .ok (.getfield 21, 3) := by decide +kernel
theorem dX2_hasBlackToWhite_15 : decode cX2_hasBlackToWhite 15 = .ok (.iload_n 1, 1) := by decide +kernel
theorem dX2_hasBlackToWhite_16 : decode cX2_hasBlackToWhite 16 = .ok (.iconst 4, 1) := by decide +kernel
theorem dX2_hasBlackToWhite_17 : decode cX2_hasBlackToWhite 17 = .ok (.idiv, 1) := by decide +kernel
theorem dX2_hasBlackToWhite_18 : decode cX2_hasBlackToWhite 18 = .ok (.iaload, 1) := by decide +kernel
theorem dX2_hasBlackToWhite_19 : decode cX2_hasBlackToWhite 19 = .ok (.iconst 2, 1) := by decide +kernel
theorem dX2_hasBlackToWhite_20 : decode cX2_hasBlackToWhite 20 = .ok (.if_icmp .ne 18, 3) := by decide +kernel
theorem dX2_hasBlackToWhite_23 : decode cX2_hasBlackToWhite 23 = .ok (.aload_n 0, 1) := by decide +kernel
theorem dX2_hasBlackToWhite_24 : decode cX2_hasBlackToWhite 24 = .ok (.aload_n 0, 1) := by decide +kernel
theorem dX2_hasBlackToWhite_25 : decode cX2_hasBlackToWhite 25 = .ok (.getfield 9, 3) := by decide +kernel
theorem dX2_hasBlackToWhite_28 : decode cX2_hasBlackToWhite 28 = .ok (.iload_n 1, 1) := by decide +kernel
theorem dX2_hasBlackToWhite_29 : decode cX2_hasBlackToWhite 29 = .ok (.iaload, 1) := by decide +kernel
theorem dX2_hasBlackToWhite_30 : decode cX2_hasBlackToWhite 30 = .ok (.invokevirtual 84, 3) := by decide +kernel
theorem dX2_hasBlackToWhite_33 : decode cX2_hasBlackToWhite 33 = .ok (.ifCond .eq 5, 3) := by decide +kernel
theorem dX2_hasBlackToWhite_36 : decode cX2_hasBlackToWhite 36 = .ok (.iconst 1, 1) := by decide +kernel
theorem dX2_hasBlackToWhite_37 : decode cX2_hasBlackToWhite 37 = .ok (.ireturn, 1) := by decide +kernel
theorem dX2_hasBlackToWhite_38 : decode cX2_hasBlackToWhite 38 = .ok (.iinc 1 1, 3) := by decide +kernel
theorem dX2_hasBlackToWhite_41 : decode cX2_hasBlackToWhite 41 = .ok (.goto (-39), 3) := by decide +kernel
theorem dX2_hasBlackToWhite_44 : decode cX2_hasBlackToWhite 44 = .ok (.iconst 0, 1) := by decide +kernel
theorem dX2_hasBlackToWhite_45 : decode cX2_hasBlackToWhite 45 = .ok (.ireturn, 1) := by decide +kernel
theorem dX2_isSound_0 : decode cX2_isSound 0 = .ok (.aload_n 0, 1) := by decide +kernel
theorem dX2_isSound_1 : decode cX2_isSound 1 = .ok (.getfield 53, 3) := by decide +kernel
theorem dX2_isSound_4 : decode cX2_isSound 4 = .ok (.aload_n 0, 1) := by decide +kernel
theorem dX2_isSound_5 : decode cX2_isSound 5 = .ok (.invokevirtual 120, 3) := by decide +kernel
theorem dX2_isSound_8 : decode cX2_isSound 8 = .ok (.aload_n 0, 1) := by decide +kernel
theorem dX2_isSound_9 : decode cX2_isSound 9 = .ok (.getfield 56, 3) := by decide +kernel
theorem dX2_isSound_12 : decode cX2_isSound 12 = .ok (.iadd, 1) := by decide +kernel
theorem dX2_isSound_13 : decode cX2_isSound 13 = .ok (.if_icmp .ne 55, 3) := by decide +kernel
theorem dX2_isSound_16 : decode cX2_isSound 16 = .ok (.aload_n 0, 1) := by decide +kernel
theorem dX2_isSound_17 : decode cX2_isSound 17 = .ok (.aload_n 0, 1) := by decide +kernel
theorem dX2_isSound_18 : decode cX2_isSound 18 = .ok (.getfield 9, 3) := by decide +kernel
theorem dX2_isSound_21 : decode cX2_isSound 21 = .ok (.invokevirtual 124, 3) := by decide +kernel
theorem dX2_isSound_24 : decode cX2_isSound 24 = .ok (.ifCond .eq 44, 3) := by decide +kernel
theorem dX2_isSound_27 : decode cX2_isSound 27 = .ok (.aload_n 0, 1) := by decide +kernel
theorem dX2_isSound_28 : decode cX2_isSound 28 = .ok (.aload_n 0, 1) := by decide +kernel
theorem dX2_isSound_29 : decode cX2_isSound 29 = .ok (.getfield 15, 3) := by decide +kernel
theorem dX2_isSound_32 : decode cX2_isSound 32 = .ok (.invokevirtual 124, 3) := by decide +kernel
theorem dX2_isSound_35 : decode cX2_isSound 35 = .ok (.ifCond .eq 33, 3) := by decide +kernel
theorem dX2_isSound_38 : decode cX2_isSound 38 = .ok (.aload_n 0, 1) := by decide +kernel
theorem dX2_isSound_39 : decode cX2_isSound 39 = .ok (.aload_n 0, 1) := by decide +kernel
theorem dX2_isSound_40 : decode cX2_isSound 40 = .ok (.getfield 27, 3) := by decide +kernel
theorem dX2_isSound_43 : decode cX2_isSound 43 = .ok (.invokevirtual 124, 3) := by decide +kernel
theorem dX2_isSound_46 : decode cX2_isSound 46 = .ok (.ifCond .eq 22, 3) := by decide +kernel
theorem dX2_isSound_49 : decode cX2_isSound 49 = .ok (.aload_n 0, 1) := by decide +kernel
theorem dX2_isSound_50 : decode cX2_isSound 50 = .ok (.getfield 43, 3) := by decide +kernel
theorem dX2_isSound_53 : decode cX2_isSound 53 = .ok (.iconst 1, 1) := by decide +kernel
theorem dX2_isSound_54 : decode cX2_isSound 54 = .ok (.if_icmp .ne 10, 3) := by decide +kernel
theorem dX2_isSound_57 : decode cX2_isSound 57 = .ok (.aload_n 0, 1) := by decide +kernel
theorem dX2_isSound_58 : decode cX2_isSound 58 = .ok (.invokevirtual 128, 3) := by decide +kernel
theorem dX2_isSound_61 : decode cX2_isSound 61 = .ok (.ifCond .ne 7, 3) := by decide +kernel
theorem dX2_isSound_64 : decode cX2_isSound 64 = .ok (.iconst 1, 1) := by decide +kernel
theorem dX2_isSound_65 : decode cX2_isSound 65 = .ok (.goto 4, 3) := by decide +kernel
theorem dX2_isSound_68 : decode cX2_isSound 68 = .ok (.iconst 0, 1) := by decide +kernel
theorem dX2_isSound_69 : decode cX2_isSound 69 = .ok (.ireturn, 1) := by decide +kernel
theorem dX3_isRefusal_0 : decode cX3_isRefusal 0 = .ok (.iload_n 0, 1) := by decide +kernel
theorem dX3_isRefusal_1 : decode cX3_isRefusal 1 = .ok (.bipush (-11), 2) := by decide +kernel
theorem dX3_isRefusal_3 : decode cX3_isRefusal 3 = .ok (.if_icmp .eq 15, 3) := by decide +kernel
theorem dX3_isRefusal_6 : decode cX3_isRefusal 6 = .ok (.iload_n 0, 1) := by decide +kernel
theorem dX3_isRefusal_7 : decode cX3_isRefusal 7 = .ok (.bipush (-12), 2) := by decide +kernel
theorem dX3_isRefusal_9 : decode cX3_isRefusal 9 = .ok (.if_icmp .eq 9, 3) := by decide +kernel
theorem dX3_isRefusal_12 : decode cX3_isRefusal 12 = .ok (.iload_n 0, 1) := by decide +kernel
theorem dX3_isRefusal_13 : decode cX3_isRefusal 13 = .ok (.bipush (-14), 2) := by decide +kernel
theorem dX3_isRefusal_15 : decode cX3_isRefusal 15 = .ok (.if_icmp .ne 7, 3) := by decide +kernel
theorem dX3_isRefusal_18 : decode cX3_isRefusal 18 = .ok (.iconst 1, 1) := by decide +kernel
theorem dX3_isRefusal_19 : decode cX3_isRefusal 19 = .ok (.goto 4, 3) := by decide +kernel
theorem dX3_isRefusal_22 : decode cX3_isRefusal 22 = .ok (.iconst 0, 1) := by decide +kernel
theorem dX3_isRefusal_23 : decode cX3_isRefusal 23 = .ok (.ireturn, 1) := by decide +kernel
theorem dX3_copyAtNext_0 : decode cX3_copyAtNext 0 = .ok (.aload_n 0, 1) := by decide +kernel
theorem dX3_copyAtNext_1 : decode cX3_copyAtNext 1 = .ok (.getfield 26, 3) := by decide +kernel
theorem dX3_copyAtNext_4 : decode cX3_copyAtNext 4 = .ok (.ifCond .lt 27, 3) := by decide +kernel
theorem dX3_copyAtNext_7 : decode cX3_copyAtNext 7 = .ok (.aload_n 0, 1) := by decide +kernel
theorem dX3_copyAtNext_8 : decode cX3_copyAtNext 8 = .ok (.getfield 26, 3) := by decide +kernel
theorem dX3_copyAtNext_11 : decode cX3_copyAtNext 11 = .ok (.aload_n 0, 1) := by decide +kernel
theorem dX3_copyAtNext_12 : decode cX3_copyAtNext 12 = .ok (.getfield 11, 3) := by decide +kernel
theorem dX3_copyAtNext_15 : decode cX3_copyAtNext 15 = .ok (.arraylength, 1) := by decide +kernel
theorem dX3_copyAtNext_16 : decode cX3_copyAtNext 16 = .ok (.if_icmp .ge 15, 3) := by decide +kernel
theorem dX3_copyAtNext_19 : decode cX3_copyAtNext 19 = .ok (.aload_n 0, 1) := by decide +kernel
theorem dX3_copyAtNext_20 : decode cX3_copyAtNext 20 = .ok (.getfield 11, 3) := by decide +kernel
theorem dX3_copyAtNext_23 : decode cX3_copyAtNext 23 = .ok (.aload_n 0, 1) := by decide +kernel
theorem dX3_copyAtNext_24 : decode cX3_copyAtNext 24 = .ok (.getfield 26, 3) := by decide +kernel
theorem dX3_copyAtNext_27 : decode cX3_copyAtNext 27 = .ok (.aaload, 1) := by decide +kernel
theorem dX3_copyAtNext_28 : decode cX3_copyAtNext 28 = .ok (.goto 4, 3) := by decide +kernel
theorem dX3_copyAtNext_31 : decode cX3_copyAtNext 31 = .ok (.aconst_null, 1) := by decide +kernel
theorem dX3_copyAtNext_32 : decode cX3_copyAtNext 32 = .ok (.areturn, 1) := by decide +kernel
theorem dX9_copyFrom_0 : decode cX9_copyFrom 0 = .ok (.aload_n 1, 1) := by decide +kernel
theorem dX9_copyFrom_1 : decode cX9_copyFrom 1 = .ok (.getfield 9, 3) := by decide +kernel
theorem dX9_copyFrom_4 : decode cX9_copyFrom 4 = .ok (.iconst 0, 1) := by decide +kernel
theorem dX9_copyFrom_5 : decode cX9_copyFrom 5 = .ok (.aload_n 0, 1) := by decide +kernel
theorem dX9_copyFrom_6 : decode cX9_copyFrom 6 = .ok (.getfield 9, 3) := by decide +kernel
theorem dX9_copyFrom_9 : decode cX9_copyFrom 9 = .ok (.iconst 0, 1) := by decide +kernel
theorem dX9_copyFrom_10 : decode cX9_copyFrom 10 = .ok (.bipush 24, 2) := by decide +kernel
theorem dX9_copyFrom_12 : decode cX9_copyFrom 12 = .ok (.invokestatic 19, 3) := by decide +kernel
theorem dX9_copyFrom_15 : decode cX9_copyFrom 15 = .ok (.aload_n 0, 1) := by decide +kernel
theorem dX9_copyFrom_16 : decode cX9_copyFrom 16 = .ok (.aload_n 1, 1) := by decide +kernel
theorem dX9_copyFrom_17 : decode cX9_copyFrom 17 = .ok (.getfield 15, 3) := by decide +kernel
theorem dX9_copyFrom_20 : decode cX9_copyFrom 20 = .ok (.putfield 15, 3) := by decide +kernel
theorem dX9_copyFrom_23 : decode cX9_copyFrom 23 = .ok (.return_, 1) := by decide +kernel
theorem dX2_copyFrom_0 : decode cX2_copyFrom 0 = .ok (.aload_n 1, 1) := by decide +kernel
theorem dX2_copyFrom_1 : decode cX2_copyFrom 1 = .ok (.getfield 9, 3) := by decide +kernel
theorem dX2_copyFrom_4 : decode cX2_copyFrom 4 = .ok (.iconst 0, 1) := by decide +kernel
theorem dX2_copyFrom_5 : decode cX2_copyFrom 5 = .ok (.aload_n 0, 1) := by decide +kernel
theorem dX2_copyFrom_6 : decode cX2_copyFrom 6 = .ok (.getfield 9, 3) := by decide +kernel
theorem dX2_copyFrom_9 : decode cX2_copyFrom 9 = .ok (.iconst 0, 1) := by decide +kernel
theorem dX2_copyFrom_10 : decode cX2_copyFrom 10 = .ok (.bipush 96, 2) := by decide +kernel
theorem dX2_copyFrom_12 : decode cX2_copyFrom 12 = .ok (.invokestatic 74, 3) := by decide +kernel
theorem dX2_copyFrom_15 : decode cX2_copyFrom 15 = .ok (.aload_n 1, 1) := by decide +kernel
theorem dX2_copyFrom_16 : decode cX2_copyFrom 16 = .ok (.getfield 15, 3) := by decide +kernel
theorem dX2_copyFrom_19 : decode cX2_copyFrom 19 = .ok (.iconst 0, 1) := by decide +kernel
theorem dX2_copyFrom_20 : decode cX2_copyFrom 20 = .ok (.aload_n 0, 1) := by decide +kernel
theorem dX2_copyFrom_21 : decode cX2_copyFrom 21 = .ok (.getfield 15, 3) := by decide +kernel
theorem dX2_copyFrom_24 : decode cX2_copyFrom 24 = .ok (.iconst 0, 1) := by decide +kernel
theorem dX2_copyFrom_25 : decode cX2_copyFrom 25 = .ok (.bipush 24, 2) := by decide +kernel
theorem dX2_copyFrom_27 : decode cX2_copyFrom 27 = .ok (.invokestatic 74, 3) := by decide +kernel
theorem dX2_copyFrom_30 : decode cX2_copyFrom 30 = .ok (.aload_n 1, 1) := by decide +kernel
theorem dX2_copyFrom_31 : decode cX2_copyFrom 31 = .ok (.getfield 18, 3) := by decide +kernel
theorem dX2_copyFrom_34 : decode cX2_copyFrom 34 = .ok (.iconst 0, 1) := by decide +kernel
theorem dX2_copyFrom_35 : decode cX2_copyFrom 35 = .ok (.aload_n 0, 1) := by decide +kernel
theorem dX2_copyFrom_36 : decode cX2_copyFrom 36 = .ok (.getfield 18, 3) := by decide +kernel
theorem dX2_copyFrom_39 : decode cX2_copyFrom 39 = .ok (.iconst 0, 1) := by decide +kernel
theorem dX2_copyFrom_40 : decode cX2_copyFrom 40 = .ok (.bipush 24, 2) := by decide +kernel
theorem dX2_copyFrom_42 : decode cX2_copyFrom 42 = .ok (.invokestatic 74, 3) := by decide +kernel
theorem dX2_copyFrom_45 : decode cX2_copyFrom 45 = .ok (.aload_n 1, 1) := by decide +kernel
theorem dX2_copyFrom_46 : decode cX2_copyFrom 46 = .ok (.getfield 21, 3) := by decide +kernel
theorem dX2_copyFrom_49 : decode cX2_copyFrom 49 = .ok (.iconst 0, 1) := by decide +kernel
theorem dX2_copyFrom_50 : decode cX2_copyFrom 50 = .ok (.aload_n 0, 1) := by decide +kernel
theorem dX2_copyFrom_51 : decode cX2_copyFrom 51 = .ok (.getfield 21, 3) := by decide +kernel
theorem dX2_copyFrom_54 : decode cX2_copyFrom 54 = .ok (.iconst 0, 1) := by decide +kernel
theorem dX2_copyFrom_55 : decode cX2_copyFrom 55 = .ok (.bipush 24, 2) := by decide +kernel
theorem dX2_copyFrom_57 : decode cX2_copyFrom 57 = .ok (.invokestatic 74, 3) := by decide +kernel
theorem dX2_copyFrom_60 : decode cX2_copyFrom 60 = .ok (.aload_n 1, 1) := by decide +kernel
theorem dX2_copyFrom_61 : decode cX2_copyFrom 61 = .ok (.getfield 24, 3) := by decide +kernel
theorem dX2_copyFrom_64 : decode cX2_copyFrom 64 = .ok (.iconst 0, 1) := by decide +kernel
theorem dX2_copyFrom_65 : decode cX2_copyFrom 65 = .ok (.aload_n 0, 1) := by decide +kernel
theorem dX2_copyFrom_66 : decode cX2_copyFrom 66 = .ok (.getfield 24, 3) := by decide +kernel
theorem dX2_copyFrom_69 : decode cX2_copyFrom 69 = .ok (.iconst 0, 1) := by decide +kernel
theorem dX2_copyFrom_70 : decode cX2_copyFrom 70 = .ok (.bipush 24, 2) := by decide +kernel
theorem dX2_copyFrom_72 : decode cX2_copyFrom 72 = .ok (.invokestatic 74, 3) := by decide +kernel
theorem dX2_copyFrom_75 : decode cX2_copyFrom 75 = .ok (.aload_n 1, 1) := by decide +kernel
theorem dX2_copyFrom_76 : decode cX2_copyFrom 76 = .ok (.getfield 27, 3) := by decide +kernel
theorem dX2_copyFrom_79 : decode cX2_copyFrom 79 = .ok (.iconst 0, 1) := by decide +kernel
theorem dX2_copyFrom_80 : decode cX2_copyFrom 80 = .ok (.aload_n 0, 1) := by decide +kernel
theorem dX2_copyFrom_81 : decode cX2_copyFrom 81 = .ok (.getfield 27, 3) := by decide +kernel
theorem dX2_copyFrom_84 : decode cX2_copyFrom 84 = .ok (.iconst 0, 1) := by decide +kernel
theorem dX2_copyFrom_85 : decode cX2_copyFrom 85 = .ok (.bipush 6, 2) := by decide +kernel
theorem dX2_copyFrom_87 : decode cX2_copyFrom 87 = .ok (.invokestatic 74, 3) := by decide +kernel
theorem dX2_copyFrom_90 : decode cX2_copyFrom 90 = .ok (.aload_n 1, 1) := by decide +kernel
theorem dX2_copyFrom_91 : decode cX2_copyFrom 91 = .ok (.getfield 30, 3) := by decide +kernel
theorem dX2_copyFrom_94 : decode cX2_copyFrom 94 = .ok (.iconst 0, 1) := by decide +kernel
theorem dX2_copyFrom_95 : decode cX2_copyFrom 95 = .ok (.aload_n 0, 1) := by decide +kernel
theorem dX2_copyFrom_96 : decode cX2_copyFrom 96 = .ok (.getfield 30, 3) := by decide +kernel
theorem dX2_copyFrom_99 : decode cX2_copyFrom 99 = .ok (.iconst 0, 1) := by decide +kernel
theorem dX2_copyFrom_100 : decode cX2_copyFrom 100 = .ok (.bipush 12, 2) := by decide +kernel
theorem dX2_copyFrom_102 : decode cX2_copyFrom 102 = .ok (.invokestatic 74, 3) := by decide +kernel
theorem dX2_copyFrom_105 : decode cX2_copyFrom 105 = .ok (.aload_n 0, 1) := by decide +kernel
theorem dX2_copyFrom_106 : decode cX2_copyFrom 106 = .ok (.getfield 36, 3) := by decide +kernel
theorem dX2_copyFrom_109 : decode cX2_copyFrom 109 = .ok (.aload_n 1, 1) := by decide +kernel
theorem dX2_copyFrom_110 : decode cX2_copyFrom 110 = .ok (.getfield 36, 3) := by decide +kernel
theorem dX2_copyFrom_113 : decode cX2_copyFrom 113 = .ok (.invokevirtual 80, 3) := by decide +kernel
theorem dX2_copyFrom_116 : decode cX2_copyFrom 116 = .ok (.aload_n 0, 1) := by decide +kernel
theorem dX2_copyFrom_117 : decode cX2_copyFrom 117 = .ok (.getfield 40, 3) := by decide +kernel
theorem dX2_copyFrom_120 : decode cX2_copyFrom 120 = .ok (.aload_n 1, 1) := by decide +kernel
theorem dX2_copyFrom_121 : decode cX2_copyFrom 121 = .ok (.getfield 40, 3) := by decide +kernel
theorem dX2_copyFrom_124 : decode cX2_copyFrom 124 = .ok (.invokevirtual 80, 3) := by decide +kernel
theorem dX2_copyFrom_127 : decode cX2_copyFrom 127 = .ok (.aload_n 0, 1) := by decide +kernel
theorem dX2_copyFrom_128 : decode cX2_copyFrom 128 = .ok (.aload_n 1, 1) := by decide +kernel
theorem dX2_copyFrom_129 : decode cX2_copyFrom 129 = .ok (.getfield 43, 3) := by decide +kernel
theorem dX2_copyFrom_132 : decode cX2_copyFrom 132 = .ok (.putfield 43, 3) := by decide +kernel
theorem dX2_copyFrom_135 : decode cX2_copyFrom 135 = .ok (.aload_n 0, 1) := by decide +kernel
theorem dX2_copyFrom_136 : decode cX2_copyFrom 136 = .ok (.aload_n 1, 1) := by decide +kernel
theorem dX2_copyFrom_137 : decode cX2_copyFrom 137 = .ok (.getfield 47, 3) := by decide +kernel
theorem dX2_copyFrom_140 : decode cX2_copyFrom 140 = .ok (.putfield 47, 3) := by decide +kernel
theorem dX2_copyFrom_143 : decode cX2_copyFrom 143 = .ok (.aload_n 0, 1) := by decide +kernel
theorem dX2_copyFrom_144 : decode cX2_copyFrom 144 = .ok (.aload_n 1, 1) := by decide +kernel
theorem dX2_copyFrom_145 : decode cX2_copyFrom 145 = .ok (.getfield 50, 3) := by decide +kernel
theorem dX2_copyFrom_148 : decode cX2_copyFrom 148 = .ok (.putfield 50, 3) := by decide +kernel
theorem dX2_copyFrom_151 : decode cX2_copyFrom 151 = .ok (.aload_n 0, 1) := by decide +kernel
theorem dX2_copyFrom_152 : decode cX2_copyFrom 152 = .ok (.aload_n 1, 1) := by decide +kernel
theorem dX2_copyFrom_153 : decode cX2_copyFrom 153 = .ok (.getfield 53, 3) := by decide +kernel
theorem dX2_copyFrom_156 : decode cX2_copyFrom 156 = .ok (.putfield 53, 3) := by decide +kernel
theorem dX2_copyFrom_159 : decode cX2_copyFrom 159 = .ok (.aload_n 0, 1) := by decide +kernel
theorem dX2_copyFrom_160 : decode cX2_copyFrom 160 = .ok (.aload_n 1, 1) := by decide +kernel
theorem dX2_copyFrom_161 : decode cX2_copyFrom 161 = .ok (.getfield 56, 3) := by decide +kernel
theorem dX2_copyFrom_164 : decode cX2_copyFrom 164 = .ok (.putfield 56, 3) := by decide +kernel
theorem dX2_copyFrom_167 : decode cX2_copyFrom 167 = .ok (.aload_n 0, 1) := by decide +kernel
theorem dX2_copyFrom_168 : decode cX2_copyFrom 168 = .ok (.aload_n 1, 1) := by decide +kernel
theorem dX2_copyFrom_169 : decode cX2_copyFrom 169 = .ok (.getfield 59, 3) := by decide +kernel
theorem dX2_copyFrom_172 : decode cX2_copyFrom 172 = .ok (.putfield 59, 3) := by decide +kernel
theorem dX2_copyFrom_175 : decode cX2_copyFrom 175 = .ok (.aload_n 0, 1) := by decide +kernel
theorem dX2_copyFrom_176 : decode cX2_copyFrom 176 = .ok (.aload_n 1, 1) := by decide +kernel
theorem dX2_copyFrom_177 : decode cX2_copyFrom 177 = .ok (.getfield 62, 3) := by decide +kernel
theorem dX2_copyFrom_180 : decode cX2_copyFrom 180 = .ok (.putfield 62, 3) := by decide +kernel
theorem dX2_copyFrom_183 : decode cX2_copyFrom 183 = .ok (.aload_n 0, 1) := by decide +kernel
theorem dX2_copyFrom_184 : decode cX2_copyFrom 184 = .ok (.aload_n 1, 1) := by decide +kernel
theorem dX2_copyFrom_185 : decode cX2_copyFrom 185 = .ok (.getfield 65, 3) := by decide +kernel
theorem dX2_copyFrom_188 : decode cX2_copyFrom 188 = .ok (.putfield 65, 3) := by decide +kernel
theorem dX2_copyFrom_191 : decode cX2_copyFrom 191 = .ok (.return_, 1) := by decide +kernel
theorem dX3_keepBefore_0 : decode cX3_keepBefore 0 = .ok (.aload_n 0, 1) := by decide +kernel
theorem dX3_keepBefore_1 : decode cX3_keepBefore 1 = .ok (.invokevirtual 36, 3) := by decide +kernel
theorem dX3_keepBefore_4 : decode cX3_keepBefore 4 = .ok (.astore_n 1, 1) := by decide +kernel
theorem dX3_keepBefore_5 : decode cX3_keepBefore 5 = .ok (.aload_n 1, 1) := by decide +kernel
theorem dX3_keepBefore_6 : decode cX3_keepBefore 6 = .ok (.ifnull 11, 3) := by decide +kernel
theorem dX3_keepBefore_9 : decode cX3_keepBefore 9 = .ok (.aload_n 1, 1) := by decide +kernel
theorem dX3_keepBefore_10 : decode cX3_keepBefore 10 = .ok (.aload_n 0, 1) := by decide +kernel
theorem dX3_keepBefore_11 : decode cX3_keepBefore 11 = .ok (.getfield 33, 3) := by decide +kernel
theorem dX3_keepBefore_14 : decode cX3_keepBefore 14 = .ok (.invokevirtual 40, 3) := by decide +kernel
theorem dX3_keepBefore_17 : decode cX3_keepBefore 17 = .ok (.return_, 1) := by decide +kernel
theorem dX3_takeBack_0 : decode cX3_takeBack 0 = .ok (.aload_n 0, 1) := by decide +kernel
theorem dX3_takeBack_1 : decode cX3_takeBack 1 = .ok (.invokevirtual 36, 3) := by decide +kernel
theorem dX3_takeBack_4 : decode cX3_takeBack 4 = .ok (.astore_n 1, 1) := by decide +kernel
theorem dX3_takeBack_5 : decode cX3_takeBack 5 = .ok (.aload_n 1, 1) := by decide +kernel
theorem dX3_takeBack_6 : decode cX3_takeBack 6 = .ok (.ifnull 11, 3) := by decide +kernel
theorem dX3_takeBack_9 : decode cX3_takeBack 9 = .ok (.aload_n 0, 1) := by decide +kernel
theorem dX3_takeBack_10 : decode cX3_takeBack 10 = .ok (.getfield 33, 3) := by decide +kernel
theorem dX3_takeBack_13 : decode cX3_takeBack 13 = .ok (.aload_n 1, 1) := by decide +kernel
theorem dX3_takeBack_14 : decode cX3_takeBack 14 = .ok (.invokevirtual 40, 3) := by decide +kernel
theorem dX3_takeBack_17 : decode cX3_takeBack 17 = .ok (.return_, 1) := by decide +kernel
def f_X2_threadsFrom_L4 (a1 : Int) (μ : mu_T) : Nat → Int → Int → Option Int
  | 0, _, _ => none
  | fu4 + 1, x2_4, x3_4 => lt_ x3_4 4
      (bd_ (f_X2_target μ a1 x3_4) (fun v12 => jn_ (φ := Int → Option Int) (fun x2_23 => nm_ (x3_4 + 1) (fun n23 => (f_X2_threadsFrom_L4 a1 μ fu4) x2_23 n23))
      (fun J23 => eq_ v12 (-15)
      (J23 x2_4)
      (nm_ (x2_4 + 1) (fun n20 => J23 n20)))))
      (some x2_4)
def f_X2_threadsFrom (μ : mu_T) (a1 : Int) : Option Int :=
  f_X2_threadsFrom_L4 a1 μ 20000 0 0
set_option maxHeartbeats 4000000 in
set_option maxRecDepth 100000 in
theorem c_X2_threadsFrom {G : gp_} {ad : Nat → Nat} (μ : mu_T) (a1 : Int) (a : Int) (h : f_X2_threadsFrom μ a1 = some a) : mi_ yX2_threadsFrom cX2_threadsFrom 4 (some .int) ({ frames := 2, cells := 0, slots := 0, locals := 42 } : Room) G 151 ad (ceX G ad) [.ref (ad 0), .int (iI a1)] μ a μ := by
  refine mi_in (own := "UrnHeap$Heap") (lv := [(0, .ref (ad 0)), (1, .int (iI a1))]) (by decide) rfl rfl (Nat.le_of_ble_eq_true rfl) (fun X C E => ?_)
  unfold f_X2_threadsFrom at h
  refine xx_iconst C 1 rfl dX2_threadsFrom_0 ?_
  refine xx_istore_n (lv1 := [(2, .int (iI 0)), (0, .ref (ad 0)), (1, .int (iI a1))]) C 2 rfl (by decide) dX2_threadsFrom_1 rfl rfl ?_
  refine xx_iconst C 3 rfl dX2_threadsFrom_2 ?_
  refine xx_istore_n (lv1 := [(3, .int (iI 0)), (2, .int (iI 0)), (0, .ref (ad 0)), (1, .int (iI a1))]) C 4 rfl (by decide) dX2_threadsFrom_3 rfl rfl ?_
  have L4 : ∀ (fu4 : Nat) (x2_4 : Int) (x3_4 : Int), f_X2_threadsFrom_L4 a1 μ fu4 x2_4 x3_4 = some a → wx_ G X 151 ad (ceX G ad) μ 0 0 4 [(0, .ref (ad 0)), (1, .int (iI a1)), (2, .int (iI x2_4)), (3, .int (iI x3_4))] [] := by
    intro fu4
    induction fu4 with
    | zero => intro x2_4 x3_4 h; exact nn_ h
    | succ fu4 K4 =>
      intro x2_4 x3_4 h
      rw [f_X2_threadsFrom_L4] at h
      generalize f_X2_threadsFrom_L4 a1 μ fu4 = R4 at K4 h
      refine xx_iload_n C 5 rfl 3 dX2_threadsFrom_4 rfl rfl ?_
      refine xx_iconst C 6 rfl dX2_threadsFrom_5 ?_
      refine xx_icmp_ge (tgt := 29) C 9 rfl dX2_threadsFrom_6 (by decide) h (fun h => ?_) (fun h => ?_)
      · refine xx_iload_n C 30 rfl 2 dX2_threadsFrom_29 rfl rfl ?_
        exact xx_iretp C E rfl ⟨Nat.le_of_ble_eq_true rfl, Nat.le_of_ble_eq_true rfl⟩ dX2_threadsFrom_30 h
      · refine xx_aload_n C 10 rfl 0 dX2_threadsFrom_9 rfl rfl ?_
        refine xx_iload_n C 11 rfl 1 dX2_threadsFrom_10 rfl rfl ?_
        refine xx_iload_n C 12 rfl 3 dX2_threadsFrom_11 rfl rfl ?_
        refine xx_cVip (As := [.int (iI a1), .int (iI x3_4)]) (st := []) (o := 0) C 15 rfl (by decide) (ceX_0 _ _ _) rfl rfl ca_X2_target cv_X2_target w_993 rfl ⟨Nat.le_of_ble_eq_true rfl, Nat.le_of_ble_eq_true rfl⟩ ⟨Nat.le_of_ble_eq_true rfl, Nat.le_of_ble_eq_true rfl⟩ (Nat.le_of_ble_eq_true rfl) dX2_threadsFrom_12 (fun v12 e9 => c_X2_target _ _ _ v12 e9) h (fun v12 h => ?_) rfl
        refine xx_bipush C 17 rfl dX2_threadsFrom_15 (by decide) ?_
        refine jn_r (fun J => ∀ (x2_23 : Int), J x2_23 = some a → wx_ G X 151 ad (ceX G ad) μ 0 0 23 [(0, .ref (ad 0)), (1, .int (iI a1)), (2, .int (iI x2_23)), (3, .int (iI x3_4))] []) h (fun x2_23 h => ?_) (fun J23 K23 h => ?_)
        · refine xx_iincn C 26 rfl 3 (by decide) dX2_threadsFrom_23 rfl h (fun n23 h => ?_)
          refine xx_lv (lv1 := [(3, .int (iI n23)), (0, .ref (ad 0)), (1, .int (iI a1)), (2, .int (iI x2_23))]) rfl ?_
          refine xx_goto C 4 dX2_threadsFrom_26 (by decide) ?_
          refine xx_sub [1, 2, 3, 0] rfl ?_
          exact K4 x2_23 n23 h
        · refine xx_icmp_eq (tgt := 23) C 20 rfl dX2_threadsFrom_17 (by decide) h (fun h => ?_) (fun h => ?_)
          · exact K23 x2_4 h
          · refine xx_iincn C 23 rfl 2 (by decide) dX2_threadsFrom_20 rfl h (fun n20 h => ?_)
            refine xx_lv (lv1 := [(2, .int (iI n20)), (0, .ref (ad 0)), (1, .int (iI a1)), (3, .int (iI x3_4))]) rfl ?_
            refine xx_sub [1, 2, 0, 3] rfl ?_
            exact K23 n20 h
  refine xx_sub [2, 3, 1, 0] rfl ?_
  exact L4 _ _ _ h

def f_X2_holdersOf_L34 (a1 : Int) (μ : mu_T) : Nat → Int → Int → Option Int
  | 0, _, _ => none
  | fu34 + 1, x2_34, x3_34 => lt_ x3_34 6
      (rd_ μ 6 6 x3_34 (fun v45 => jn_ (φ := Int → Option Int) (fun x2_53 => nm_ (x3_34 + 1) (fun n53 => (f_X2_holdersOf_L34 a1 μ fu34) x2_53 n53))
      (fun J53 => eq_ v45 a1
      (nm_ (x2_34 + 1) (fun n50 => J53 n50))
      (J53 x2_34))))
      (some x2_34)
def f_X2_holdersOf_L4 (J32 : Int → Option Int) (a1 : Int) (μ : mu_T) : Nat → Int → Int → Option Int
  | 0, _, _ => none
  | fu4 + 1, x2_4, x3_4 => lt_ x3_4 96
      (rd_ μ 1 96 x3_4 (fun v18 => jn_ (φ := Int → Option Int) (fun x2_26 => nm_ (x3_4 + 1) (fun n26 => (f_X2_holdersOf_L4 J32 a1 μ fu4) x2_26 n26))
      (fun J26 => eq_ v18 a1
      (nm_ (x2_4 + 1) (fun n23 => J26 n23))
      (J26 x2_4))))
      (J32 x2_4)
def f_X2_holdersOf (μ : mu_T) (a1 : Int) : Option Int :=
  jn_ (φ := Int → Option Int) (fun x2_32 => f_X2_holdersOf_L34 a1 μ 20000 x2_32 0)
      (fun J32 => f_X2_holdersOf_L4 J32 a1 μ 20000 0 0)
set_option maxHeartbeats 4000000 in
set_option maxRecDepth 100000 in
theorem c_X2_holdersOf {G : gp_} {ad : Nat → Nat} (μ : mu_T) (a1 : Int) (a : Int) (h : f_X2_holdersOf μ a1 = some a) : mi_ yX2_holdersOf cX2_holdersOf 4 (some .int) ({ frames := 0, cells := 0, slots := 0, locals := 0 } : Room) G 151 ad (ceX G ad) [.ref (ad 0), .int (iI a1)] μ a μ := by
  refine mi_in (own := "UrnHeap$Heap") (lv := [(0, .ref (ad 0)), (1, .int (iI a1))]) (by decide) rfl rfl (Nat.le_of_ble_eq_true rfl) (fun X C E => ?_)
  unfold f_X2_holdersOf at h
  refine xx_iconst C 1 rfl dX2_holdersOf_0 ?_
  refine xx_istore_n (lv1 := [(2, .int (iI 0)), (0, .ref (ad 0)), (1, .int (iI a1))]) C 2 rfl (by decide) dX2_holdersOf_1 rfl rfl ?_
  refine xx_iconst C 3 rfl dX2_holdersOf_2 ?_
  refine xx_istore_n (lv1 := [(3, .int (iI 0)), (2, .int (iI 0)), (0, .ref (ad 0)), (1, .int (iI a1))]) C 4 rfl (by decide) dX2_holdersOf_3 rfl rfl ?_
  refine jn_r (fun J => ∀ (x2_32 : Int), J x2_32 = some a → wx_ G X 151 ad (ceX G ad) μ 0 0 32 [(0, .ref (ad 0)), (1, .int (iI a1)), (2, .int (iI x2_32))] []) h (fun x2_32 h => ?_) (fun J32 K32 h => ?_)
  · refine xx_iconst C 33 rfl dX2_holdersOf_32 ?_
    refine xx_istore_n (lv1 := [(3, .int (iI 0)), (0, .ref (ad 0)), (1, .int (iI a1)), (2, .int (iI x2_32))]) C 34 rfl (by decide) dX2_holdersOf_33 rfl rfl ?_
    have L34 : ∀ (fu34 : Nat) (x2_34 : Int) (x3_34 : Int), f_X2_holdersOf_L34 a1 μ fu34 x2_34 x3_34 = some a → wx_ G X 151 ad (ceX G ad) μ 0 0 34 [(0, .ref (ad 0)), (1, .int (iI a1)), (2, .int (iI x2_34)), (3, .int (iI x3_34))] [] := by
      intro fu34
      induction fu34 with
      | zero => intro x2_34 x3_34 h; exact nn_ h
      | succ fu34 K34 =>
        intro x2_34 x3_34 h
        rw [f_X2_holdersOf_L34] at h
        generalize f_X2_holdersOf_L34 a1 μ fu34 = R34 at K34 h
        refine xx_iload_n C 35 rfl 3 dX2_holdersOf_34 rfl rfl ?_
        refine xx_bipush C 37 rfl dX2_holdersOf_35 (by decide) ?_
        refine xx_icmp_ge (tgt := 59) C 40 rfl dX2_holdersOf_37 (by decide) h (fun h => ?_) (fun h => ?_)
        · refine xx_iload_n C 60 rfl 2 dX2_holdersOf_59 rfl rfl ?_
          exact xx_iretp C E rfl ⟨Nat.le_of_ble_eq_true rfl, Nat.le_of_ble_eq_true rfl⟩ dX2_holdersOf_60 h
        · refine xx_aload_n C 41 rfl 0 dX2_holdersOf_40 rfl rfl ?_
          refine xx_getr (fi := 5) C 44 rfl (by decide) (ceX_0 _ _ _) rfl in_X2 (by decide) rfl w_102 dX2_holdersOf_41 ?_
          refine xx_iload_n C 45 rfl 3 dX2_holdersOf_44 rfl rfl ?_
          refine xx_iaload C 46 rfl (by decide) (fun row => ceX_6 _ _ row) (by decide) dX2_holdersOf_45 h (fun v45 h => ?_)
          refine xx_iload_n C 47 rfl 1 dX2_holdersOf_46 rfl rfl ?_
          refine jn_r (fun J => ∀ (x2_53 : Int), J x2_53 = some a → wx_ G X 151 ad (ceX G ad) μ 0 0 53 [(0, .ref (ad 0)), (1, .int (iI a1)), (2, .int (iI x2_53)), (3, .int (iI x3_34))] []) h (fun x2_53 h => ?_) (fun J53 K53 h => ?_)
          · refine xx_iincn C 56 rfl 3 (by decide) dX2_holdersOf_53 rfl h (fun n53 h => ?_)
            refine xx_lv (lv1 := [(3, .int (iI n53)), (0, .ref (ad 0)), (1, .int (iI a1)), (2, .int (iI x2_53))]) rfl ?_
            refine xx_goto C 34 dX2_holdersOf_56 (by decide) ?_
            refine xx_sub [1, 2, 3, 0] rfl ?_
            exact K34 x2_53 n53 h
          · refine xx_icmp_ne (tgt := 53) C 50 rfl dX2_holdersOf_47 (by decide) h (fun h => ?_) (fun h => ?_)
            · exact K53 x2_34 h
            · refine xx_iincn C 53 rfl 2 (by decide) dX2_holdersOf_50 rfl h (fun n50 h => ?_)
              refine xx_lv (lv1 := [(2, .int (iI n50)), (0, .ref (ad 0)), (1, .int (iI a1)), (3, .int (iI x3_34))]) rfl ?_
              refine xx_sub [1, 2, 0, 3] rfl ?_
              exact K53 n50 h
    refine xx_sub [1, 2, 3, 0] rfl ?_
    exact L34 _ _ _ h
  · have L4 : ∀ (fu4 : Nat) (x2_4 : Int) (x3_4 : Int), f_X2_holdersOf_L4 J32 a1 μ fu4 x2_4 x3_4 = some a → wx_ G X 151 ad (ceX G ad) μ 0 0 4 [(0, .ref (ad 0)), (1, .int (iI a1)), (2, .int (iI x2_4)), (3, .int (iI x3_4))] [] := by
      intro fu4
      induction fu4 with
      | zero => intro x2_4 x3_4 h; exact nn_ h
      | succ fu4 K4 =>
        intro x2_4 x3_4 h
        rw [f_X2_holdersOf_L4] at h
        generalize f_X2_holdersOf_L4 J32 a1 μ fu4 = R4 at K4 h
        refine xx_iload_n C 5 rfl 3 dX2_holdersOf_4 rfl rfl ?_
        refine xx_aload_n C 6 rfl 0 dX2_holdersOf_5 rfl rfl ?_
        refine xx_getr (fi := 0) C 9 rfl (by decide) (ceX_0 _ _ _) rfl in_X2 (by decide) rfl w_83 dX2_holdersOf_6 ?_
        refine xx_alen (nA := 96) C 10 rfl (by decide) (fun row => ceX_1 _ _ row) dX2_holdersOf_9 ?_
        refine xx_icmp_ge (tgt := 32) C 13 rfl dX2_holdersOf_10 (by decide) h (fun h => ?_) (fun h => ?_)
        · refine xx_sub [0, 1, 2] rfl ?_
          exact K32 x2_4 h
        · refine xx_aload_n C 14 rfl 0 dX2_holdersOf_13 rfl rfl ?_
          refine xx_getr (fi := 0) C 17 rfl (by decide) (ceX_0 _ _ _) rfl in_X2 (by decide) rfl w_83 dX2_holdersOf_14 ?_
          refine xx_iload_n C 18 rfl 3 dX2_holdersOf_17 rfl rfl ?_
          refine xx_iaload C 19 rfl (by decide) (fun row => ceX_1 _ _ row) (by decide) dX2_holdersOf_18 h (fun v18 h => ?_)
          refine xx_iload_n C 20 rfl 1 dX2_holdersOf_19 rfl rfl ?_
          refine jn_r (fun J => ∀ (x2_26 : Int), J x2_26 = some a → wx_ G X 151 ad (ceX G ad) μ 0 0 26 [(0, .ref (ad 0)), (1, .int (iI a1)), (2, .int (iI x2_26)), (3, .int (iI x3_4))] []) h (fun x2_26 h => ?_) (fun J26 K26 h => ?_)
          · refine xx_iincn C 29 rfl 3 (by decide) dX2_holdersOf_26 rfl h (fun n26 h => ?_)
            refine xx_lv (lv1 := [(3, .int (iI n26)), (0, .ref (ad 0)), (1, .int (iI a1)), (2, .int (iI x2_26))]) rfl ?_
            refine xx_goto C 4 dX2_holdersOf_29 (by decide) ?_
            refine xx_sub [1, 2, 3, 0] rfl ?_
            exact K4 x2_26 n26 h
          · refine xx_icmp_ne (tgt := 26) C 23 rfl dX2_holdersOf_20 (by decide) h (fun h => ?_) (fun h => ?_)
            · exact K26 x2_4 h
            · refine xx_iincn C 26 rfl 2 (by decide) dX2_holdersOf_23 rfl h (fun n23 h => ?_)
              refine xx_lv (lv1 := [(2, .int (iI n23)), (0, .ref (ad 0)), (1, .int (iI a1)), (3, .int (iI x3_4))]) rfl ?_
              refine xx_sub [1, 2, 0, 3] rfl ?_
              exact K26 n23 h
    refine xx_sub [2, 3, 1, 0] rfl ?_
    exact L4 _ _ _ h

def f_X2_holdersOfAll_L4 (μ : mu_T) : Nat → Int → Int → Option Int
  | 0, _, _ => none
  | fu4 + 1, x1_4, x2_4 => lt_ x2_4 24
      (bd_ (f_X2_hasUrn μ x2_4) (fun v12 => jn_ (φ := Int → Option Int) (fun x1_26 => nm_ (x2_4 + 1) (fun n26 => (f_X2_holdersOfAll_L4 μ fu4) x1_26 n26))
      (fun J26 => eq_ v12 0
      (J26 x1_4)
      (bd_ (f_X2_holdersOf μ x2_4) (fun v21 => nm_ ((x1_4 + v21)) (fun n25 => J26 n25))))))
      (some x1_4)
def f_X2_holdersOfAll (μ : mu_T)  : Option Int :=
  f_X2_holdersOfAll_L4 μ 20000 0 0
set_option maxHeartbeats 4000000 in
set_option maxRecDepth 100000 in
theorem c_X2_holdersOfAll {G : gp_} {ad : Nat → Nat} (μ : mu_T)  (a : Int) (h : f_X2_holdersOfAll μ  = some a) : mi_ yX2_holdersOfAll cX2_holdersOfAll 3 (some .int) ({ frames := 1, cells := 0, slots := 0, locals := 23 } : Room) G 151 ad (ceX G ad) [.ref (ad 0)] μ a μ := by
  refine mi_in (own := "UrnHeap$Heap") (lv := [(0, .ref (ad 0))]) (by decide) rfl rfl (Nat.le_of_ble_eq_true rfl) (fun X C E => ?_)
  unfold f_X2_holdersOfAll at h
  refine xx_iconst C 1 rfl dX2_holdersOfAll_0 ?_
  refine xx_istore_n (lv1 := [(1, .int (iI 0)), (0, .ref (ad 0))]) C 2 rfl (by decide) dX2_holdersOfAll_1 rfl rfl ?_
  refine xx_iconst C 3 rfl dX2_holdersOfAll_2 ?_
  refine xx_istore_n (lv1 := [(2, .int (iI 0)), (1, .int (iI 0)), (0, .ref (ad 0))]) C 4 rfl (by decide) dX2_holdersOfAll_3 rfl rfl ?_
  have L4 : ∀ (fu4 : Nat) (x1_4 : Int) (x2_4 : Int), f_X2_holdersOfAll_L4 μ fu4 x1_4 x2_4 = some a → wx_ G X 151 ad (ceX G ad) μ 0 0 4 [(0, .ref (ad 0)), (1, .int (iI x1_4)), (2, .int (iI x2_4))] [] := by
    intro fu4
    induction fu4 with
    | zero => intro x1_4 x2_4 h; exact nn_ h
    | succ fu4 K4 =>
      intro x1_4 x2_4 h
      rw [f_X2_holdersOfAll_L4] at h
      generalize f_X2_holdersOfAll_L4 μ fu4 = R4 at K4 h
      refine xx_iload_n C 5 rfl 2 dX2_holdersOfAll_4 rfl rfl ?_
      refine xx_bipush C 7 rfl dX2_holdersOfAll_5 (by decide) ?_
      refine xx_icmp_ge (tgt := 32) C 10 rfl dX2_holdersOfAll_7 (by decide) h (fun h => ?_) (fun h => ?_)
      · refine xx_iload_n C 33 rfl 1 dX2_holdersOfAll_32 rfl rfl ?_
        exact xx_iretp C E rfl ⟨Nat.le_of_ble_eq_true rfl, Nat.le_of_ble_eq_true rfl⟩ dX2_holdersOfAll_33 h
      · refine xx_aload_n C 11 rfl 0 dX2_holdersOfAll_10 rfl rfl ?_
        refine xx_iload_n C 12 rfl 2 dX2_holdersOfAll_11 rfl rfl ?_
        refine xx_cVip (As := [.int (iI x2_4)]) (st := []) (o := 0) C 15 rfl (by decide) (ceX_0 _ _ _) rfl rfl ca_X2_hasUrn cv_X2_hasUrn w_574 rfl ⟨Nat.le_of_ble_eq_true rfl, Nat.le_of_ble_eq_true rfl⟩ ⟨Nat.le_of_ble_eq_true rfl, Nat.le_of_ble_eq_true rfl⟩ (Nat.le_of_ble_eq_true rfl) dX2_holdersOfAll_12 (fun v12 e9 => c_X2_hasUrn _ _ v12 e9) h (fun v12 h => ?_) rfl
        refine jn_r (fun J => ∀ (x1_26 : Int), J x1_26 = some a → wx_ G X 151 ad (ceX G ad) μ 0 0 26 [(0, .ref (ad 0)), (1, .int (iI x1_26)), (2, .int (iI x2_4))] []) h (fun x1_26 h => ?_) (fun J26 K26 h => ?_)
        · refine xx_iincn C 29 rfl 2 (by decide) dX2_holdersOfAll_26 rfl h (fun n26 h => ?_)
          refine xx_lv (lv1 := [(2, .int (iI n26)), (0, .ref (ad 0)), (1, .int (iI x1_26))]) rfl ?_
          refine xx_goto C 4 dX2_holdersOfAll_29 (by decide) ?_
          refine xx_sub [1, 2, 0] rfl ?_
          exact K4 x1_26 n26 h
        · refine xx_if_eq (tgt := 26) C 18 rfl dX2_holdersOfAll_15 (by decide) h (fun h => ?_) (fun h => ?_)
          · exact K26 x1_4 h
          · refine xx_iload_n C 19 rfl 1 dX2_holdersOfAll_18 rfl rfl ?_
            refine xx_aload_n C 20 rfl 0 dX2_holdersOfAll_19 rfl rfl ?_
            refine xx_iload_n C 21 rfl 2 dX2_holdersOfAll_20 rfl rfl ?_
            refine xx_cVip (As := [.int (iI x2_4)]) (st := [.int (iI x1_4)]) (o := 0) C 24 rfl (by decide) (ceX_0 _ _ _) rfl rfl ca_X2_holdersOf cv_X2_holdersOf w_1145 rfl ⟨Nat.le_of_ble_eq_true rfl, Nat.le_of_ble_eq_true rfl⟩ ⟨Nat.le_of_ble_eq_true rfl, Nat.le_of_ble_eq_true rfl⟩ (Nat.le_of_ble_eq_true rfl) dX2_holdersOfAll_21 (fun v21 e9 => c_X2_holdersOf _ _ v21 e9) h (fun v21 h => ?_) rfl
            refine xx_iadd C 25 rfl dX2_holdersOfAll_24 ?_
            refine xx_nm C h (fun n25 h => ?_)
            refine xx_istore_n (lv1 := [(1, .int (iI n25)), (0, .ref (ad 0)), (2, .int (iI x2_4))]) C 26 rfl (by decide) dX2_holdersOfAll_25 rfl rfl ?_
            refine xx_sub [1, 0, 2] rfl ?_
            exact K26 n25 h
  refine xx_sub [2, 1, 0] rfl ?_
  exact L4 _ _ _ h

def f_X2_freedLate (μ : mu_T) (a1 : Int) : Option Int :=
  lt_ a1 0
      (some (-11))
      (lt_ a1 12
      (nm_ (μ 0 13) (fun v12 => lt_ a1 v12
      (nm_ (μ 0 13) (fun v26 => rm_ ((v26 - 1) - a1) 12 (fun v35 => rd_ μ 7 12 v35 (fun v36 => some v36))))
      (some (-11))))
      (some (-11)))
set_option maxHeartbeats 4000000 in
set_option maxRecDepth 100000 in
theorem c_X2_freedLate {G : gp_} {ad : Nat → Nat} (μ : mu_T) (a1 : Int) (a : Int) (h : f_X2_freedLate μ a1 = some a) : mi_ yX2_freedLate cX2_freedLate 2 (some .int) ({ frames := 0, cells := 0, slots := 0, locals := 0 } : Room) G 151 ad (ceX G ad) [.ref (ad 0), .int (iI a1)] μ a μ := by
  refine mi_in (own := "UrnHeap$Heap") (lv := [(0, .ref (ad 0)), (1, .int (iI a1))]) (by decide) rfl rfl (Nat.le_of_ble_eq_true rfl) (fun X C E => ?_)
  unfold f_X2_freedLate at h
  refine xx_iload_n C 1 rfl 1 dX2_freedLate_0 rfl rfl ?_
  refine xx_if_lt (tgt := 18) C 4 rfl dX2_freedLate_1 (by decide) h (fun h => ?_) (fun h => ?_)
  · refine xx_bipush C 20 rfl dX2_freedLate_18 (by decide) ?_
    exact xx_iretp C E rfl ⟨Nat.le_of_ble_eq_true rfl, Nat.le_of_ble_eq_true rfl⟩ dX2_freedLate_20 h
  · refine xx_iload_n C 5 rfl 1 dX2_freedLate_4 rfl rfl ?_
    refine xx_bipush C 7 rfl dX2_freedLate_5 (by decide) ?_
    refine xx_icmp_ge (tgt := 18) C 10 rfl dX2_freedLate_7 (by decide) h (fun h => ?_) (fun h => ?_)
    · refine xx_bipush C 20 rfl dX2_freedLate_18 (by decide) ?_
      exact xx_iretp C E rfl ⟨Nat.le_of_ble_eq_true rfl, Nat.le_of_ble_eq_true rfl⟩ dX2_freedLate_20 h
    · refine xx_iload_n C 11 rfl 1 dX2_freedLate_10 rfl rfl ?_
      refine xx_aload_n C 12 rfl 0 dX2_freedLate_11 rfl rfl ?_
      refine xx_geti (fi := 13) (j := 13) C 15 rfl (by decide) (ceX_0 _ _ _) rfl in_X2 (by decide) rfl w_129 dX2_freedLate_12 h (fun v12 h => ?_)
      refine xx_icmp_lt (tgt := 21) C 18 rfl dX2_freedLate_15 (by decide) h (fun h => ?_) (fun h => ?_)
      · refine xx_aload_n C 22 rfl 0 dX2_freedLate_21 rfl rfl ?_
        refine xx_getr (fi := 6) C 25 rfl (by decide) (ceX_0 _ _ _) rfl in_X2 (by decide) rfl w_107 dX2_freedLate_22 ?_
        refine xx_aload_n C 26 rfl 0 dX2_freedLate_25 rfl rfl ?_
        refine xx_geti (fi := 13) (j := 13) C 29 rfl (by decide) (ceX_0 _ _ _) rfl in_X2 (by decide) rfl w_129 dX2_freedLate_26 h (fun v26 h => ?_)
        refine xx_iconst C 30 rfl dX2_freedLate_29 ?_
        refine xx_isub C 31 rfl dX2_freedLate_30 ?_
        refine xx_iload_n C 32 rfl 1 dX2_freedLate_31 rfl rfl ?_
        refine xx_isub C 33 rfl dX2_freedLate_32 ?_
        refine xx_bipush C 35 rfl dX2_freedLate_33 (by decide) ?_
        refine xx_irem C 36 rfl dX2_freedLate_35 h (fun v35 h => ?_)
        refine xx_iaload C 37 rfl (by decide) (fun row => ceX_7 _ _ row) (by decide) dX2_freedLate_36 h (fun v36 h => ?_)
        exact xx_iretp C E rfl ⟨Nat.le_of_ble_eq_true rfl, Nat.le_of_ble_eq_true rfl⟩ dX2_freedLate_37 h
      · refine xx_bipush C 20 rfl dX2_freedLate_18 (by decide) ?_
        exact xx_iretp C E rfl ⟨Nat.le_of_ble_eq_true rfl, Nat.le_of_ble_eq_true rfl⟩ dX2_freedLate_20 h

def f_J9_floorMod_7cf53 (μ : mu_T) (a0 : Int) (a1 : Int) : Option Int :=
  rm_ a0 a1 (fun v2 => lt_ (xo_ a0 a1) 0
      (eq_ v2 0
      (some v2)
      (some (v2 + a1)))
      (some v2))
set_option maxHeartbeats 4000000 in
set_option maxRecDepth 100000 in
theorem c_J9_floorMod_7cf53 {G : gp_} {ad : Nat → Nat} (μ : mu_T) (a0 : Int) (a1 : Int) (a : Int) (h : f_J9_floorMod_7cf53 μ a0 a1 = some a) : mi_ yJ9_floorMod_7cf53 cJ9_floorMod_7cf53 3 (some .int) ({ frames := 0, cells := 0, slots := 0, locals := 0 } : Room) G 151 ad (ceX G ad) [.int (iI a0), .int (iI a1)] μ a μ := by
  refine mi_inF (own := "java/lang/Math") (lv := [(0, .int (iI a0)), (1, .int (iI a1))]) (by decide +kernel) rfl rfl (Nat.le_of_ble_eq_true rfl) (fun X C E => ?_)
  unfold f_J9_floorMod_7cf53 at h
  refine xx_iload_n C 1 rfl 0 dJ9_floorMod_7cf53_0 rfl rfl ?_
  refine xx_iload_n C 2 rfl 1 dJ9_floorMod_7cf53_1 rfl rfl ?_
  refine xx_irem C 3 rfl dJ9_floorMod_7cf53_2 h (fun v2 h => ?_)
  refine xx_istore_n (lv1 := [(2, .int (iI v2)), (0, .int (iI a0)), (1, .int (iI a1))]) C 4 rfl (by decide) dJ9_floorMod_7cf53_3 rfl rfl ?_
  refine xx_iload_n C 5 rfl 1 dJ9_floorMod_7cf53_4 rfl rfl ?_
  refine xx_iload_n C 6 rfl 2 dJ9_floorMod_7cf53_5 rfl rfl ?_
  refine xx_ixor C 7 rfl dJ9_floorMod_7cf53_6 ?_
  refine xx_if_ge (tgt := 18) C 10 rfl dJ9_floorMod_7cf53_7 (by decide) h (fun h => ?_) (fun h => ?_)
  · refine xx_iload_n C 19 rfl 0 dJ9_floorMod_7cf53_18 rfl rfl ?_
    exact xx_iretp C E rfl ⟨Nat.le_of_ble_eq_true rfl, Nat.le_of_ble_eq_true rfl⟩ dJ9_floorMod_7cf53_19 h
  · refine xx_iload_n C 11 rfl 0 dJ9_floorMod_7cf53_10 rfl rfl ?_
    refine xx_if_eq (tgt := 18) C 14 rfl dJ9_floorMod_7cf53_11 (by decide) h (fun h => ?_) (fun h => ?_)
    · refine xx_iload_n C 19 rfl 0 dJ9_floorMod_7cf53_18 rfl rfl ?_
      exact xx_iretp C E rfl ⟨Nat.le_of_ble_eq_true rfl, Nat.le_of_ble_eq_true rfl⟩ dJ9_floorMod_7cf53_19 h
    · refine xx_iload_n C 15 rfl 0 dJ9_floorMod_7cf53_14 rfl rfl ?_
      refine xx_iload_n C 16 rfl 2 dJ9_floorMod_7cf53_15 rfl rfl ?_
      refine xx_iadd C 17 rfl dJ9_floorMod_7cf53_16 ?_
      exact xx_iretp C E rfl ⟨Nat.le_of_ble_eq_true rfl, Nat.le_of_ble_eq_true rfl⟩ dJ9_floorMod_7cf53_17 h

def f_X2_free_L58 (J91 : mu_T → Option mu_T) (a1 : Int) : Nat → Int → mu_T → Option mu_T
  | 0, _, _ => none
  | fu58 + 1, x2_58, μ58 => lt_ x2_58 96
      (rd_ μ58 1 96 x2_58 (fun v72 => jn_ (φ := mu_T → Option mu_T) (fun μ85 => nm_ (x2_58 + 1) (fun n85 => (f_X2_free_L58 J91 a1 fu58) n85 μ85))
      (fun J85 => eq_ v72 a1
      (wr_ μ58 1 96 x2_58 (-15) (fun μ84 => J85 μ84))
      (J85 μ58))))
      (J91 μ58)
def f_X2_free_L33 (J56 : mu_T → Option mu_T) (a1 : Int) : Nat → Int → mu_T → Option mu_T
  | 0, _, _ => none
  | fu33 + 1, x2_33, μ33 => lt_ x2_33 4
      (wr_ μ33 1 96 ((a1 * 4) + x2_33) (-15) (fun μ49 => nm_ (x2_33 + 1) (fun n50 => (f_X2_free_L33 J56 a1 fu33) n50 μ49)))
      (J56 μ33)
def f_X2_free (μ : mu_T) (a1 : Int) : Option mu_T :=
  bd_ (f_X2_hasUrn μ a1) (fun v2 => eq_ v2 0
      (some μ)
      (wr_ μ 4 24 a1 (-1) (fun μ15 => wr_ μ15 3 24 a1 0 (fun μ22 => wr_ μ22 2 24 a1 (-15) (fun μ30 => jn_ (φ := mu_T → Option mu_T) (fun μ56 => jn_ (φ := mu_T → Option mu_T) (fun μ91 => nm_ (μ91 0 13) (fun v96 => bd_ (f_J9_floorMod_7cf53 μ91 v96 12) (fun v101 => wr_ μ91 7 12 v101 a1 (fun μ105 => nm_ (μ105 0 13) (fun v108 => wf_ μ105 0 13 (v108 + 1) (fun μ113 => some μ113))))))
      (fun J91 => f_X2_free_L58 J91 a1 20000 0 μ56))
      (fun J56 => f_X2_free_L33 J56 a1 20000 0 μ30))))))
set_option maxHeartbeats 4000000 in
set_option maxRecDepth 100000 in
theorem c_X2_free {G : gp_} {ad : Nat → Nat} (μ : mu_T) (a1 : Int) (μr : mu_T) (h : f_X2_free μ a1 = some μr) : mv_ yX2_free cX2_free 3 ({ frames := 1, cells := 0, slots := 0, locals := 22 } : Room) G 151 ad (ceX G ad) [.ref (ad 0), .int (iI a1)] μ μr := by
  refine mv_in (own := "UrnHeap$Heap") (lv := [(0, .ref (ad 0)), (1, .int (iI a1))]) (by decide) rfl rfl (Nat.le_of_ble_eq_true rfl) (fun X C E => ?_)
  unfold f_X2_free at h
  refine xx_aload_n C 1 rfl 0 dX2_free_0 rfl rfl ?_
  refine xx_iload_n C 2 rfl 1 dX2_free_1 rfl rfl ?_
  refine xx_cVip (As := [.int (iI a1)]) (st := []) (o := 0) C 5 rfl (by decide) (ceX_0 _ _ _) rfl rfl ca_X2_hasUrn cv_X2_hasUrn w_574 rfl ⟨Nat.le_of_ble_eq_true rfl, Nat.le_of_ble_eq_true rfl⟩ ⟨Nat.le_of_ble_eq_true rfl, Nat.le_of_ble_eq_true rfl⟩ (Nat.le_of_ble_eq_true rfl) dX2_free_2 (fun v2 e9 => c_X2_hasUrn _ _ v2 e9) h (fun v2 h => ?_) rfl
  refine xx_if_ne (tgt := 9) C 8 rfl dX2_free_5 (by decide) h (fun h => ?_) (fun h => ?_)
  · refine xx_aload_n C 10 rfl 0 dX2_free_9 rfl rfl ?_
    refine xx_getr (fi := 3) C 13 rfl (by decide) (ceX_0 _ _ _) rfl in_X2 (by decide) rfl w_95 dX2_free_10 ?_
    refine xx_iload_n C 14 rfl 1 dX2_free_13 rfl rfl ?_
    refine xx_iconst C 15 rfl dX2_free_14 ?_
    refine xx_iastore C 16 rfl (by decide) (fun row => ceX_4 _ _ row) (by decide) dX2_free_15 h (fun μ15 h => ?_)
    refine xx_aload_n C 17 rfl 0 dX2_free_16 rfl rfl ?_
    refine xx_getr (fi := 2) C 20 rfl (by decide) (ceX_0 _ _ _) rfl in_X2 (by decide) rfl w_90 dX2_free_17 ?_
    refine xx_iload_n C 21 rfl 1 dX2_free_20 rfl rfl ?_
    refine xx_iconst C 22 rfl dX2_free_21 ?_
    refine xx_iastore C 23 rfl (by decide) (fun row => ceX_3 _ _ row) (by decide) dX2_free_22 h (fun μ22 h => ?_)
    refine xx_aload_n C 24 rfl 0 dX2_free_23 rfl rfl ?_
    refine xx_getr (fi := 1) C 27 rfl (by decide) (ceX_0 _ _ _) rfl in_X2 (by decide) rfl w_86 dX2_free_24 ?_
    refine xx_iload_n C 28 rfl 1 dX2_free_27 rfl rfl ?_
    refine xx_bipush C 30 rfl dX2_free_28 (by decide) ?_
    refine xx_iastore C 31 rfl (by decide) (fun row => ceX_2 _ _ row) (by decide) dX2_free_30 h (fun μ30 h => ?_)
    refine xx_iconst C 32 rfl dX2_free_31 ?_
    refine xx_istore_n (lv1 := [(2, .int (iI 0)), (0, .ref (ad 0)), (1, .int (iI a1))]) C 33 rfl (by decide) dX2_free_32 rfl rfl ?_
    refine jn_r (fun J => ∀ (μ56 : mu_T), J μ56 = some μr → wx_ G X 151 ad (ceX G ad) μ56 0 0 56 [(0, .ref (ad 0)), (1, .int (iI a1))] []) h (fun μ56 h => ?_) (fun J56 K56 h => ?_)
    · refine xx_iconst C 57 rfl dX2_free_56 ?_
      refine xx_istore_n (lv1 := [(2, .int (iI 0)), (0, .ref (ad 0)), (1, .int (iI a1))]) C 58 rfl (by decide) dX2_free_57 rfl rfl ?_
      refine jn_r (fun J => ∀ (μ91 : mu_T), J μ91 = some μr → wx_ G X 151 ad (ceX G ad) μ91 0 0 91 [(0, .ref (ad 0)), (1, .int (iI a1))] []) h (fun μ91 h => ?_) (fun J91 K91 h => ?_)
      · refine xx_aload_n C 92 rfl 0 dX2_free_91 rfl rfl ?_
        refine xx_getr (fi := 6) C 95 rfl (by decide) (ceX_0 _ _ _) rfl in_X2 (by decide) rfl w_107 dX2_free_92 ?_
        refine xx_aload_n C 96 rfl 0 dX2_free_95 rfl rfl ?_
        refine xx_geti (fi := 13) (j := 13) C 99 rfl (by decide) (ceX_0 _ _ _) rfl in_X2 (by decide) rfl w_129 dX2_free_96 h (fun v96 h => ?_)
        refine xx_bipush C 101 rfl dX2_free_99 (by decide) ?_
        refine xx_cSip (As := [.int (iI v96), .int (iI 12)]) (st := [.ref (ad 7)]) C 104 rfl  ca_J9_floorMod_7cf53 cs_J9_floorMod_7cf53 w_575 rfl ⟨Nat.le_of_ble_eq_true rfl, Nat.le_of_ble_eq_true rfl⟩ ⟨Nat.le_of_ble_eq_true rfl, Nat.le_of_ble_eq_true rfl⟩ (Nat.le_of_ble_eq_true rfl) dX2_free_101 (fun v101 e9 => c_J9_floorMod_7cf53 _ _ _ v101 e9) h (fun v101 h => ?_) rfl
        refine xx_iload_n C 105 rfl 1 dX2_free_104 rfl rfl ?_
        refine xx_iastore C 106 rfl (by decide) (fun row => ceX_7 _ _ row) (by decide) dX2_free_105 h (fun μ105 h => ?_)
        refine xx_aload_n C 107 rfl 0 dX2_free_106 rfl rfl ?_
        refine xx_dup C 108 rfl dX2_free_107 rfl ?_
        refine xx_geti (fi := 13) (j := 13) C 111 rfl (by decide) (ceX_0 _ _ _) rfl in_X2 (by decide) rfl w_129 dX2_free_108 h (fun v108 h => ?_)
        refine xx_iconst C 112 rfl dX2_free_111 ?_
        refine xx_iadd C 113 rfl dX2_free_112 ?_
        refine xx_puti (fi := 13) (j := 13) C 116 rfl (by decide) (ceX_0 _ _ _) (puX_0_13 _ _ _ _) rfl in_X2 tyX2 tyX2_ok nmX2 (by decide) (Nat.le_of_ble_eq_true rfl) ⟨rfl, rfl⟩ w_129 dX2_free_113 h (fun μ113 h => ?_)
        exact xx_vret C E rfl ⟨Nat.le_of_ble_eq_true rfl, Nat.le_of_ble_eq_true rfl⟩ dX2_free_116 h
      · have L58 : ∀ (fu58 : Nat) (x2_58 : Int) (μ58 : mu_T), f_X2_free_L58 J91 a1 fu58 x2_58 μ58 = some μr → wx_ G X 151 ad (ceX G ad) μ58 0 0 58 [(0, .ref (ad 0)), (1, .int (iI a1)), (2, .int (iI x2_58))] [] := by
          intro fu58
          induction fu58 with
          | zero => intro x2_58 μ58 h; exact nn_ h
          | succ fu58 K58 =>
            intro x2_58 μ58 h
            rw [f_X2_free_L58] at h
            generalize f_X2_free_L58 J91 a1 fu58 = R58 at K58 h
            refine xx_iload_n C 59 rfl 2 dX2_free_58 rfl rfl ?_
            refine xx_aload_n C 60 rfl 0 dX2_free_59 rfl rfl ?_
            refine xx_getr (fi := 0) C 63 rfl (by decide) (ceX_0 _ _ _) rfl in_X2 (by decide) rfl w_83 dX2_free_60 ?_
            refine xx_alen (nA := 96) C 64 rfl (by decide) (fun row => ceX_1 _ _ row) dX2_free_63 ?_
            refine xx_icmp_ge (tgt := 91) C 67 rfl dX2_free_64 (by decide) h (fun h => ?_) (fun h => ?_)
            · refine xx_sub [0, 1] rfl ?_
              exact K91 μ58 h
            · refine xx_aload_n C 68 rfl 0 dX2_free_67 rfl rfl ?_
              refine xx_getr (fi := 0) C 71 rfl (by decide) (ceX_0 _ _ _) rfl in_X2 (by decide) rfl w_83 dX2_free_68 ?_
              refine xx_iload_n C 72 rfl 2 dX2_free_71 rfl rfl ?_
              refine xx_iaload C 73 rfl (by decide) (fun row => ceX_1 _ _ row) (by decide) dX2_free_72 h (fun v72 h => ?_)
              refine xx_iload_n C 74 rfl 1 dX2_free_73 rfl rfl ?_
              refine jn_r (fun J => ∀ (μ85 : mu_T), J μ85 = some μr → wx_ G X 151 ad (ceX G ad) μ85 0 0 85 [(0, .ref (ad 0)), (1, .int (iI a1)), (2, .int (iI x2_58))] []) h (fun μ85 h => ?_) (fun J85 K85 h => ?_)
              · refine xx_iincn C 88 rfl 2 (by decide) dX2_free_85 rfl h (fun n85 h => ?_)
                refine xx_lv (lv1 := [(2, .int (iI n85)), (0, .ref (ad 0)), (1, .int (iI a1))]) rfl ?_
                refine xx_goto C 58 dX2_free_88 (by decide) ?_
                refine xx_sub [1, 2, 0] rfl ?_
                exact K58 n85 μ85 h
              · refine xx_icmp_ne (tgt := 85) C 77 rfl dX2_free_74 (by decide) h (fun h => ?_) (fun h => ?_)
                · exact K85 μ58 h
                · refine xx_aload_n C 78 rfl 0 dX2_free_77 rfl rfl ?_
                  refine xx_getr (fi := 0) C 81 rfl (by decide) (ceX_0 _ _ _) rfl in_X2 (by decide) rfl w_83 dX2_free_78 ?_
                  refine xx_iload_n C 82 rfl 2 dX2_free_81 rfl rfl ?_
                  refine xx_bipush C 84 rfl dX2_free_82 (by decide) ?_
                  refine xx_iastore C 85 rfl (by decide) (fun row => ceX_1 _ _ row) (by decide) dX2_free_84 h (fun μ84 h => ?_)
                  exact K85 μ84 h
        refine xx_sub [1, 2, 0] rfl ?_
        exact L58 _ _ _ h
    · have L33 : ∀ (fu33 : Nat) (x2_33 : Int) (μ33 : mu_T), f_X2_free_L33 J56 a1 fu33 x2_33 μ33 = some μr → wx_ G X 151 ad (ceX G ad) μ33 0 0 33 [(0, .ref (ad 0)), (1, .int (iI a1)), (2, .int (iI x2_33))] [] := by
        intro fu33
        induction fu33 with
        | zero => intro x2_33 μ33 h; exact nn_ h
        | succ fu33 K33 =>
          intro x2_33 μ33 h
          rw [f_X2_free_L33] at h
          generalize f_X2_free_L33 J56 a1 fu33 = R33 at K33 h
          refine xx_iload_n C 34 rfl 2 dX2_free_33 rfl rfl ?_
          refine xx_iconst C 35 rfl dX2_free_34 ?_
          refine xx_icmp_ge (tgt := 56) C 38 rfl dX2_free_35 (by decide) h (fun h => ?_) (fun h => ?_)
          · refine xx_sub [0, 1] rfl ?_
            exact K56 μ33 h
          · refine xx_aload_n C 39 rfl 0 dX2_free_38 rfl rfl ?_
            refine xx_getr (fi := 0) C 42 rfl (by decide) (ceX_0 _ _ _) rfl in_X2 (by decide) rfl w_83 dX2_free_39 ?_
            refine xx_iload_n C 43 rfl 1 dX2_free_42 rfl rfl ?_
            refine xx_iconst C 44 rfl dX2_free_43 ?_
            refine xx_imul C 45 rfl dX2_free_44 ?_
            refine xx_iload_n C 46 rfl 2 dX2_free_45 rfl rfl ?_
            refine xx_iadd C 47 rfl dX2_free_46 ?_
            refine xx_bipush C 49 rfl dX2_free_47 (by decide) ?_
            refine xx_iastore C 50 rfl (by decide) (fun row => ceX_1 _ _ row) (by decide) dX2_free_49 h (fun μ49 h => ?_)
            refine xx_iincn C 53 rfl 2 (by decide) dX2_free_50 rfl h (fun n50 h => ?_)
            refine xx_lv (lv1 := [(2, .int (iI n50)), (0, .ref (ad 0)), (1, .int (iI a1))]) rfl ?_
            refine xx_goto C 33 dX2_free_53 (by decide) ?_
            refine xx_sub [1, 2, 0] rfl ?_
            exact K33 n50 μ49 h
      refine xx_sub [1, 2, 0] rfl ?_
      exact L33 _ _ _ h
  · exact xx_vret C E rfl ⟨Nat.le_of_ble_eq_true rfl, Nat.le_of_ble_eq_true rfl⟩ dX2_free_8 h

def f_X2_areUrns_o0o1_L8 (μ : mu_T) : Nat → Int → Option Int
  | 0, _ => none
  | fu8 + 1, x4_8 => lt_ x4_8 96
      (rd_ μ 1 96 x4_8 (fun v17 => jn_ (φ := Unit → Option Int) (fun _ => nm_ (x4_8 + 1) (fun n38 => (f_X2_areUrns_o0o1_L8 μ fu8) n38))
      (fun J38 => eq_ v17 (-15)
      (J38 ())
      (bd_ (f_X2_hasUrn μ v17) (fun v30 => eq_ v30 0
      (some 0)
      (J38 ()))))))
      (some 1)
def f_X2_areUrns_o0o1 (μ : mu_T)  : Option Int :=
  f_X2_areUrns_o0o1_L8 μ 20000 0
set_option maxHeartbeats 4000000 in
set_option maxRecDepth 100000 in
theorem c_X2_areUrns_o0o1 {G : gp_} {ad : Nat → Nat} (μ : mu_T)  (a : Int) (h : f_X2_areUrns_o0o1 μ  = some a) : mi_ yX2_areUrns cX2_areUrns 6 (some .boolean) ({ frames := 1, cells := 0, slots := 0, locals := 21 } : Room) G 151 ad (ceX G ad) [.ref (ad 0), .ref (ad 1)] μ a μ := by
  refine mi_in (own := "UrnHeap$Heap") (lv := [(0, .ref (ad 0)), (1, .ref (ad 1))]) (by decide) rfl rfl (Nat.le_of_ble_eq_true rfl) (fun X C E => ?_)
  unfold f_X2_areUrns_o0o1 at h
  refine xx_aload_n C 1 rfl 1 dX2_areUrns_0 rfl rfl ?_
  refine xx_astore_n (lv1 := [(2, .ref (ad 1)), (0, .ref (ad 0)), (1, .ref (ad 1))]) C 2 rfl (by decide) dX2_areUrns_1 rfl rfl ?_
  refine xx_aload_n C 3 rfl 0 dX2_areUrns_2 rfl rfl ?_
  refine xx_alen (nA := 96) C 4 rfl (by decide) (fun row => ceX_1 _ _ row) dX2_areUrns_3 ?_
  refine xx_istore_n (lv1 := [(3, .int (iI 96)), (2, .ref (ad 1)), (0, .ref (ad 0)), (1, .ref (ad 1))]) C 5 rfl (by decide) dX2_areUrns_4 rfl rfl ?_
  refine xx_iconst C 6 rfl dX2_areUrns_5 ?_
  refine xx_istore (lv1 := [(4, .int (iI 0)), (3, .int (iI 96)), (2, .ref (ad 1)), (0, .ref (ad 0)), (1, .ref (ad 1))]) C 8 rfl (by decide) dX2_areUrns_6 rfl ?_
  have L8 : ∀ (fu8 : Nat) (x4_8 : Int), f_X2_areUrns_o0o1_L8 μ fu8 x4_8 = some a → wx_ G X 151 ad (ceX G ad) μ 0 0 8 [(0, .ref (ad 0)), (2, .ref (ad 1)), (3, .int (iI 96)), (4, .int (iI x4_8))] [] := by
    intro fu8
    induction fu8 with
    | zero => intro x4_8 h; exact nn_ h
    | succ fu8 K8 =>
      intro x4_8 h
      rw [f_X2_areUrns_o0o1_L8] at h
      generalize f_X2_areUrns_o0o1_L8 μ fu8 = R8 at K8 h
      refine xx_iload C 10 rfl 3 dX2_areUrns_8 rfl ?_
      refine xx_iload_n C 11 rfl 2 dX2_areUrns_10 rfl rfl ?_
      refine xx_icmp_ge (tgt := 44) C 14 rfl dX2_areUrns_11 (by decide) h (fun h => ?_) (fun h => ?_)
      · refine xx_iconst C 45 rfl dX2_areUrns_44 ?_
        exact xx_zretl C E rfl rfl ⟨Nat.le_of_ble_eq_true rfl, Nat.le_of_ble_eq_true rfl⟩ dX2_areUrns_45 h
      · refine xx_aload_n C 15 rfl 1 dX2_areUrns_14 rfl rfl ?_
        refine xx_iload C 17 rfl 3 dX2_areUrns_15 rfl ?_
        refine xx_iaload C 18 rfl (by decide) (fun row => ceX_1 _ _ row) (by decide) dX2_areUrns_17 h (fun v17 h => ?_)
        refine xx_istore (lv1 := [(5, .int (iI v17)), (0, .ref (ad 0)), (2, .ref (ad 1)), (3, .int (iI 96)), (4, .int (iI x4_8))]) C 20 rfl (by decide) dX2_areUrns_18 rfl ?_
        refine xx_iload C 22 rfl 0 dX2_areUrns_20 rfl ?_
        refine xx_bipush C 24 rfl dX2_areUrns_22 (by decide) ?_
        refine jn_r (fun J => ∀ (_u : Unit), J _u = some a → wx_ G X 151 ad (ceX G ad) μ 0 0 38 [(0, .ref (ad 0)), (2, .ref (ad 1)), (3, .int (iI 96)), (4, .int (iI x4_8))] []) h (fun _ h => ?_) (fun J38 K38 h => ?_)
        · refine xx_iincn C 41 rfl 3 (by decide) dX2_areUrns_38 rfl h (fun n38 h => ?_)
          refine xx_lv (lv1 := [(4, .int (iI n38)), (0, .ref (ad 0)), (2, .ref (ad 1)), (3, .int (iI 96))]) rfl ?_
          refine xx_goto C 8 dX2_areUrns_41 (by decide) ?_
          refine xx_sub [1, 2, 3, 0] rfl ?_
          exact K8 n38 h
        · refine xx_icmp_eq (tgt := 38) C 27 rfl dX2_areUrns_24 (by decide) h (fun h => ?_) (fun h => ?_)
          · refine xx_sub [1, 2, 3, 4] rfl ?_
            exact K38 () h
          · refine xx_aload_n C 28 rfl 1 dX2_areUrns_27 rfl rfl ?_
            refine xx_iload C 30 rfl 0 dX2_areUrns_28 rfl ?_
            refine xx_cVip (As := [.int (iI v17)]) (st := []) (o := 0) C 33 rfl (by decide) (ceX_0 _ _ _) rfl rfl ca_X2_hasUrn cv_X2_hasUrn w_574 rfl ⟨Nat.le_of_ble_eq_true rfl, Nat.le_of_ble_eq_true rfl⟩ ⟨Nat.le_of_ble_eq_true rfl, Nat.le_of_ble_eq_true rfl⟩ (Nat.le_of_ble_eq_true rfl) dX2_areUrns_30 (fun v30 e9 => c_X2_hasUrn _ _ v30 e9) h (fun v30 h => ?_) rfl
            refine xx_if_ne (tgt := 38) C 36 rfl dX2_areUrns_33 (by decide) h (fun h => ?_) (fun h => ?_)
            · refine xx_sub [1, 2, 3, 4] rfl ?_
              exact K38 () h
            · refine xx_iconst C 37 rfl dX2_areUrns_36 ?_
              exact xx_zretl C E rfl rfl ⟨Nat.le_of_ble_eq_true rfl, Nat.le_of_ble_eq_true rfl⟩ dX2_areUrns_37 h
  refine xx_sub [3, 2, 1, 0] rfl ?_
  exact L8 _ _ h

def f_X2_areUrns_o0o2_L8 (μ : mu_T) : Nat → Int → Option Int
  | 0, _ => none
  | fu8 + 1, x4_8 => lt_ x4_8 24
      (rd_ μ 2 24 x4_8 (fun v17 => jn_ (φ := Unit → Option Int) (fun _ => nm_ (x4_8 + 1) (fun n38 => (f_X2_areUrns_o0o2_L8 μ fu8) n38))
      (fun J38 => eq_ v17 (-15)
      (J38 ())
      (bd_ (f_X2_hasUrn μ v17) (fun v30 => eq_ v30 0
      (some 0)
      (J38 ()))))))
      (some 1)
def f_X2_areUrns_o0o2 (μ : mu_T)  : Option Int :=
  f_X2_areUrns_o0o2_L8 μ 20000 0
set_option maxHeartbeats 4000000 in
set_option maxRecDepth 100000 in
theorem c_X2_areUrns_o0o2 {G : gp_} {ad : Nat → Nat} (μ : mu_T)  (a : Int) (h : f_X2_areUrns_o0o2 μ  = some a) : mi_ yX2_areUrns cX2_areUrns 6 (some .boolean) ({ frames := 1, cells := 0, slots := 0, locals := 21 } : Room) G 151 ad (ceX G ad) [.ref (ad 0), .ref (ad 2)] μ a μ := by
  refine mi_in (own := "UrnHeap$Heap") (lv := [(0, .ref (ad 0)), (1, .ref (ad 2))]) (by decide) rfl rfl (Nat.le_of_ble_eq_true rfl) (fun X C E => ?_)
  unfold f_X2_areUrns_o0o2 at h
  refine xx_aload_n C 1 rfl 1 dX2_areUrns_0 rfl rfl ?_
  refine xx_astore_n (lv1 := [(2, .ref (ad 2)), (0, .ref (ad 0)), (1, .ref (ad 2))]) C 2 rfl (by decide) dX2_areUrns_1 rfl rfl ?_
  refine xx_aload_n C 3 rfl 0 dX2_areUrns_2 rfl rfl ?_
  refine xx_alen (nA := 24) C 4 rfl (by decide) (fun row => ceX_2 _ _ row) dX2_areUrns_3 ?_
  refine xx_istore_n (lv1 := [(3, .int (iI 24)), (2, .ref (ad 2)), (0, .ref (ad 0)), (1, .ref (ad 2))]) C 5 rfl (by decide) dX2_areUrns_4 rfl rfl ?_
  refine xx_iconst C 6 rfl dX2_areUrns_5 ?_
  refine xx_istore (lv1 := [(4, .int (iI 0)), (3, .int (iI 24)), (2, .ref (ad 2)), (0, .ref (ad 0)), (1, .ref (ad 2))]) C 8 rfl (by decide) dX2_areUrns_6 rfl ?_
  have L8 : ∀ (fu8 : Nat) (x4_8 : Int), f_X2_areUrns_o0o2_L8 μ fu8 x4_8 = some a → wx_ G X 151 ad (ceX G ad) μ 0 0 8 [(0, .ref (ad 0)), (2, .ref (ad 2)), (3, .int (iI 24)), (4, .int (iI x4_8))] [] := by
    intro fu8
    induction fu8 with
    | zero => intro x4_8 h; exact nn_ h
    | succ fu8 K8 =>
      intro x4_8 h
      rw [f_X2_areUrns_o0o2_L8] at h
      generalize f_X2_areUrns_o0o2_L8 μ fu8 = R8 at K8 h
      refine xx_iload C 10 rfl 3 dX2_areUrns_8 rfl ?_
      refine xx_iload_n C 11 rfl 2 dX2_areUrns_10 rfl rfl ?_
      refine xx_icmp_ge (tgt := 44) C 14 rfl dX2_areUrns_11 (by decide) h (fun h => ?_) (fun h => ?_)
      · refine xx_iconst C 45 rfl dX2_areUrns_44 ?_
        exact xx_zretl C E rfl rfl ⟨Nat.le_of_ble_eq_true rfl, Nat.le_of_ble_eq_true rfl⟩ dX2_areUrns_45 h
      · refine xx_aload_n C 15 rfl 1 dX2_areUrns_14 rfl rfl ?_
        refine xx_iload C 17 rfl 3 dX2_areUrns_15 rfl ?_
        refine xx_iaload C 18 rfl (by decide) (fun row => ceX_2 _ _ row) (by decide) dX2_areUrns_17 h (fun v17 h => ?_)
        refine xx_istore (lv1 := [(5, .int (iI v17)), (0, .ref (ad 0)), (2, .ref (ad 2)), (3, .int (iI 24)), (4, .int (iI x4_8))]) C 20 rfl (by decide) dX2_areUrns_18 rfl ?_
        refine xx_iload C 22 rfl 0 dX2_areUrns_20 rfl ?_
        refine xx_bipush C 24 rfl dX2_areUrns_22 (by decide) ?_
        refine jn_r (fun J => ∀ (_u : Unit), J _u = some a → wx_ G X 151 ad (ceX G ad) μ 0 0 38 [(0, .ref (ad 0)), (2, .ref (ad 2)), (3, .int (iI 24)), (4, .int (iI x4_8))] []) h (fun _ h => ?_) (fun J38 K38 h => ?_)
        · refine xx_iincn C 41 rfl 3 (by decide) dX2_areUrns_38 rfl h (fun n38 h => ?_)
          refine xx_lv (lv1 := [(4, .int (iI n38)), (0, .ref (ad 0)), (2, .ref (ad 2)), (3, .int (iI 24))]) rfl ?_
          refine xx_goto C 8 dX2_areUrns_41 (by decide) ?_
          refine xx_sub [1, 2, 3, 0] rfl ?_
          exact K8 n38 h
        · refine xx_icmp_eq (tgt := 38) C 27 rfl dX2_areUrns_24 (by decide) h (fun h => ?_) (fun h => ?_)
          · refine xx_sub [1, 2, 3, 4] rfl ?_
            exact K38 () h
          · refine xx_aload_n C 28 rfl 1 dX2_areUrns_27 rfl rfl ?_
            refine xx_iload C 30 rfl 0 dX2_areUrns_28 rfl ?_
            refine xx_cVip (As := [.int (iI v17)]) (st := []) (o := 0) C 33 rfl (by decide) (ceX_0 _ _ _) rfl rfl ca_X2_hasUrn cv_X2_hasUrn w_574 rfl ⟨Nat.le_of_ble_eq_true rfl, Nat.le_of_ble_eq_true rfl⟩ ⟨Nat.le_of_ble_eq_true rfl, Nat.le_of_ble_eq_true rfl⟩ (Nat.le_of_ble_eq_true rfl) dX2_areUrns_30 (fun v30 e9 => c_X2_hasUrn _ _ v30 e9) h (fun v30 h => ?_) rfl
            refine xx_if_ne (tgt := 38) C 36 rfl dX2_areUrns_33 (by decide) h (fun h => ?_) (fun h => ?_)
            · refine xx_sub [1, 2, 3, 4] rfl ?_
              exact K38 () h
            · refine xx_iconst C 37 rfl dX2_areUrns_36 ?_
              exact xx_zretl C E rfl rfl ⟨Nat.le_of_ble_eq_true rfl, Nat.le_of_ble_eq_true rfl⟩ dX2_areUrns_37 h
  refine xx_sub [3, 2, 1, 0] rfl ?_
  exact L8 _ _ h

def f_X2_areUrns_o0o6_L8 (μ : mu_T) : Nat → Int → Option Int
  | 0, _ => none
  | fu8 + 1, x4_8 => lt_ x4_8 6
      (rd_ μ 6 6 x4_8 (fun v17 => jn_ (φ := Unit → Option Int) (fun _ => nm_ (x4_8 + 1) (fun n38 => (f_X2_areUrns_o0o6_L8 μ fu8) n38))
      (fun J38 => eq_ v17 (-15)
      (J38 ())
      (bd_ (f_X2_hasUrn μ v17) (fun v30 => eq_ v30 0
      (some 0)
      (J38 ()))))))
      (some 1)
def f_X2_areUrns_o0o6 (μ : mu_T)  : Option Int :=
  f_X2_areUrns_o0o6_L8 μ 20000 0
set_option maxHeartbeats 4000000 in
set_option maxRecDepth 100000 in
theorem c_X2_areUrns_o0o6 {G : gp_} {ad : Nat → Nat} (μ : mu_T)  (a : Int) (h : f_X2_areUrns_o0o6 μ  = some a) : mi_ yX2_areUrns cX2_areUrns 6 (some .boolean) ({ frames := 1, cells := 0, slots := 0, locals := 21 } : Room) G 151 ad (ceX G ad) [.ref (ad 0), .ref (ad 6)] μ a μ := by
  refine mi_in (own := "UrnHeap$Heap") (lv := [(0, .ref (ad 0)), (1, .ref (ad 6))]) (by decide) rfl rfl (Nat.le_of_ble_eq_true rfl) (fun X C E => ?_)
  unfold f_X2_areUrns_o0o6 at h
  refine xx_aload_n C 1 rfl 1 dX2_areUrns_0 rfl rfl ?_
  refine xx_astore_n (lv1 := [(2, .ref (ad 6)), (0, .ref (ad 0)), (1, .ref (ad 6))]) C 2 rfl (by decide) dX2_areUrns_1 rfl rfl ?_
  refine xx_aload_n C 3 rfl 0 dX2_areUrns_2 rfl rfl ?_
  refine xx_alen (nA := 6) C 4 rfl (by decide) (fun row => ceX_6 _ _ row) dX2_areUrns_3 ?_
  refine xx_istore_n (lv1 := [(3, .int (iI 6)), (2, .ref (ad 6)), (0, .ref (ad 0)), (1, .ref (ad 6))]) C 5 rfl (by decide) dX2_areUrns_4 rfl rfl ?_
  refine xx_iconst C 6 rfl dX2_areUrns_5 ?_
  refine xx_istore (lv1 := [(4, .int (iI 0)), (3, .int (iI 6)), (2, .ref (ad 6)), (0, .ref (ad 0)), (1, .ref (ad 6))]) C 8 rfl (by decide) dX2_areUrns_6 rfl ?_
  have L8 : ∀ (fu8 : Nat) (x4_8 : Int), f_X2_areUrns_o0o6_L8 μ fu8 x4_8 = some a → wx_ G X 151 ad (ceX G ad) μ 0 0 8 [(0, .ref (ad 0)), (2, .ref (ad 6)), (3, .int (iI 6)), (4, .int (iI x4_8))] [] := by
    intro fu8
    induction fu8 with
    | zero => intro x4_8 h; exact nn_ h
    | succ fu8 K8 =>
      intro x4_8 h
      rw [f_X2_areUrns_o0o6_L8] at h
      generalize f_X2_areUrns_o0o6_L8 μ fu8 = R8 at K8 h
      refine xx_iload C 10 rfl 3 dX2_areUrns_8 rfl ?_
      refine xx_iload_n C 11 rfl 2 dX2_areUrns_10 rfl rfl ?_
      refine xx_icmp_ge (tgt := 44) C 14 rfl dX2_areUrns_11 (by decide) h (fun h => ?_) (fun h => ?_)
      · refine xx_iconst C 45 rfl dX2_areUrns_44 ?_
        exact xx_zretl C E rfl rfl ⟨Nat.le_of_ble_eq_true rfl, Nat.le_of_ble_eq_true rfl⟩ dX2_areUrns_45 h
      · refine xx_aload_n C 15 rfl 1 dX2_areUrns_14 rfl rfl ?_
        refine xx_iload C 17 rfl 3 dX2_areUrns_15 rfl ?_
        refine xx_iaload C 18 rfl (by decide) (fun row => ceX_6 _ _ row) (by decide) dX2_areUrns_17 h (fun v17 h => ?_)
        refine xx_istore (lv1 := [(5, .int (iI v17)), (0, .ref (ad 0)), (2, .ref (ad 6)), (3, .int (iI 6)), (4, .int (iI x4_8))]) C 20 rfl (by decide) dX2_areUrns_18 rfl ?_
        refine xx_iload C 22 rfl 0 dX2_areUrns_20 rfl ?_
        refine xx_bipush C 24 rfl dX2_areUrns_22 (by decide) ?_
        refine jn_r (fun J => ∀ (_u : Unit), J _u = some a → wx_ G X 151 ad (ceX G ad) μ 0 0 38 [(0, .ref (ad 0)), (2, .ref (ad 6)), (3, .int (iI 6)), (4, .int (iI x4_8))] []) h (fun _ h => ?_) (fun J38 K38 h => ?_)
        · refine xx_iincn C 41 rfl 3 (by decide) dX2_areUrns_38 rfl h (fun n38 h => ?_)
          refine xx_lv (lv1 := [(4, .int (iI n38)), (0, .ref (ad 0)), (2, .ref (ad 6)), (3, .int (iI 6))]) rfl ?_
          refine xx_goto C 8 dX2_areUrns_41 (by decide) ?_
          refine xx_sub [1, 2, 3, 0] rfl ?_
          exact K8 n38 h
        · refine xx_icmp_eq (tgt := 38) C 27 rfl dX2_areUrns_24 (by decide) h (fun h => ?_) (fun h => ?_)
          · refine xx_sub [1, 2, 3, 4] rfl ?_
            exact K38 () h
          · refine xx_aload_n C 28 rfl 1 dX2_areUrns_27 rfl rfl ?_
            refine xx_iload C 30 rfl 0 dX2_areUrns_28 rfl ?_
            refine xx_cVip (As := [.int (iI v17)]) (st := []) (o := 0) C 33 rfl (by decide) (ceX_0 _ _ _) rfl rfl ca_X2_hasUrn cv_X2_hasUrn w_574 rfl ⟨Nat.le_of_ble_eq_true rfl, Nat.le_of_ble_eq_true rfl⟩ ⟨Nat.le_of_ble_eq_true rfl, Nat.le_of_ble_eq_true rfl⟩ (Nat.le_of_ble_eq_true rfl) dX2_areUrns_30 (fun v30 e9 => c_X2_hasUrn _ _ v30 e9) h (fun v30 h => ?_) rfl
            refine xx_if_ne (tgt := 38) C 36 rfl dX2_areUrns_33 (by decide) h (fun h => ?_) (fun h => ?_)
            · refine xx_sub [1, 2, 3, 4] rfl ?_
              exact K38 () h
            · refine xx_iconst C 37 rfl dX2_areUrns_36 ?_
              exact xx_zretl C E rfl rfl ⟨Nat.le_of_ble_eq_true rfl, Nat.le_of_ble_eq_true rfl⟩ dX2_areUrns_37 h
  refine xx_sub [3, 2, 1, 0] rfl ?_
  exact L8 _ _ h

def f_X2_hasBlackToWhite_L2 (μ : mu_T) : Nat → Int → Option Int
  | 0, _ => none
  | fu2 + 1, x1_2 => lt_ x1_2 96
      (dv_ x1_2 4 (fun v17 => rd_ μ 4 24 v17 (fun v18 => jn_ (φ := Unit → Option Int) (fun _ => nm_ (x1_2 + 1) (fun n38 => (f_X2_hasBlackToWhite_L2 μ fu2) n38))
      (fun J38 => eq_ v18 2
      (rd_ μ 1 96 x1_2 (fun v29 => bd_ (f_X2_isWhite μ v29) (fun v30 => eq_ v30 0
      (J38 ())
      (some 1))))
      (J38 ())))))
      (some 0)
def f_X2_hasBlackToWhite (μ : mu_T)  : Option Int :=
  f_X2_hasBlackToWhite_L2 μ 20000 0
set_option maxHeartbeats 4000000 in
set_option maxRecDepth 100000 in
theorem c_X2_hasBlackToWhite {G : gp_} {ad : Nat → Nat} (μ : mu_T)  (a : Int) (h : f_X2_hasBlackToWhite μ  = some a) : mi_ yX2_hasBlackToWhite cX2_hasBlackToWhite 2 (some .boolean) ({ frames := 1, cells := 0, slots := 0, locals := 21 } : Room) G 151 ad (ceX G ad) [.ref (ad 0)] μ a μ := by
  refine mi_in (own := "UrnHeap$Heap") (lv := [(0, .ref (ad 0))]) (by decide) rfl rfl (Nat.le_of_ble_eq_true rfl) (fun X C E => ?_)
  unfold f_X2_hasBlackToWhite at h
  refine xx_iconst C 1 rfl dX2_hasBlackToWhite_0 ?_
  refine xx_istore_n (lv1 := [(1, .int (iI 0)), (0, .ref (ad 0))]) C 2 rfl (by decide) dX2_hasBlackToWhite_1 rfl rfl ?_
  have L2 : ∀ (fu2 : Nat) (x1_2 : Int), f_X2_hasBlackToWhite_L2 μ fu2 x1_2 = some a → wx_ G X 151 ad (ceX G ad) μ 0 0 2 [(0, .ref (ad 0)), (1, .int (iI x1_2))] [] := by
    intro fu2
    induction fu2 with
    | zero => intro x1_2 h; exact nn_ h
    | succ fu2 K2 =>
      intro x1_2 h
      rw [f_X2_hasBlackToWhite_L2] at h
      generalize f_X2_hasBlackToWhite_L2 μ fu2 = R2 at K2 h
      refine xx_iload_n C 3 rfl 1 dX2_hasBlackToWhite_2 rfl rfl ?_
      refine xx_aload_n C 4 rfl 0 dX2_hasBlackToWhite_3 rfl rfl ?_
      refine xx_getr (fi := 0) C 7 rfl (by decide) (ceX_0 _ _ _) rfl in_X2 (by decide) rfl w_83 dX2_hasBlackToWhite_4 ?_
      refine xx_alen (nA := 96) C 8 rfl (by decide) (fun row => ceX_1 _ _ row) dX2_hasBlackToWhite_7 ?_
      refine xx_icmp_ge (tgt := 44) C 11 rfl dX2_hasBlackToWhite_8 (by decide) h (fun h => ?_) (fun h => ?_)
      · refine xx_iconst C 45 rfl dX2_hasBlackToWhite_44 ?_
        exact xx_zretl C E rfl rfl ⟨Nat.le_of_ble_eq_true rfl, Nat.le_of_ble_eq_true rfl⟩ dX2_hasBlackToWhite_45 h
      · refine xx_aload_n C 12 rfl 0 dX2_hasBlackToWhite_11 rfl rfl ?_
        refine xx_getr (fi := 3) C 15 rfl (by decide) (ceX_0 _ _ _) rfl in_X2 (by decide) rfl w_95 dX2_hasBlackToWhite_12 ?_
        refine xx_iload_n C 16 rfl 1 dX2_hasBlackToWhite_15 rfl rfl ?_
        refine xx_iconst C 17 rfl dX2_hasBlackToWhite_16 ?_
        refine xx_idiv C 18 rfl dX2_hasBlackToWhite_17 h (fun v17 h => ?_)
        refine xx_iaload C 19 rfl (by decide) (fun row => ceX_4 _ _ row) (by decide) dX2_hasBlackToWhite_18 h (fun v18 h => ?_)
        refine xx_iconst C 20 rfl dX2_hasBlackToWhite_19 ?_
        refine jn_r (fun J => ∀ (_u : Unit), J _u = some a → wx_ G X 151 ad (ceX G ad) μ 0 0 38 [(0, .ref (ad 0)), (1, .int (iI x1_2))] []) h (fun _ h => ?_) (fun J38 K38 h => ?_)
        · refine xx_iincn C 41 rfl 1 (by decide) dX2_hasBlackToWhite_38 rfl h (fun n38 h => ?_)
          refine xx_lv (lv1 := [(1, .int (iI n38)), (0, .ref (ad 0))]) rfl ?_
          refine xx_goto C 2 dX2_hasBlackToWhite_41 (by decide) ?_
          refine xx_sub [1, 0] rfl ?_
          exact K2 n38 h
        · refine xx_icmp_ne (tgt := 38) C 23 rfl dX2_hasBlackToWhite_20 (by decide) h (fun h => ?_) (fun h => ?_)
          · exact K38 () h
          · refine xx_aload_n C 24 rfl 0 dX2_hasBlackToWhite_23 rfl rfl ?_
            refine xx_aload_n C 25 rfl 0 dX2_hasBlackToWhite_24 rfl rfl ?_
            refine xx_getr (fi := 0) C 28 rfl (by decide) (ceX_0 _ _ _) rfl in_X2 (by decide) rfl w_83 dX2_hasBlackToWhite_25 ?_
            refine xx_iload_n C 29 rfl 1 dX2_hasBlackToWhite_28 rfl rfl ?_
            refine xx_iaload C 30 rfl (by decide) (fun row => ceX_1 _ _ row) (by decide) dX2_hasBlackToWhite_29 h (fun v29 h => ?_)
            refine xx_cVip (As := [.int (iI v29)]) (st := []) (o := 0) C 33 rfl (by decide) (ceX_0 _ _ _) rfl rfl ca_X2_isWhite cv_X2_isWhite w_468 rfl ⟨Nat.le_of_ble_eq_true rfl, Nat.le_of_ble_eq_true rfl⟩ ⟨Nat.le_of_ble_eq_true rfl, Nat.le_of_ble_eq_true rfl⟩ (Nat.le_of_ble_eq_true rfl) dX2_hasBlackToWhite_30 (fun v30 e9 => c_X2_isWhite _ _ v30 e9) h (fun v30 h => ?_) rfl
            refine xx_if_eq (tgt := 38) C 36 rfl dX2_hasBlackToWhite_33 (by decide) h (fun h => ?_) (fun h => ?_)
            · exact K38 () h
            · refine xx_iconst C 37 rfl dX2_hasBlackToWhite_36 ?_
              exact xx_zretl C E rfl rfl ⟨Nat.le_of_ble_eq_true rfl, Nat.le_of_ble_eq_true rfl⟩ dX2_hasBlackToWhite_37 h
  refine xx_sub [1, 0] rfl ?_
  exact L2 _ _ h

def f_X2_isSound (μ : mu_T)  : Option Int :=
  nm_ (μ 0 12) (fun v1 => bd_ (f_X2_urns μ) (fun v5 => nm_ (μ 0 13) (fun v9 => eq_ v1 (v5 + v9)
      (bd_ (f_X2_areUrns_o0o1 μ) (fun v21 => eq_ v21 0
      (some 0)
      (bd_ (f_X2_areUrns_o0o2 μ) (fun v32 => eq_ v32 0
      (some 0)
      (bd_ (f_X2_areUrns_o0o6 μ) (fun v43 => eq_ v43 0
      (some 0)
      (nm_ (μ 0 9) (fun v50 => eq_ v50 1
      (bd_ (f_X2_hasBlackToWhite μ) (fun v58 => eq_ v58 0
      (some 1)
      (some 0)))
      (some 1)))))))))
      (some 0))))
set_option maxHeartbeats 4000000 in
set_option maxRecDepth 100000 in
theorem c_X2_isSound {G : gp_} {ad : Nat → Nat} (μ : mu_T)  (a : Int) (h : f_X2_isSound μ  = some a) : mi_ yX2_isSound cX2_isSound 1 (some .boolean) ({ frames := 2, cells := 0, slots := 0, locals := 46 } : Room) G 151 ad (ceX G ad) [.ref (ad 0)] μ a μ := by
  refine mi_in (own := "UrnHeap$Heap") (lv := [(0, .ref (ad 0))]) (by decide) rfl rfl (Nat.le_of_ble_eq_true rfl) (fun X C E => ?_)
  unfold f_X2_isSound at h
  refine xx_aload_n C 1 rfl 0 dX2_isSound_0 rfl rfl ?_
  refine xx_geti (fi := 12) (j := 12) C 4 rfl (by decide) (ceX_0 _ _ _) rfl in_X2 (by decide) rfl w_126 dX2_isSound_1 h (fun v1 h => ?_)
  refine xx_aload_n C 5 rfl 0 dX2_isSound_4 rfl rfl ?_
  refine xx_cVip (As := []) (st := [.int (iI v1)]) (o := 0) C 8 rfl (by decide) (ceX_0 _ _ _) rfl rfl ca_X2_urns cv_X2_urns w_1128 rfl ⟨Nat.le_of_ble_eq_true rfl, Nat.le_of_ble_eq_true rfl⟩ ⟨Nat.le_of_ble_eq_true rfl, Nat.le_of_ble_eq_true rfl⟩ (Nat.le_of_ble_eq_true rfl) dX2_isSound_5 (fun v5 e9 => c_X2_urns _ v5 e9) h (fun v5 h => ?_) rfl
  refine xx_aload_n C 9 rfl 0 dX2_isSound_8 rfl rfl ?_
  refine xx_geti (fi := 13) (j := 13) C 12 rfl (by decide) (ceX_0 _ _ _) rfl in_X2 (by decide) rfl w_129 dX2_isSound_9 h (fun v9 h => ?_)
  refine xx_iadd C 13 rfl dX2_isSound_12 ?_
  refine xx_icmp_ne (tgt := 68) C 16 rfl dX2_isSound_13 (by decide) h (fun h => ?_) (fun h => ?_)
  · refine xx_iconst C 69 rfl dX2_isSound_68 ?_
    exact xx_zretl C E rfl rfl ⟨Nat.le_of_ble_eq_true rfl, Nat.le_of_ble_eq_true rfl⟩ dX2_isSound_69 h
  · refine xx_aload_n C 17 rfl 0 dX2_isSound_16 rfl rfl ?_
    refine xx_aload_n C 18 rfl 0 dX2_isSound_17 rfl rfl ?_
    refine xx_getr (fi := 0) C 21 rfl (by decide) (ceX_0 _ _ _) rfl in_X2 (by decide) rfl w_83 dX2_isSound_18 ?_
    refine xx_cVip (As := [.ref (ad 1)]) (st := []) (o := 0) C 24 rfl (by decide) (ceX_0 _ _ _) rfl rfl ca_X2_areUrns cv_X2_areUrns w_1129 rfl ⟨Nat.le_of_ble_eq_true rfl, Nat.le_of_ble_eq_true rfl⟩ ⟨Nat.le_of_ble_eq_true rfl, Nat.le_of_ble_eq_true rfl⟩ (Nat.le_of_ble_eq_true rfl) dX2_isSound_21 (fun v21 e9 => c_X2_areUrns_o0o1 _ v21 e9) h (fun v21 h => ?_) rfl
    refine xx_if_eq (tgt := 68) C 27 rfl dX2_isSound_24 (by decide) h (fun h => ?_) (fun h => ?_)
    · refine xx_iconst C 69 rfl dX2_isSound_68 ?_
      exact xx_zretl C E rfl rfl ⟨Nat.le_of_ble_eq_true rfl, Nat.le_of_ble_eq_true rfl⟩ dX2_isSound_69 h
    · refine xx_aload_n C 28 rfl 0 dX2_isSound_27 rfl rfl ?_
      refine xx_aload_n C 29 rfl 0 dX2_isSound_28 rfl rfl ?_
      refine xx_getr (fi := 1) C 32 rfl (by decide) (ceX_0 _ _ _) rfl in_X2 (by decide) rfl w_86 dX2_isSound_29 ?_
      refine xx_cVip (As := [.ref (ad 2)]) (st := []) (o := 0) C 35 rfl (by decide) (ceX_0 _ _ _) rfl rfl ca_X2_areUrns cv_X2_areUrns w_1129 rfl ⟨Nat.le_of_ble_eq_true rfl, Nat.le_of_ble_eq_true rfl⟩ ⟨Nat.le_of_ble_eq_true rfl, Nat.le_of_ble_eq_true rfl⟩ (Nat.le_of_ble_eq_true rfl) dX2_isSound_32 (fun v32 e9 => c_X2_areUrns_o0o2 _ v32 e9) h (fun v32 h => ?_) rfl
      refine xx_if_eq (tgt := 68) C 38 rfl dX2_isSound_35 (by decide) h (fun h => ?_) (fun h => ?_)
      · refine xx_iconst C 69 rfl dX2_isSound_68 ?_
        exact xx_zretl C E rfl rfl ⟨Nat.le_of_ble_eq_true rfl, Nat.le_of_ble_eq_true rfl⟩ dX2_isSound_69 h
      · refine xx_aload_n C 39 rfl 0 dX2_isSound_38 rfl rfl ?_
        refine xx_aload_n C 40 rfl 0 dX2_isSound_39 rfl rfl ?_
        refine xx_getr (fi := 5) C 43 rfl (by decide) (ceX_0 _ _ _) rfl in_X2 (by decide) rfl w_102 dX2_isSound_40 ?_
        refine xx_cVip (As := [.ref (ad 6)]) (st := []) (o := 0) C 46 rfl (by decide) (ceX_0 _ _ _) rfl rfl ca_X2_areUrns cv_X2_areUrns w_1129 rfl ⟨Nat.le_of_ble_eq_true rfl, Nat.le_of_ble_eq_true rfl⟩ ⟨Nat.le_of_ble_eq_true rfl, Nat.le_of_ble_eq_true rfl⟩ (Nat.le_of_ble_eq_true rfl) dX2_isSound_43 (fun v43 e9 => c_X2_areUrns_o0o6 _ v43 e9) h (fun v43 h => ?_) rfl
        refine xx_if_eq (tgt := 68) C 49 rfl dX2_isSound_46 (by decide) h (fun h => ?_) (fun h => ?_)
        · refine xx_iconst C 69 rfl dX2_isSound_68 ?_
          exact xx_zretl C E rfl rfl ⟨Nat.le_of_ble_eq_true rfl, Nat.le_of_ble_eq_true rfl⟩ dX2_isSound_69 h
        · refine xx_aload_n C 50 rfl 0 dX2_isSound_49 rfl rfl ?_
          refine xx_geti (fi := 9) (j := 9) C 53 rfl (by decide) (ceX_0 _ _ _) rfl in_X2 (by decide) rfl w_114 dX2_isSound_50 h (fun v50 h => ?_)
          refine xx_iconst C 54 rfl dX2_isSound_53 ?_
          refine xx_icmp_ne (tgt := 64) C 57 rfl dX2_isSound_54 (by decide) h (fun h => ?_) (fun h => ?_)
          · refine xx_iconst C 65 rfl dX2_isSound_64 ?_
            refine xx_goto C 69 dX2_isSound_65 (by decide) ?_
            exact xx_zretl C E rfl rfl ⟨Nat.le_of_ble_eq_true rfl, Nat.le_of_ble_eq_true rfl⟩ dX2_isSound_69 h
          · refine xx_aload_n C 58 rfl 0 dX2_isSound_57 rfl rfl ?_
            refine xx_cVip (As := []) (st := []) (o := 0) C 61 rfl (by decide) (ceX_0 _ _ _) rfl rfl ca_X2_hasBlackToWhite cv_X2_hasBlackToWhite w_1133 rfl ⟨Nat.le_of_ble_eq_true rfl, Nat.le_of_ble_eq_true rfl⟩ ⟨Nat.le_of_ble_eq_true rfl, Nat.le_of_ble_eq_true rfl⟩ (Nat.le_of_ble_eq_true rfl) dX2_isSound_58 (fun v58 e9 => c_X2_hasBlackToWhite _ v58 e9) h (fun v58 h => ?_) rfl
            refine xx_if_ne (tgt := 68) C 64 rfl dX2_isSound_61 (by decide) h (fun h => ?_) (fun h => ?_)
            · refine xx_iconst C 69 rfl dX2_isSound_68 ?_
              exact xx_zretl C E rfl rfl ⟨Nat.le_of_ble_eq_true rfl, Nat.le_of_ble_eq_true rfl⟩ dX2_isSound_69 h
            · refine xx_iconst C 65 rfl dX2_isSound_64 ?_
              refine xx_goto C 69 dX2_isSound_65 (by decide) ?_
              exact xx_zretl C E rfl rfl ⟨Nat.le_of_ble_eq_true rfl, Nat.le_of_ble_eq_true rfl⟩ dX2_isSound_69 h

def f_X3_isRefusal (μ : mu_T) (a0 : Int) : Option Int :=
  eq_ a0 (-11)
      (some 1)
      (eq_ a0 (-12)
      (some 1)
      (eq_ a0 (-14)
      (some 1)
      (some 0)))
set_option maxHeartbeats 4000000 in
set_option maxRecDepth 100000 in
theorem c_X3_isRefusal {G : gp_} {ad : Nat → Nat} (μ : mu_T) (a0 : Int) (a : Int) (h : f_X3_isRefusal μ a0 = some a) : mi_ yX3_isRefusal cX3_isRefusal 1 (some .boolean) ({ frames := 0, cells := 0, slots := 0, locals := 0 } : Room) G 151 ad (ceX G ad) [.int (iI a0)] μ a μ := by
  refine mi_in (own := "UrnHeap$History") (lv := [(0, .int (iI a0))]) (by decide) rfl rfl (Nat.le_of_ble_eq_true rfl) (fun X C E => ?_)
  unfold f_X3_isRefusal at h
  refine xx_iload_n C 1 rfl 0 dX3_isRefusal_0 rfl rfl ?_
  refine xx_bipush C 3 rfl dX3_isRefusal_1 (by decide) ?_
  refine xx_icmp_eq (tgt := 18) C 6 rfl dX3_isRefusal_3 (by decide) h (fun h => ?_) (fun h => ?_)
  · refine xx_iconst C 19 rfl dX3_isRefusal_18 ?_
    refine xx_goto C 23 dX3_isRefusal_19 (by decide) ?_
    exact xx_zretl C E rfl rfl ⟨Nat.le_of_ble_eq_true rfl, Nat.le_of_ble_eq_true rfl⟩ dX3_isRefusal_23 h
  · refine xx_iload_n C 7 rfl 0 dX3_isRefusal_6 rfl rfl ?_
    refine xx_bipush C 9 rfl dX3_isRefusal_7 (by decide) ?_
    refine xx_icmp_eq (tgt := 18) C 12 rfl dX3_isRefusal_9 (by decide) h (fun h => ?_) (fun h => ?_)
    · refine xx_iconst C 19 rfl dX3_isRefusal_18 ?_
      refine xx_goto C 23 dX3_isRefusal_19 (by decide) ?_
      exact xx_zretl C E rfl rfl ⟨Nat.le_of_ble_eq_true rfl, Nat.le_of_ble_eq_true rfl⟩ dX3_isRefusal_23 h
    · refine xx_iload_n C 13 rfl 0 dX3_isRefusal_12 rfl rfl ?_
      refine xx_bipush C 15 rfl dX3_isRefusal_13 (by decide) ?_
      refine xx_icmp_ne (tgt := 22) C 18 rfl dX3_isRefusal_15 (by decide) h (fun h => ?_) (fun h => ?_)
      · refine xx_iconst C 23 rfl dX3_isRefusal_22 ?_
        exact xx_zretl C E rfl rfl ⟨Nat.le_of_ble_eq_true rfl, Nat.le_of_ble_eq_true rfl⟩ dX3_isRefusal_23 h
      · refine xx_iconst C 19 rfl dX3_isRefusal_18 ?_
        refine xx_goto C 23 dX3_isRefusal_19 (by decide) ?_
        exact xx_zretl C E rfl rfl ⟨Nat.le_of_ble_eq_true rfl, Nat.le_of_ble_eq_true rfl⟩ dX3_isRefusal_23 h

def f_X3_copyAtNext (μ : mu_T)  : Option Int :=
  nm_ (μ 138 4) (fun v1 => lt_ v1 0
      (none)
      (nm_ (μ 138 4) (fun v8 => lt_ v8 9
      (nm_ (μ 138 4) (fun v24 => gd_ (0 ≤ v24 ∧ v24 < 9) (some v24)))
      (none))))
set_option maxHeartbeats 4000000 in
set_option maxRecDepth 100000 in
theorem c_X3_copyAtNext {G : gp_} {ad : Nat → Nat} (μ : mu_T)  (a : Int) (h : f_X3_copyAtNext μ  = some a) : mr_ yX3_copyAtNext cX3_copyAtNext 1 (some (.object "UrnHeap$Heap")) ({ frames := 0, cells := 0, slots := 0, locals := 0 } : Room) G 151 ad (ceX G ad) [.ref (ad 138)] μ (12 * (a.toNat + 1) + 0) := by
  refine mr_in (own := "UrnHeap$History") (lv := [(0, .ref (ad 138))]) (by decide) rfl rfl (Nat.le_of_ble_eq_true rfl) (fun X C E => ?_)
  unfold f_X3_copyAtNext at h
  refine xx_aload_n C 1 rfl 0 dX3_copyAtNext_0 rfl rfl ?_
  refine xx_geti (fi := 4) (j := 4) C 4 rfl (by decide) (ceX_138 _ _ _) rfl in_X3 (by decide) rfl w_241 dX3_copyAtNext_1 h (fun v1 h => ?_)
  refine xx_if_lt (tgt := 31) C 7 rfl dX3_copyAtNext_4 (by decide) h (fun h => ?_) (fun h => ?_)
  · exact nn_ h
  · refine xx_aload_n C 8 rfl 0 dX3_copyAtNext_7 rfl rfl ?_
    refine xx_geti (fi := 4) (j := 4) C 11 rfl (by decide) (ceX_138 _ _ _) rfl in_X3 (by decide) rfl w_241 dX3_copyAtNext_8 h (fun v8 h => ?_)
    refine xx_aload_n C 12 rfl 0 dX3_copyAtNext_11 rfl rfl ?_
    refine xx_getr (fi := 1) C 15 rfl (by decide) (ceX_138 _ _ _) rfl in_X3 (by decide) rfl w_238 dX3_copyAtNext_12 ?_
    refine xx_plen (nA := 9) C 16 rfl (by decide) (fun row => ceX_139 _ _ row) dX3_copyAtNext_15 ?_
    refine xx_icmp_ge (tgt := 31) C 19 rfl dX3_copyAtNext_16 (by decide) h (fun h => ?_) (fun h => ?_)
    · exact nn_ h
    · refine xx_aload_n C 20 rfl 0 dX3_copyAtNext_19 rfl rfl ?_
      refine xx_getr (fi := 1) C 23 rfl (by decide) (ceX_138 _ _ _) rfl in_X3 (by decide) rfl w_238 dX3_copyAtNext_20 ?_
      refine xx_aload_n C 24 rfl 0 dX3_copyAtNext_23 rfl rfl ?_
      refine xx_geti (fi := 4) (j := 4) C 27 rfl (by decide) (ceX_138 _ _ _) rfl in_X3 (by decide) rfl w_241 dX3_copyAtNext_24 h (fun v24 h => ?_)
      refine xx_aldp C 28 rfl (by decide) (fun row => ceX_139 _ _ row) (by decide) dX3_copyAtNext_27 h (fun h27 h => ?_)
      refine xx_goto C 32 dX3_copyAtNext_28 (by decide) ?_
      exact xx_aretp C E rfl ⟨Nat.le_of_ble_eq_true rfl, Nat.le_of_ble_eq_true rfl⟩ dX3_copyAtNext_32 h

def f_X9_copyFrom_h8h8 (μ : mu_T) (i0 : Nat) (i1 : Nat) : Option mu_T :=
  ac_ μ (12 * i1 + 9) 24 0 (12 * i0 + 9) 24 0 24 (fun μ12 => nm_ (μ12 (12 * i1 + 8) 1) (fun v17 => wf_ μ12 (12 * i0 + 8) 1 v17 (fun μ20 => some μ20)))
set_option maxHeartbeats 4000000 in
set_option maxRecDepth 100000 in
theorem c_X9_copyFrom_h8h8 {G : gp_} {ad : Nat → Nat} (μ : mu_T) (i0 : Nat) (hi0 : i0 < 11) (i1 : Nat) (hi1 : i1 < 11) (μr : mu_T) (h : f_X9_copyFrom_h8h8 μ i0 i1 = some μr) : mv_ yX9_copyFrom cX9_copyFrom 2 ({ frames := 1, cells := 0, slots := 0, locals := 18 } : Room) G 151 ad (ceX G ad) [.ref (ad (12 * i0 + 8)), .ref (ad (12 * i1 + 8))] μ μr := by
  refine mv_in (own := "UrnHeap$Row") (lv := [(0, .ref (ad (12 * i0 + 8))), (1, .ref (ad (12 * i1 + 8)))]) (by decide) rfl rfl (Nat.le_of_ble_eq_true rfl) (fun X C E => ?_)
  unfold f_X9_copyFrom_h8h8 at h
  refine xx_aload_n C 1 rfl 1 dX9_copyFrom_0 rfl rfl ?_
  refine xx_getr (fi := 0) C 4 rfl (by omega) (ceXh_8 _ _ _ i1 (by omega)) rfl in_X9 (by decide) rfl w_70 dX9_copyFrom_1 ?_
  refine xx_iconst C 5 rfl dX9_copyFrom_4 ?_
  refine xx_aload_n C 6 rfl 0 dX9_copyFrom_5 rfl rfl ?_
  refine xx_getr (fi := 0) C 9 rfl (by omega) (ceXh_8 _ _ _ i0 (by omega)) rfl in_X9 (by decide) rfl w_70 dX9_copyFrom_6 ?_
  refine xx_iconst C 10 rfl dX9_copyFrom_9 ?_
  refine xx_bipush C 12 rfl dX9_copyFrom_10 (by decide) ?_
  refine xx_acopy C 15 rfl (by omega) (fun row => ceXh_9 _ _ row i1 (by omega)) (by omega) (fun row => ceXh_9 _ _ row i0 (by omega)) (by decide) ⟨w_426, w_421, w_420, w_40⟩ ⟨Nat.le_of_ble_eq_true rfl, Nat.le_of_ble_eq_true rfl⟩ dX9_copyFrom_12 h (fun μ12 h => ?_)
  refine xx_aload_n C 16 rfl 0 dX9_copyFrom_15 rfl rfl ?_
  refine xx_aload_n C 17 rfl 1 dX9_copyFrom_16 rfl rfl ?_
  refine xx_geti (fi := 1) (j := 1) C 20 rfl (by omega) (ceXh_8 _ _ _ i1 (by omega)) rfl in_X9 (by decide) rfl w_71 dX9_copyFrom_17 h (fun v17 h => ?_)
  refine xx_puti (fi := 1) (j := 1) C 23 rfl (by omega) (ceXh_8 _ _ _ i0 (by omega)) (puXh_8_1 _ _ _ _ i0 (by omega)) rfl in_X9 tyX9 tyX9_ok nmX9 (by decide) (Nat.le_of_ble_eq_true rfl) ⟨rfl, rfl⟩ w_71 dX9_copyFrom_20 h (fun μ20 h => ?_)
  exact xx_vret C E rfl ⟨Nat.le_of_ble_eq_true rfl, Nat.le_of_ble_eq_true rfl⟩ dX9_copyFrom_23 h

def f_X9_copyFrom_h10h10 (μ : mu_T) (i0 : Nat) (i1 : Nat) : Option mu_T :=
  ac_ μ (12 * i1 + 11) 24 0 (12 * i0 + 11) 24 0 24 (fun μ12 => nm_ (μ12 (12 * i1 + 10) 1) (fun v17 => wf_ μ12 (12 * i0 + 10) 1 v17 (fun μ20 => some μ20)))
set_option maxHeartbeats 4000000 in
set_option maxRecDepth 100000 in
theorem c_X9_copyFrom_h10h10 {G : gp_} {ad : Nat → Nat} (μ : mu_T) (i0 : Nat) (hi0 : i0 < 11) (i1 : Nat) (hi1 : i1 < 11) (μr : mu_T) (h : f_X9_copyFrom_h10h10 μ i0 i1 = some μr) : mv_ yX9_copyFrom cX9_copyFrom 2 ({ frames := 1, cells := 0, slots := 0, locals := 18 } : Room) G 151 ad (ceX G ad) [.ref (ad (12 * i0 + 10)), .ref (ad (12 * i1 + 10))] μ μr := by
  refine mv_in (own := "UrnHeap$Row") (lv := [(0, .ref (ad (12 * i0 + 10))), (1, .ref (ad (12 * i1 + 10)))]) (by decide) rfl rfl (Nat.le_of_ble_eq_true rfl) (fun X C E => ?_)
  unfold f_X9_copyFrom_h10h10 at h
  refine xx_aload_n C 1 rfl 1 dX9_copyFrom_0 rfl rfl ?_
  refine xx_getr (fi := 0) C 4 rfl (by omega) (ceXh_10 _ _ _ i1 (by omega)) rfl in_X9 (by decide) rfl w_70 dX9_copyFrom_1 ?_
  refine xx_iconst C 5 rfl dX9_copyFrom_4 ?_
  refine xx_aload_n C 6 rfl 0 dX9_copyFrom_5 rfl rfl ?_
  refine xx_getr (fi := 0) C 9 rfl (by omega) (ceXh_10 _ _ _ i0 (by omega)) rfl in_X9 (by decide) rfl w_70 dX9_copyFrom_6 ?_
  refine xx_iconst C 10 rfl dX9_copyFrom_9 ?_
  refine xx_bipush C 12 rfl dX9_copyFrom_10 (by decide) ?_
  refine xx_acopy C 15 rfl (by omega) (fun row => ceXh_11 _ _ row i1 (by omega)) (by omega) (fun row => ceXh_11 _ _ row i0 (by omega)) (by decide) ⟨w_426, w_421, w_420, w_40⟩ ⟨Nat.le_of_ble_eq_true rfl, Nat.le_of_ble_eq_true rfl⟩ dX9_copyFrom_12 h (fun μ12 h => ?_)
  refine xx_aload_n C 16 rfl 0 dX9_copyFrom_15 rfl rfl ?_
  refine xx_aload_n C 17 rfl 1 dX9_copyFrom_16 rfl rfl ?_
  refine xx_geti (fi := 1) (j := 1) C 20 rfl (by omega) (ceXh_10 _ _ _ i1 (by omega)) rfl in_X9 (by decide) rfl w_71 dX9_copyFrom_17 h (fun v17 h => ?_)
  refine xx_puti (fi := 1) (j := 1) C 23 rfl (by omega) (ceXh_10 _ _ _ i0 (by omega)) (puXh_10_1 _ _ _ _ i0 (by omega)) rfl in_X9 tyX9 tyX9_ok nmX9 (by decide) (Nat.le_of_ble_eq_true rfl) ⟨rfl, rfl⟩ w_71 dX9_copyFrom_20 h (fun μ20 h => ?_)
  exact xx_vret C E rfl ⟨Nat.le_of_ble_eq_true rfl, Nat.le_of_ble_eq_true rfl⟩ dX9_copyFrom_23 h

def f_X2_copyFrom_h0h0 (μ : mu_T) (i0 : Nat) (i1 : Nat) : Option mu_T :=
  ac_ μ (12 * i1 + 1) 96 0 (12 * i0 + 1) 96 0 96 (fun μ12 => ac_ μ12 (12 * i1 + 2) 24 0 (12 * i0 + 2) 24 0 24 (fun μ27 => ac_ μ27 (12 * i1 + 3) 24 0 (12 * i0 + 3) 24 0 24 (fun μ42 => ac_ μ42 (12 * i1 + 4) 24 0 (12 * i0 + 4) 24 0 24 (fun μ57 => ac_ μ57 (12 * i1 + 5) 24 0 (12 * i0 + 5) 24 0 24 (fun μ72 => ac_ μ72 (12 * i1 + 6) 6 0 (12 * i0 + 6) 6 0 6 (fun μ87 => ac_ μ87 (12 * i1 + 7) 12 0 (12 * i0 + 7) 12 0 12 (fun μ102 => bd_ (f_X9_copyFrom_h8h8 μ102 i0 i1) (fun μ113 => bd_ (f_X9_copyFrom_h10h10 μ113 i0 i1) (fun μ124 => nm_ (μ124 (12 * i1 + 0) 9) (fun v129 => wf_ μ124 (12 * i0 + 0) 9 v129 (fun μ132 => nm_ (μ132 (12 * i1 + 0) 10) (fun v137 => wf_ μ132 (12 * i0 + 0) 10 v137 (fun μ140 => nm_ (μ140 (12 * i1 + 0) 11) (fun v145 => wf_ μ140 (12 * i0 + 0) 11 v145 (fun μ148 => nm_ (μ148 (12 * i1 + 0) 12) (fun v153 => wf_ μ148 (12 * i0 + 0) 12 v153 (fun μ156 => nm_ (μ156 (12 * i1 + 0) 13) (fun v161 => wf_ μ156 (12 * i0 + 0) 13 v161 (fun μ164 => nm_ (μ164 (12 * i1 + 0) 14) (fun v169 => wf_ μ164 (12 * i0 + 0) 14 v169 (fun μ172 => nm_ (μ172 (12 * i1 + 0) 15) (fun v177 => wf_ μ172 (12 * i0 + 0) 15 v177 (fun μ180 => nm_ (μ180 (12 * i1 + 0) 16) (fun v185 => wf_ μ180 (12 * i0 + 0) 16 v185 (fun μ188 => some μ188)))))))))))))))))))))))))
set_option maxHeartbeats 4000000 in
set_option maxRecDepth 100000 in
theorem c_X2_copyFrom_h0h0 {G : gp_} {ad : Nat → Nat} (μ : mu_T) (i0 : Nat) (hi0 : i0 < 11) (i1 : Nat) (hi1 : i1 < 11) (μr : mu_T) (h : f_X2_copyFrom_h0h0 μ i0 i1 = some μr) : mv_ yX2_copyFrom cX2_copyFrom 2 ({ frames := 2, cells := 0, slots := 0, locals := 39 } : Room) G 151 ad (ceX G ad) [.ref (ad (12 * i0 + 0)), .ref (ad (12 * i1 + 0))] μ μr := by
  refine mv_in (own := "UrnHeap$Heap") (lv := [(0, .ref (ad (12 * i0 + 0))), (1, .ref (ad (12 * i1 + 0)))]) (by decide) rfl rfl (Nat.le_of_ble_eq_true rfl) (fun X C E => ?_)
  unfold f_X2_copyFrom_h0h0 at h
  refine xx_aload_n C 1 rfl 1 dX2_copyFrom_0 rfl rfl ?_
  refine xx_getr (fi := 0) C 4 rfl (by omega) (ceXh_0 _ _ _ i1 (by omega)) rfl in_X2 (by decide) rfl w_83 dX2_copyFrom_1 ?_
  refine xx_iconst C 5 rfl dX2_copyFrom_4 ?_
  refine xx_aload_n C 6 rfl 0 dX2_copyFrom_5 rfl rfl ?_
  refine xx_getr (fi := 0) C 9 rfl (by omega) (ceXh_0 _ _ _ i0 (by omega)) rfl in_X2 (by decide) rfl w_83 dX2_copyFrom_6 ?_
  refine xx_iconst C 10 rfl dX2_copyFrom_9 ?_
  refine xx_bipush C 12 rfl dX2_copyFrom_10 (by decide) ?_
  refine xx_acopy C 15 rfl (by omega) (fun row => ceXh_1 _ _ row i1 (by omega)) (by omega) (fun row => ceXh_1 _ _ row i0 (by omega)) (by decide) ⟨w_419, w_421, w_420, w_40⟩ ⟨Nat.le_of_ble_eq_true rfl, Nat.le_of_ble_eq_true rfl⟩ dX2_copyFrom_12 h (fun μ12 h => ?_)
  refine xx_aload_n C 16 rfl 1 dX2_copyFrom_15 rfl rfl ?_
  refine xx_getr (fi := 1) C 19 rfl (by omega) (ceXh_0 _ _ _ i1 (by omega)) rfl in_X2 (by decide) rfl w_86 dX2_copyFrom_16 ?_
  refine xx_iconst C 20 rfl dX2_copyFrom_19 ?_
  refine xx_aload_n C 21 rfl 0 dX2_copyFrom_20 rfl rfl ?_
  refine xx_getr (fi := 1) C 24 rfl (by omega) (ceXh_0 _ _ _ i0 (by omega)) rfl in_X2 (by decide) rfl w_86 dX2_copyFrom_21 ?_
  refine xx_iconst C 25 rfl dX2_copyFrom_24 ?_
  refine xx_bipush C 27 rfl dX2_copyFrom_25 (by decide) ?_
  refine xx_acopy C 30 rfl (by omega) (fun row => ceXh_2 _ _ row i1 (by omega)) (by omega) (fun row => ceXh_2 _ _ row i0 (by omega)) (by decide) ⟨w_419, w_421, w_420, w_40⟩ ⟨Nat.le_of_ble_eq_true rfl, Nat.le_of_ble_eq_true rfl⟩ dX2_copyFrom_27 h (fun μ27 h => ?_)
  refine xx_aload_n C 31 rfl 1 dX2_copyFrom_30 rfl rfl ?_
  refine xx_getr (fi := 2) C 34 rfl (by omega) (ceXh_0 _ _ _ i1 (by omega)) rfl in_X2 (by decide) rfl w_90 dX2_copyFrom_31 ?_
  refine xx_iconst C 35 rfl dX2_copyFrom_34 ?_
  refine xx_aload_n C 36 rfl 0 dX2_copyFrom_35 rfl rfl ?_
  refine xx_getr (fi := 2) C 39 rfl (by omega) (ceXh_0 _ _ _ i0 (by omega)) rfl in_X2 (by decide) rfl w_90 dX2_copyFrom_36 ?_
  refine xx_iconst C 40 rfl dX2_copyFrom_39 ?_
  refine xx_bipush C 42 rfl dX2_copyFrom_40 (by decide) ?_
  refine xx_acopy C 45 rfl (by omega) (fun row => ceXh_3 _ _ row i1 (by omega)) (by omega) (fun row => ceXh_3 _ _ row i0 (by omega)) (by decide) ⟨w_419, w_421, w_420, w_40⟩ ⟨Nat.le_of_ble_eq_true rfl, Nat.le_of_ble_eq_true rfl⟩ dX2_copyFrom_42 h (fun μ42 h => ?_)
  refine xx_aload_n C 46 rfl 1 dX2_copyFrom_45 rfl rfl ?_
  refine xx_getr (fi := 3) C 49 rfl (by omega) (ceXh_0 _ _ _ i1 (by omega)) rfl in_X2 (by decide) rfl w_95 dX2_copyFrom_46 ?_
  refine xx_iconst C 50 rfl dX2_copyFrom_49 ?_
  refine xx_aload_n C 51 rfl 0 dX2_copyFrom_50 rfl rfl ?_
  refine xx_getr (fi := 3) C 54 rfl (by omega) (ceXh_0 _ _ _ i0 (by omega)) rfl in_X2 (by decide) rfl w_95 dX2_copyFrom_51 ?_
  refine xx_iconst C 55 rfl dX2_copyFrom_54 ?_
  refine xx_bipush C 57 rfl dX2_copyFrom_55 (by decide) ?_
  refine xx_acopy C 60 rfl (by omega) (fun row => ceXh_4 _ _ row i1 (by omega)) (by omega) (fun row => ceXh_4 _ _ row i0 (by omega)) (by decide) ⟨w_419, w_421, w_420, w_40⟩ ⟨Nat.le_of_ble_eq_true rfl, Nat.le_of_ble_eq_true rfl⟩ dX2_copyFrom_57 h (fun μ57 h => ?_)
  refine xx_aload_n C 61 rfl 1 dX2_copyFrom_60 rfl rfl ?_
  refine xx_getr (fi := 4) C 64 rfl (by omega) (ceXh_0 _ _ _ i1 (by omega)) rfl in_X2 (by decide) rfl w_99 dX2_copyFrom_61 ?_
  refine xx_iconst C 65 rfl dX2_copyFrom_64 ?_
  refine xx_aload_n C 66 rfl 0 dX2_copyFrom_65 rfl rfl ?_
  refine xx_getr (fi := 4) C 69 rfl (by omega) (ceXh_0 _ _ _ i0 (by omega)) rfl in_X2 (by decide) rfl w_99 dX2_copyFrom_66 ?_
  refine xx_iconst C 70 rfl dX2_copyFrom_69 ?_
  refine xx_bipush C 72 rfl dX2_copyFrom_70 (by decide) ?_
  refine xx_acopy C 75 rfl (by omega) (fun row => ceXh_5 _ _ row i1 (by omega)) (by omega) (fun row => ceXh_5 _ _ row i0 (by omega)) (by decide) ⟨w_419, w_421, w_420, w_40⟩ ⟨Nat.le_of_ble_eq_true rfl, Nat.le_of_ble_eq_true rfl⟩ dX2_copyFrom_72 h (fun μ72 h => ?_)
  refine xx_aload_n C 76 rfl 1 dX2_copyFrom_75 rfl rfl ?_
  refine xx_getr (fi := 5) C 79 rfl (by omega) (ceXh_0 _ _ _ i1 (by omega)) rfl in_X2 (by decide) rfl w_102 dX2_copyFrom_76 ?_
  refine xx_iconst C 80 rfl dX2_copyFrom_79 ?_
  refine xx_aload_n C 81 rfl 0 dX2_copyFrom_80 rfl rfl ?_
  refine xx_getr (fi := 5) C 84 rfl (by omega) (ceXh_0 _ _ _ i0 (by omega)) rfl in_X2 (by decide) rfl w_102 dX2_copyFrom_81 ?_
  refine xx_iconst C 85 rfl dX2_copyFrom_84 ?_
  refine xx_bipush C 87 rfl dX2_copyFrom_85 (by decide) ?_
  refine xx_acopy C 90 rfl (by omega) (fun row => ceXh_6 _ _ row i1 (by omega)) (by omega) (fun row => ceXh_6 _ _ row i0 (by omega)) (by decide) ⟨w_419, w_421, w_420, w_40⟩ ⟨Nat.le_of_ble_eq_true rfl, Nat.le_of_ble_eq_true rfl⟩ dX2_copyFrom_87 h (fun μ87 h => ?_)
  refine xx_aload_n C 91 rfl 1 dX2_copyFrom_90 rfl rfl ?_
  refine xx_getr (fi := 6) C 94 rfl (by omega) (ceXh_0 _ _ _ i1 (by omega)) rfl in_X2 (by decide) rfl w_107 dX2_copyFrom_91 ?_
  refine xx_iconst C 95 rfl dX2_copyFrom_94 ?_
  refine xx_aload_n C 96 rfl 0 dX2_copyFrom_95 rfl rfl ?_
  refine xx_getr (fi := 6) C 99 rfl (by omega) (ceXh_0 _ _ _ i0 (by omega)) rfl in_X2 (by decide) rfl w_107 dX2_copyFrom_96 ?_
  refine xx_iconst C 100 rfl dX2_copyFrom_99 ?_
  refine xx_bipush C 102 rfl dX2_copyFrom_100 (by decide) ?_
  refine xx_acopy C 105 rfl (by omega) (fun row => ceXh_7 _ _ row i1 (by omega)) (by omega) (fun row => ceXh_7 _ _ row i0 (by omega)) (by decide) ⟨w_419, w_421, w_420, w_40⟩ ⟨Nat.le_of_ble_eq_true rfl, Nat.le_of_ble_eq_true rfl⟩ dX2_copyFrom_102 h (fun μ102 h => ?_)
  refine xx_aload_n C 106 rfl 0 dX2_copyFrom_105 rfl rfl ?_
  refine xx_getr (fi := 7) C 109 rfl (by omega) (ceXh_0 _ _ _ i0 (by omega)) rfl in_X2 (by decide) rfl w_108 dX2_copyFrom_106 ?_
  refine xx_aload_n C 110 rfl 1 dX2_copyFrom_109 rfl rfl ?_
  refine xx_getr (fi := 7) C 113 rfl (by omega) (ceXh_0 _ _ _ i1 (by omega)) rfl in_X2 (by decide) rfl w_108 dX2_copyFrom_110 ?_
  refine xx_cVv (As := [.ref (ad (12 * i1 + 8))]) (st := []) (o := (12 * i0 + 8)) C 116 rfl (by omega) (ceXh_8 _ _ _ i0 (by omega)) rfl rfl ca_X9_copyFrom cv_X9_copyFrom w_422 rfl ⟨Nat.le_of_ble_eq_true rfl, Nat.le_of_ble_eq_true rfl⟩ ⟨Nat.le_of_ble_eq_true rfl, Nat.le_of_ble_eq_true rfl⟩ (Nat.le_of_ble_eq_true rfl) dX2_copyFrom_113 (fun μ113 e9 => c_X9_copyFrom_h8h8 _ i0 (by omega) i1 (by omega) μ113 e9) h (fun μ113 h => ?_) rfl
  refine xx_aload_n C 117 rfl 0 dX2_copyFrom_116 rfl rfl ?_
  refine xx_getr (fi := 8) C 120 rfl (by omega) (ceXh_0 _ _ _ i0 (by omega)) rfl in_X2 (by decide) rfl w_111 dX2_copyFrom_117 ?_
  refine xx_aload_n C 121 rfl 1 dX2_copyFrom_120 rfl rfl ?_
  refine xx_getr (fi := 8) C 124 rfl (by omega) (ceXh_0 _ _ _ i1 (by omega)) rfl in_X2 (by decide) rfl w_111 dX2_copyFrom_121 ?_
  refine xx_cVv (As := [.ref (ad (12 * i1 + 10))]) (st := []) (o := (12 * i0 + 10)) C 127 rfl (by omega) (ceXh_10 _ _ _ i0 (by omega)) rfl rfl ca_X9_copyFrom cv_X9_copyFrom w_422 rfl ⟨Nat.le_of_ble_eq_true rfl, Nat.le_of_ble_eq_true rfl⟩ ⟨Nat.le_of_ble_eq_true rfl, Nat.le_of_ble_eq_true rfl⟩ (Nat.le_of_ble_eq_true rfl) dX2_copyFrom_124 (fun μ124 e9 => c_X9_copyFrom_h10h10 _ i0 (by omega) i1 (by omega) μ124 e9) h (fun μ124 h => ?_) rfl
  refine xx_aload_n C 128 rfl 0 dX2_copyFrom_127 rfl rfl ?_
  refine xx_aload_n C 129 rfl 1 dX2_copyFrom_128 rfl rfl ?_
  refine xx_geti (fi := 9) (j := 9) C 132 rfl (by omega) (ceXh_0 _ _ _ i1 (by omega)) rfl in_X2 (by decide) rfl w_114 dX2_copyFrom_129 h (fun v129 h => ?_)
  refine xx_puti (fi := 9) (j := 9) C 135 rfl (by omega) (ceXh_0 _ _ _ i0 (by omega)) (puXh_0_9 _ _ _ _ i0 (by omega)) rfl in_X2 tyX2 tyX2_ok nmX2 (by decide) (Nat.le_of_ble_eq_true rfl) ⟨rfl, rfl⟩ w_114 dX2_copyFrom_132 h (fun μ132 h => ?_)
  refine xx_aload_n C 136 rfl 0 dX2_copyFrom_135 rfl rfl ?_
  refine xx_aload_n C 137 rfl 1 dX2_copyFrom_136 rfl rfl ?_
  refine xx_geti (fi := 10) (j := 10) C 140 rfl (by omega) (ceXh_0 _ _ _ i1 (by omega)) rfl in_X2 (by decide) rfl w_118 dX2_copyFrom_137 h (fun v137 h => ?_)
  refine xx_puti (fi := 10) (j := 10) C 143 rfl (by omega) (ceXh_0 _ _ _ i0 (by omega)) (puXh_0_10 _ _ _ _ i0 (by omega)) rfl in_X2 tyX2 tyX2_ok nmX2 (by decide) (Nat.le_of_ble_eq_true rfl) ⟨rfl, rfl⟩ w_118 dX2_copyFrom_140 h (fun μ140 h => ?_)
  refine xx_aload_n C 144 rfl 0 dX2_copyFrom_143 rfl rfl ?_
  refine xx_aload_n C 145 rfl 1 dX2_copyFrom_144 rfl rfl ?_
  refine xx_geti (fi := 11) (j := 11) C 148 rfl (by omega) (ceXh_0 _ _ _ i1 (by omega)) rfl in_X2 (by decide) rfl w_122 dX2_copyFrom_145 h (fun v145 h => ?_)
  refine xx_puti (fi := 11) (j := 11) C 151 rfl (by omega) (ceXh_0 _ _ _ i0 (by omega)) (puXh_0_11 _ _ _ _ i0 (by omega)) rfl in_X2 tyX2 tyX2_ok nmX2 (by decide) (Nat.le_of_ble_eq_true rfl) ⟨rfl, rfl⟩ w_122 dX2_copyFrom_148 h (fun μ148 h => ?_)
  refine xx_aload_n C 152 rfl 0 dX2_copyFrom_151 rfl rfl ?_
  refine xx_aload_n C 153 rfl 1 dX2_copyFrom_152 rfl rfl ?_
  refine xx_geti (fi := 12) (j := 12) C 156 rfl (by omega) (ceXh_0 _ _ _ i1 (by omega)) rfl in_X2 (by decide) rfl w_126 dX2_copyFrom_153 h (fun v153 h => ?_)
  refine xx_puti (fi := 12) (j := 12) C 159 rfl (by omega) (ceXh_0 _ _ _ i0 (by omega)) (puXh_0_12 _ _ _ _ i0 (by omega)) rfl in_X2 tyX2 tyX2_ok nmX2 (by decide) (Nat.le_of_ble_eq_true rfl) ⟨rfl, rfl⟩ w_126 dX2_copyFrom_156 h (fun μ156 h => ?_)
  refine xx_aload_n C 160 rfl 0 dX2_copyFrom_159 rfl rfl ?_
  refine xx_aload_n C 161 rfl 1 dX2_copyFrom_160 rfl rfl ?_
  refine xx_geti (fi := 13) (j := 13) C 164 rfl (by omega) (ceXh_0 _ _ _ i1 (by omega)) rfl in_X2 (by decide) rfl w_129 dX2_copyFrom_161 h (fun v161 h => ?_)
  refine xx_puti (fi := 13) (j := 13) C 167 rfl (by omega) (ceXh_0 _ _ _ i0 (by omega)) (puXh_0_13 _ _ _ _ i0 (by omega)) rfl in_X2 tyX2 tyX2_ok nmX2 (by decide) (Nat.le_of_ble_eq_true rfl) ⟨rfl, rfl⟩ w_129 dX2_copyFrom_164 h (fun μ164 h => ?_)
  refine xx_aload_n C 168 rfl 0 dX2_copyFrom_167 rfl rfl ?_
  refine xx_aload_n C 169 rfl 1 dX2_copyFrom_168 rfl rfl ?_
  refine xx_geti (fi := 14) (j := 14) C 172 rfl (by omega) (ceXh_0 _ _ _ i1 (by omega)) rfl in_X2 (by decide) rfl w_132 dX2_copyFrom_169 h (fun v169 h => ?_)
  refine xx_puti (fi := 14) (j := 14) C 175 rfl (by omega) (ceXh_0 _ _ _ i0 (by omega)) (puXh_0_14 _ _ _ _ i0 (by omega)) rfl in_X2 tyX2 tyX2_ok nmX2 (by decide) (Nat.le_of_ble_eq_true rfl) ⟨rfl, rfl⟩ w_132 dX2_copyFrom_172 h (fun μ172 h => ?_)
  refine xx_aload_n C 176 rfl 0 dX2_copyFrom_175 rfl rfl ?_
  refine xx_aload_n C 177 rfl 1 dX2_copyFrom_176 rfl rfl ?_
  refine xx_geti (fi := 15) (j := 15) C 180 rfl (by omega) (ceXh_0 _ _ _ i1 (by omega)) rfl in_X2 (by decide) rfl w_135 dX2_copyFrom_177 h (fun v177 h => ?_)
  refine xx_puti (fi := 15) (j := 15) C 183 rfl (by omega) (ceXh_0 _ _ _ i0 (by omega)) (puXh_0_15 _ _ _ _ i0 (by omega)) rfl in_X2 tyX2 tyX2_ok nmX2 (by decide) (Nat.le_of_ble_eq_true rfl) ⟨rfl, rfl⟩ w_135 dX2_copyFrom_180 h (fun μ180 h => ?_)
  refine xx_aload_n C 184 rfl 0 dX2_copyFrom_183 rfl rfl ?_
  refine xx_aload_n C 185 rfl 1 dX2_copyFrom_184 rfl rfl ?_
  refine xx_geti (fi := 16) (j := 16) C 188 rfl (by omega) (ceXh_0 _ _ _ i1 (by omega)) rfl in_X2 (by decide) rfl w_138 dX2_copyFrom_185 h (fun v185 h => ?_)
  refine xx_puti (fi := 16) (j := 16) C 191 rfl (by omega) (ceXh_0 _ _ _ i0 (by omega)) (puXh_0_16 _ _ _ _ i0 (by omega)) rfl in_X2 tyX2 tyX2_ok nmX2 (by decide) (Nat.le_of_ble_eq_true rfl) ⟨rfl, rfl⟩ w_138 dX2_copyFrom_188 h (fun μ188 h => ?_)
  exact xx_vret C E rfl ⟨Nat.le_of_ble_eq_true rfl, Nat.le_of_ble_eq_true rfl⟩ dX2_copyFrom_191 h

def f_X3_keepBefore (μ : mu_T)  : Option mu_T :=
  bd_ (f_X3_copyAtNext μ) (fun v1 => gd_ (0 ≤ v1 ∧ v1 < 9) (bd_ (f_X2_copyFrom_h0h0 μ (v1.toNat + 1) 0) (fun μ14 => some μ14)))
set_option maxHeartbeats 4000000 in
set_option maxRecDepth 100000 in
theorem c_X3_keepBefore {G : gp_} {ad : Nat → Nat} (μ : mu_T)  (μr : mu_T) (h : f_X3_keepBefore μ  = some μr) : mv_ yX3_keepBefore cX3_keepBefore 2 ({ frames := 3, cells := 0, slots := 0, locals := 60 } : Room) G 151 ad (ceX G ad) [.ref (ad 138)] μ μr := by
  refine mv_in (own := "UrnHeap$History") (lv := [(0, .ref (ad 138))]) (by decide) rfl rfl (Nat.le_of_ble_eq_true rfl) (fun X C E => ?_)
  unfold f_X3_keepBefore at h
  refine xx_aload_n C 1 rfl 0 dX3_keepBefore_0 rfl rfl ?_
  refine xx_cVrp (As := []) (st := []) (o := 138) C 4 rfl (by decide) (ceX_138 _ _ _) rfl rfl ca_X3_copyAtNext cv_X3_copyAtNext w_411 rfl ⟨Nat.le_of_ble_eq_true rfl, Nat.le_of_ble_eq_true rfl⟩ ⟨Nat.le_of_ble_eq_true rfl, Nat.le_of_ble_eq_true rfl⟩ (Nat.le_of_ble_eq_true rfl) dX3_keepBefore_1 (fun v1 e9 => c_X3_copyAtNext _ v1 e9) h (fun v1 h1 h => ?_) rfl
  refine xx_astore_n (lv1 := [(1, .ref (ad (12 * (v1.toNat + 1) + 0))), (0, .ref (ad 138))]) C 5 rfl (by decide) dX3_keepBefore_4 rfl rfl ?_
  refine xx_aload_n C 6 rfl 0 dX3_keepBefore_5 rfl rfl ?_
  refine xx_ifnull C 9 rfl dX3_keepBefore_6 ?_
  refine xx_aload_n C 10 rfl 0 dX3_keepBefore_9 rfl rfl ?_
  refine xx_aload_n C 11 rfl 1 dX3_keepBefore_10 rfl rfl ?_
  refine xx_getr (fi := 0) C 14 rfl (by decide) (ceX_138 _ _ _) rfl in_X3 (by decide) rfl w_237 dX3_keepBefore_11 ?_
  refine xx_cVv (As := [.ref (ad 0)]) (st := []) (o := (12 * (v1.toNat + 1) + 0)) C 17 rfl (by omega) (ceXh_0 _ _ _ (v1.toNat + 1) (by omega)) rfl rfl ca_X2_copyFrom cv_X2_copyFrom w_415 rfl ⟨Nat.le_of_ble_eq_true rfl, Nat.le_of_ble_eq_true rfl⟩ ⟨Nat.le_of_ble_eq_true rfl, Nat.le_of_ble_eq_true rfl⟩ (Nat.le_of_ble_eq_true rfl) dX3_keepBefore_14 (fun μ14 e9 => c_X2_copyFrom_h0h0 _ (v1.toNat + 1) (by omega) 0 (by omega) μ14 e9) h (fun μ14 h => ?_) rfl
  exact xx_vret C E rfl ⟨Nat.le_of_ble_eq_true rfl, Nat.le_of_ble_eq_true rfl⟩ dX3_keepBefore_17 h

def f_X3_takeBack (μ : mu_T)  : Option mu_T :=
  bd_ (f_X3_copyAtNext μ) (fun v1 => gd_ (0 ≤ v1 ∧ v1 < 9) (bd_ (f_X2_copyFrom_h0h0 μ 0 (v1.toNat + 1)) (fun μ14 => some μ14)))
set_option maxHeartbeats 4000000 in
set_option maxRecDepth 100000 in
theorem c_X3_takeBack {G : gp_} {ad : Nat → Nat} (μ : mu_T)  (μr : mu_T) (h : f_X3_takeBack μ  = some μr) : mv_ yX3_takeBack cX3_takeBack 2 ({ frames := 3, cells := 0, slots := 0, locals := 60 } : Room) G 151 ad (ceX G ad) [.ref (ad 138)] μ μr := by
  refine mv_in (own := "UrnHeap$History") (lv := [(0, .ref (ad 138))]) (by decide) rfl rfl (Nat.le_of_ble_eq_true rfl) (fun X C E => ?_)
  unfold f_X3_takeBack at h
  refine xx_aload_n C 1 rfl 0 dX3_takeBack_0 rfl rfl ?_
  refine xx_cVrp (As := []) (st := []) (o := 138) C 4 rfl (by decide) (ceX_138 _ _ _) rfl rfl ca_X3_copyAtNext cv_X3_copyAtNext w_411 rfl ⟨Nat.le_of_ble_eq_true rfl, Nat.le_of_ble_eq_true rfl⟩ ⟨Nat.le_of_ble_eq_true rfl, Nat.le_of_ble_eq_true rfl⟩ (Nat.le_of_ble_eq_true rfl) dX3_takeBack_1 (fun v1 e9 => c_X3_copyAtNext _ v1 e9) h (fun v1 h1 h => ?_) rfl
  refine xx_astore_n (lv1 := [(1, .ref (ad (12 * (v1.toNat + 1) + 0))), (0, .ref (ad 138))]) C 5 rfl (by decide) dX3_takeBack_4 rfl rfl ?_
  refine xx_aload_n C 6 rfl 0 dX3_takeBack_5 rfl rfl ?_
  refine xx_ifnull C 9 rfl dX3_takeBack_6 ?_
  refine xx_aload_n C 10 rfl 1 dX3_takeBack_9 rfl rfl ?_
  refine xx_getr (fi := 0) C 13 rfl (by decide) (ceX_138 _ _ _) rfl in_X3 (by decide) rfl w_237 dX3_takeBack_10 ?_
  refine xx_aload_n C 14 rfl 0 dX3_takeBack_13 rfl rfl ?_
  refine xx_cVv (As := [.ref (ad (12 * (v1.toNat + 1) + 0))]) (st := []) (o := 0) C 17 rfl (by decide) (ceX_0 _ _ _) rfl rfl ca_X2_copyFrom cv_X2_copyFrom w_415 rfl ⟨Nat.le_of_ble_eq_true rfl, Nat.le_of_ble_eq_true rfl⟩ ⟨Nat.le_of_ble_eq_true rfl, Nat.le_of_ble_eq_true rfl⟩ (Nat.le_of_ble_eq_true rfl) dX3_takeBack_14 (fun μ14 e9 => c_X2_copyFrom_h0h0 _ 0 (by omega) (v1.toNat + 1) (by omega) μ14 e9) h (fun μ14 h => ?_) rfl
  exact xx_vret C E rfl ⟨Nat.le_of_ble_eq_true rfl, Nat.le_of_ble_eq_true rfl⟩ dX3_takeBack_17 h

