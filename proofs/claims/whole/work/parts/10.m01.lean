theorem dX12_in_0 : decode cX12_in 0 = .ok (.iload_n 0, 1) := by decide +kernel
theorem dX12_in_1 : decode cX12_in 1 = .ok (.iload_n 1, 1) := by decide +kernel
theorem dX12_in_2 : decode cX12_in 2 = .ok (.if_icmp .lt 12, 3) := by decide +kernel
theorem dX12_in_5 : decode cX12_in 5 = .ok (.iload_n 0, 1) := by decide +kernel
theorem dX12_in_6 : decode cX12_in 6 = .ok (.iload_n 2, 1) := by decide +kernel
theorem dX12_in_7 : decode cX12_in 7 = .ok (.if_icmp .gt 7, 3) := by decide +kernel
theorem dX12_in_10 : decode cX12_in 10 = .ok (.iconst 1, 1) := by decide +kernel
theorem dX12_in_11 : decode cX12_in 11 = .ok (.goto 4, 3) := by decide +kernel
theorem dX12_in_14 : decode cX12_in 14 = .ok (.iconst 0, 1) := by decide +kernel
theorem dX12_in_15 : decode cX12_in 15 = .ok (.ireturn, 1) := by decide +kernel
theorem dX12_remembers_0 : decode cX12_remembers 0 = .ok (.iconst 0, 1) := by decide +kernel
theorem dX12_remembers_1 : decode cX12_remembers 1 = .ok (.istore_n 1, 1) := by decide +kernel
theorem dX12_remembers_2 : decode cX12_remembers 2 = .ok (.iload_n 1, 1) := by decide +kernel
theorem dX12_remembers_3 : decode cX12_remembers 3 = .ok (.sipush 293, 3) := by decide +kernel
theorem dX12_remembers_6 : decode cX12_remembers 6 = .ok (.if_icmp .ge 21, 3) := by decide +kernel
theorem dX12_remembers_9 : decode cX12_remembers 9 = .ok (.aload_n 0, 1) := by decide +kernel
theorem dX12_remembers_10 : decode cX12_remembers 10 = .ok (.getfield 13, 3) := by decide +kernel
theorem dX12_remembers_13 : decode cX12_remembers 13 = .ok (.iload_n 1, 1) := by decide +kernel
theorem dX12_remembers_14 : decode cX12_remembers 14 = .ok (.aload_n 0, 1) := by decide +kernel
theorem dX12_remembers_15 : decode cX12_remembers 15 = .ok (.getfield 7, 3) := by decide +kernel
theorem dX12_remembers_18 : decode cX12_remembers 18 = .ok (.iload_n 1, 1) := by decide +kernel
theorem dX12_remembers_19 : decode cX12_remembers 19 = .ok (.iaload, 1) := by decide +kernel
theorem dX12_remembers_20 : decode cX12_remembers 20 = .ok (.iastore, 1) := by decide +kernel
theorem dX12_remembers_21 : decode cX12_remembers 21 = .ok (.iinc 1 1, 3) := by decide +kernel
theorem dX12_remembers_24 : decode cX12_remembers 24 = .ok (.goto (-22), 3) := by decide +kernel
theorem dX12_remembers_27 : decode cX12_remembers 27 = .ok (.return_, 1) := by decide +kernel
theorem dX12_changed_0 : decode cX12_changed 0 = .ok (.aload_n 0, 1) := by decide +kernel
theorem dX12_changed_1 : decode cX12_changed 1 = .ok (.getfield 38, 3) := by decide +kernel
theorem dX12_changed_4 : decode cX12_changed 4 = .ok (.bipush 8, 2) := by decide +kernel
theorem dX12_changed_6 : decode cX12_changed 6 = .ok (.if_icmp .ne 37, 3) := by decide +kernel
theorem dX12_changed_9 : decode cX12_changed 9 = .ok (.iconst 0, 1) := by decide +kernel
theorem dX12_changed_10 : decode cX12_changed 10 = .ok (.istore_n 2, 1) := by decide +kernel
theorem dX12_changed_11 : decode cX12_changed 11 = .ok (.iload_n 2, 1) := by decide +kernel
theorem dX12_changed_12 : decode cX12_changed 12 = .ok (.sipush 2051, 3) := by decide +kernel
theorem dX12_changed_15 : decode cX12_changed 15 = .ok (.if_icmp .ge 25, 3) := by decide +kernel
theorem dX12_changed_18 : decode cX12_changed 18 = .ok (.aload_n 0, 1) := by decide +kernel
theorem dX12_changed_19 : decode cX12_changed 19 = .ok (.getfield 19, 3) := by decide +kernel
theorem dX12_changed_22 : decode cX12_changed 22 = .ok (.iload_n 2, 1) := by decide +kernel
theorem dX12_changed_23 : decode cX12_changed 23 = .ok (.aload_n 0, 1) := by decide +kernel
theorem dX12_changed_24 : decode cX12_changed 24 = .ok (.getfield 19, 3) := by decide +kernel
theorem dX12_changed_27 : decode cX12_changed 27 = .ok (.iload_n 2, 1) := by decide +kernel
theorem dX12_changed_28 : decode cX12_changed 28 = .ok (.sipush 293, 3) := by decide +kernel
theorem dX12_changed_31 : decode cX12_changed 31 = .ok (.iadd, 1) := by decide +kernel
theorem dX12_changed_32 : decode cX12_changed 32 = .ok (.iaload, 1) := by decide +kernel
theorem dX12_changed_33 : decode cX12_changed 33 = .ok (.iastore, 1) := by decide +kernel
theorem dX12_changed_34 : decode cX12_changed 34 = .ok (.iinc 2 1, 3) := by decide +kernel
theorem dX12_changed_37 : decode cX12_changed 37 = .ok (.goto (-26), 3) := by decide +kernel
theorem dX12_changed_40 : decode cX12_changed 40 = .ok (.goto 13, 3) := by decide +kernel
theorem dX12_changed_43 : decode cX12_changed 43 = .ok (.aload_n 0, 1) := by decide +kernel
theorem dX12_changed_44 : decode cX12_changed 44 = .ok (.dup, 1) := by decide +kernel
theorem dX12_changed_45 : decode cX12_changed 45 = .ok (.getfield 38, 3) := by decide +kernel
theorem dX12_changed_48 : decode cX12_changed 48 = .ok (.iconst 1, 1) := by decide +kernel
theorem dX12_changed_49 : decode cX12_changed 49 = .ok (.iadd, 1) := by decide +kernel
theorem dX12_changed_50 : decode cX12_changed 50 = .ok (.putfield 38, 3) := by decide +kernel
theorem dX12_changed_53 : decode cX12_changed 53 = .ok (.iconst 0, 1) := by decide +kernel
theorem dX12_changed_54 : decode cX12_changed 54 = .ok (.istore_n 2, 1) := by decide +kernel
theorem dX12_changed_55 : decode cX12_changed 55 = .ok (.iload_n 2, 1) := by decide +kernel
theorem dX12_changed_56 : decode cX12_changed 56 = .ok (.sipush 293, 3) := by decide +kernel
theorem dX12_changed_59 : decode cX12_changed 59 = .ok (.if_icmp .ge 32, 3) := by decide +kernel
theorem dX12_changed_62 : decode cX12_changed 62 = .ok (.aload_n 0, 1) := by decide +kernel
theorem dX12_changed_63 : decode cX12_changed 63 = .ok (.getfield 19, 3) := by decide +kernel
theorem dX12_changed_66 : decode cX12_changed 66 = .ok (.sipush 293, 3) := by decide +kernel
theorem dX12_changed_69 : decode cX12_changed 69 = .ok (.aload_n 0, 1) := by decide +kernel
theorem dX12_changed_70 : decode cX12_changed 70 = .ok (.getfield 38, 3) := by decide +kernel
theorem dX12_changed_73 : decode cX12_changed 73 = .ok (.iconst 1, 1) := by decide +kernel
theorem dX12_changed_74 : decode cX12_changed 74 = .ok (.isub, 1) := by decide +kernel
theorem dX12_changed_75 : decode cX12_changed 75 = .ok (.imul, 1) := by decide +kernel
theorem dX12_changed_76 : decode cX12_changed 76 = .ok (.iload_n 2, 1) := by decide +kernel
theorem dX12_changed_77 : decode cX12_changed 77 = .ok (.iadd, 1) := by decide +kernel
theorem dX12_changed_78 : decode cX12_changed 78 = .ok (.aload_n 0, 1) := by decide +kernel
theorem dX12_changed_79 : decode cX12_changed 79 = .ok (.getfield 13, 3) := by decide +kernel
theorem dX12_changed_82 : decode cX12_changed 82 = .ok (.iload_n 2, 1) := by decide +kernel
theorem dX12_changed_83 : decode cX12_changed 83 = .ok (.iaload, 1) := by decide +kernel
theorem dX12_changed_84 : decode cX12_changed 84 = .ok (.iastore, 1) := by decide +kernel
theorem dX12_changed_85 : decode cX12_changed 85 = .ok (.iinc 2 1, 3) := by decide +kernel
theorem dX12_changed_88 : decode cX12_changed 88 = .ok (.goto (-33), 3) := by decide +kernel
theorem dX12_changed_91 : decode cX12_changed 91 = .ok (.iload_n 1, 1) := by decide +kernel
theorem dX12_changed_92 : decode cX12_changed 92 = .ok (.ireturn, 1) := by decide +kernel
theorem dX12_refused_0 : decode cX12_refused 0 = .ok (.aload_n 0, 1) := by decide +kernel
theorem dX12_refused_1 : decode cX12_refused 1 = .ok (.iload_n 2, 1) := by decide +kernel
theorem dX12_refused_2 : decode cX12_refused 2 = .ok (.putfield 42, 3) := by decide +kernel
theorem dX12_refused_5 : decode cX12_refused 5 = .ok (.iload_n 1, 1) := by decide +kernel
theorem dX12_refused_6 : decode cX12_refused 6 = .ok (.ireturn, 1) := by decide +kernel
theorem dX12_done_0 : decode cX12_done 0 = .ok (.aload_n 0, 1) := by decide +kernel
theorem dX12_done_1 : decode cX12_done 1 = .ok (.iload_n 1, 1) := by decide +kernel
theorem dX12_done_2 : decode cX12_done 2 = .ok (.putfield 45, 3) := by decide +kernel
theorem dX12_done_5 : decode cX12_done 5 = .ok (.iconst 0, 1) := by decide +kernel
theorem dX12_done_6 : decode cX12_done 6 = .ok (.ireturn, 1) := by decide +kernel
theorem dX12_ends_0 : decode cX12_ends 0 = .ok (.iload_n 1, 1) := by decide +kernel
theorem dX12_ends_1 : decode cX12_ends 1 = .ok (.ifCond .ne 12, 3) := by decide +kernel
theorem dX12_ends_4 : decode cX12_ends 4 = .ok (.aload_n 0, 1) := by decide +kernel
theorem dX12_ends_5 : decode cX12_ends 5 = .ok (.aload_n 0, 1) := by decide +kernel
theorem dX12_ends_6 : decode cX12_ends 6 = .ok (.getfield 45, 3) := by decide +kernel
theorem dX12_ends_9 : decode cX12_ends 9 = .ok (.invokevirtual 48, 3) := by decide +kernel
theorem dX12_ends_12 : decode cX12_ends 12 = .ok (.ireturn, 1) := by decide +kernel
theorem dX12_ends_13 : decode cX12_ends 13 = .ok (.iload_n 1, 1) := by decide +kernel
theorem dX12_ends_14 : decode cX12_ends 14 = .ok (.ifCond .ge 5, 3) := by decide +kernel
theorem dX12_ends_17 : decode cX12_ends 17 = .ok (.iload_n 1, 1) := by decide +kernel
theorem dX12_ends_18 : decode cX12_ends 18 = .ok (.ireturn, 1) := by decide +kernel
theorem dX12_ends_19 : decode cX12_ends 19 = .ok (.aload_n 0, 1) := by decide +kernel
theorem dX12_ends_20 : decode cX12_ends 20 = .ok (.iload_n 1, 1) := by decide +kernel
theorem dX12_ends_21 : decode cX12_ends 21 = .ok (.putfield 52, 3) := by decide +kernel
theorem dX12_ends_24 : decode cX12_ends 24 = .ok (.aload_n 0, 1) := by decide +kernel
theorem dX12_ends_25 : decode cX12_ends 25 = .ok (.aload_n 0, 1) := by decide +kernel
theorem dX12_ends_26 : decode cX12_ends 26 = .ok (.getfield 42, 3) := by decide +kernel
theorem dX12_ends_29 : decode cX12_ends 29 = .ok (.putfield 55, 3) := by decide +kernel
theorem dX12_ends_32 : decode cX12_ends 32 = .ok (.bipush (-14), 2) := by decide +kernel
theorem dX12_ends_34 : decode cX12_ends 34 = .ok (.ireturn, 1) := by decide +kernel
theorem dX12_isUrn_0 : decode cX12_isUrn 0 = .ok (.iload_n 1, 1) := by decide +kernel
theorem dX12_isUrn_1 : decode cX12_isUrn 1 = .ok (.iconst 0, 1) := by decide +kernel
theorem dX12_isUrn_2 : decode cX12_isUrn 2 = .ok (.bipush 23, 2) := by decide +kernel
theorem dX12_isUrn_4 : decode cX12_isUrn 4 = .ok (.invokestatic 58, 3) := by decide +kernel
theorem dX12_isUrn_7 : decode cX12_isUrn 7 = .ok (.ifCond .eq 20, 3) := by decide +kernel
theorem dX12_isUrn_10 : decode cX12_isUrn 10 = .ok (.aload_n 0, 1) := by decide +kernel
theorem dX12_isUrn_11 : decode cX12_isUrn 11 = .ok (.getfield 7, 3) := by decide +kernel
theorem dX12_isUrn_14 : decode cX12_isUrn 14 = .ok (.bipush 17, 2) := by decide +kernel
theorem dX12_isUrn_16 : decode cX12_isUrn 16 = .ok (.iload_n 1, 1) := by decide +kernel
theorem dX12_isUrn_17 : decode cX12_isUrn 17 = .ok (.iadd, 1) := by decide +kernel
theorem dX12_isUrn_18 : decode cX12_isUrn 18 = .ok (.iaload, 1) := by decide +kernel
theorem dX12_isUrn_19 : decode cX12_isUrn 19 = .ok (.iconst 1, 1) := by decide +kernel
theorem dX12_isUrn_20 : decode cX12_isUrn 20 = .ok (.if_icmp .ne 7, 3) := by decide +kernel
theorem dX12_isUrn_23 : decode cX12_isUrn 23 = .ok (.iconst 1, 1) := by decide +kernel
theorem dX12_isUrn_24 : decode cX12_isUrn 24 = .ok (.goto 4, 3) := by decide +kernel
theorem dX12_isUrn_27 : decode cX12_isUrn 27 = .ok (.iconst 0, 1) := by decide +kernel
theorem dX12_isUrn_28 : decode cX12_isUrn 28 = .ok (.ireturn, 1) := by decide +kernel
theorem dX12_at_0 : decode cX12_at 0 = .ok (.sipush 137, 3) := by decide +kernel
theorem dX12_at_3 : decode cX12_at 3 = .ok (.iconst 4, 1) := by decide +kernel
theorem dX12_at_4 : decode cX12_at 4 = .ok (.iload_n 0, 1) := by decide +kernel
theorem dX12_at_5 : decode cX12_at 5 = .ok (.imul, 1) := by decide +kernel
theorem dX12_at_6 : decode cX12_at 6 = .ok (.iadd, 1) := by decide +kernel
theorem dX12_at_7 : decode cX12_at 7 = .ok (.iload_n 1, 1) := by decide +kernel
theorem dX12_at_8 : decode cX12_at 8 = .ok (.iadd, 1) := by decide +kernel
theorem dX12_at_9 : decode cX12_at 9 = .ok (.ireturn, 1) := by decide +kernel
theorem dX12_empties_0 : decode cX12_empties 0 = .ok (.aload_n 0, 1) := by decide +kernel
theorem dX12_empties_1 : decode cX12_empties 1 = .ok (.getfield 7, 3) := by decide +kernel
theorem dX12_empties_4 : decode cX12_empties 4 = .ok (.bipush 17, 2) := by decide +kernel
theorem dX12_empties_6 : decode cX12_empties 6 = .ok (.iload_n 1, 1) := by decide +kernel
theorem dX12_empties_7 : decode cX12_empties 7 = .ok (.iadd, 1) := by decide +kernel
theorem dX12_empties_8 : decode cX12_empties 8 = .ok (.iconst 0, 1) := by decide +kernel
theorem dX12_empties_9 : decode cX12_empties 9 = .ok (.iastore, 1) := by decide +kernel
theorem dX12_empties_10 : decode cX12_empties 10 = .ok (.aload_n 0, 1) := by decide +kernel
theorem dX12_empties_11 : decode cX12_empties 11 = .ok (.getfield 7, 3) := by decide +kernel
theorem dX12_empties_14 : decode cX12_empties 14 = .ok (.bipush 41, 2) := by decide +kernel
theorem dX12_empties_16 : decode cX12_empties 16 = .ok (.iload_n 1, 1) := by decide +kernel
theorem dX12_empties_17 : decode cX12_empties 17 = .ok (.iadd, 1) := by decide +kernel
theorem dX12_empties_18 : decode cX12_empties 18 = .ok (.iconst 0, 1) := by decide +kernel
theorem dX12_empties_19 : decode cX12_empties 19 = .ok (.iastore, 1) := by decide +kernel
theorem dX12_empties_20 : decode cX12_empties 20 = .ok (.aload_n 0, 1) := by decide +kernel
theorem dX12_empties_21 : decode cX12_empties 21 = .ok (.getfield 7, 3) := by decide +kernel
theorem dX12_empties_24 : decode cX12_empties 24 = .ok (.bipush 65, 2) := by decide +kernel
theorem dX12_empties_26 : decode cX12_empties 26 = .ok (.iload_n 1, 1) := by decide +kernel
theorem dX12_empties_27 : decode cX12_empties 27 = .ok (.iadd, 1) := by decide +kernel
theorem dX12_empties_28 : decode cX12_empties 28 = .ok (.iconst 0, 1) := by decide +kernel
theorem dX12_empties_29 : decode cX12_empties 29 = .ok (.iastore, 1) := by decide +kernel
theorem dX12_empties_30 : decode cX12_empties 30 = .ok (.aload_n 0, 1) := by decide +kernel
theorem dX12_empties_31 : decode cX12_empties 31 = .ok (.getfield 7, 3) := by decide +kernel
theorem dX12_empties_34 : decode cX12_empties 34 = .ok (.bipush 89, 2) := by decide +kernel
theorem dX12_empties_36 : decode cX12_empties 36 = .ok (.iload_n 1, 1) := by decide +kernel
theorem dX12_empties_37 : decode cX12_empties 37 = .ok (.iadd, 1) := by decide +kernel
theorem dX12_empties_38 : decode cX12_empties 38 = .ok (.iconst 0, 1) := by decide +kernel
theorem dX12_empties_39 : decode cX12_empties 39 = .ok (.iastore, 1) := by decide +kernel
theorem dX12_empties_40 : decode cX12_empties 40 = .ok (.aload_n 0, 1) := by decide +kernel
theorem dX12_empties_41 : decode cX12_empties 41 = .ok (.getfield 7, 3) := by decide +kernel
theorem dX12_empties_44 : decode cX12_empties 44 = .ok (.bipush 113, 2) := by decide +kernel
theorem dX12_empties_46 : decode cX12_empties 46 = .ok (.iload_n 1, 1) := by decide +kernel
theorem dX12_empties_47 : decode cX12_empties 47 = .ok (.iadd, 1) := by decide +kernel
theorem dX12_empties_48 : decode cX12_empties 48 = .ok (.bipush (-15), 2) := by decide +kernel
theorem dX12_empties_50 : decode cX12_empties 50 = .ok (.iastore, 1) := by decide +kernel
theorem dX12_empties_51 : decode cX12_empties 51 = .ok (.iconst 0, 1) := by decide +kernel
theorem dX12_empties_52 : decode cX12_empties 52 = .ok (.istore_n 2, 1) := by decide +kernel
theorem dX12_empties_53 : decode cX12_empties 53 = .ok (.iload_n 2, 1) := by decide +kernel
theorem dX12_empties_54 : decode cX12_empties 54 = .ok (.iconst 4, 1) := by decide +kernel
theorem dX12_empties_55 : decode cX12_empties 55 = .ok (.if_icmp .ge 21, 3) := by decide +kernel
theorem dX12_empties_58 : decode cX12_empties 58 = .ok (.aload_n 0, 1) := by decide +kernel
theorem dX12_empties_59 : decode cX12_empties 59 = .ok (.getfield 7, 3) := by decide +kernel
theorem dX12_empties_62 : decode cX12_empties 62 = .ok (.iload_n 1, 1) := by decide +kernel
theorem dX12_empties_63 : decode cX12_empties 63 = .ok (.iload_n 2, 1) := by decide +kernel
theorem dX12_empties_64 : decode cX12_empties 64 = .ok (.invokestatic 62, 3) := by decide +kernel
theorem dX12_empties_67 : decode cX12_empties 67 = .ok (.bipush (-15), 2) := by decide +kernel
theorem dX12_empties_69 : decode cX12_empties 69 = .ok (.iastore, 1) := by decide +kernel
theorem dX12_empties_70 : decode cX12_empties 70 = .ok (.iinc 2 1, 3) := by decide +kernel
theorem dX12_empties_73 : decode cX12_empties 73 = .ok (.goto (-20), 3) := by decide +kernel
theorem dX12_empties_76 : decode cX12_empties 76 = .ok (.return_, 1) := by decide +kernel
theorem dX12_isDoomed_0 : decode cX12_isDoomed 0 = .ok (.aload_n 0, 1) := by decide +kernel
theorem dX12_isDoomed_1 : decode cX12_isDoomed 1 = .ok (.getfield 7, 3) := by decide +kernel
theorem dX12_isDoomed_4 : decode cX12_isDoomed 4 = .ok (.iconst 0, 1) := by decide +kernel
theorem dX12_isDoomed_5 : decode cX12_isDoomed 5 = .ok (.iaload, 1) := by decide +kernel
theorem dX12_isDoomed_6 : decode cX12_isDoomed 6 = .ok (.iconst 2, 1) := by decide +kernel
theorem dX12_isDoomed_7 : decode cX12_isDoomed 7 = .ok (.if_icmp .ne 29, 3) := by decide +kernel
theorem dX12_isDoomed_10 : decode cX12_isDoomed 10 = .ok (.aload_n 0, 1) := by decide +kernel
theorem dX12_isDoomed_11 : decode cX12_isDoomed 11 = .ok (.getfield 7, 3) := by decide +kernel
theorem dX12_isDoomed_14 : decode cX12_isDoomed 14 = .ok (.bipush 41, 2) := by decide +kernel
theorem dX12_isDoomed_16 : decode cX12_isDoomed 16 = .ok (.iload_n 1, 1) := by decide +kernel
theorem dX12_isDoomed_17 : decode cX12_isDoomed 17 = .ok (.iadd, 1) := by decide +kernel
theorem dX12_isDoomed_18 : decode cX12_isDoomed 18 = .ok (.iaload, 1) := by decide +kernel
theorem dX12_isDoomed_19 : decode cX12_isDoomed 19 = .ok (.ifCond .ne 17, 3) := by decide +kernel
theorem dX12_isDoomed_22 : decode cX12_isDoomed 22 = .ok (.iload_n 1, 1) := by decide +kernel
theorem dX12_isDoomed_23 : decode cX12_isDoomed 23 = .ok (.aload_n 0, 1) := by decide +kernel
theorem dX12_isDoomed_24 : decode cX12_isDoomed 24 = .ok (.getfield 7, 3) := by decide +kernel
theorem dX12_isDoomed_27 : decode cX12_isDoomed 27 = .ok (.iconst 1, 1) := by decide +kernel
theorem dX12_isDoomed_28 : decode cX12_isDoomed 28 = .ok (.iaload, 1) := by decide +kernel
theorem dX12_isDoomed_29 : decode cX12_isDoomed 29 = .ok (.if_icmp .lt 7, 3) := by decide +kernel
theorem dX12_isDoomed_32 : decode cX12_isDoomed 32 = .ok (.iconst 1, 1) := by decide +kernel
theorem dX12_isDoomed_33 : decode cX12_isDoomed 33 = .ok (.goto 4, 3) := by decide +kernel
theorem dX12_isDoomed_36 : decode cX12_isDoomed 36 = .ok (.iconst 0, 1) := by decide +kernel
theorem dX12_isDoomed_37 : decode cX12_isDoomed 37 = .ok (.ireturn, 1) := by decide +kernel
theorem dX12_greys_0 : decode cX12_greys 0 = .ok (.aload_n 0, 1) := by decide +kernel
theorem dX12_greys_1 : decode cX12_greys 1 = .ok (.getfield 7, 3) := by decide +kernel
theorem dX12_greys_4 : decode cX12_greys 4 = .ok (.bipush 41, 2) := by decide +kernel
theorem dX12_greys_6 : decode cX12_greys 6 = .ok (.iload_n 1, 1) := by decide +kernel
theorem dX12_greys_7 : decode cX12_greys 7 = .ok (.iadd, 1) := by decide +kernel
theorem dX12_greys_8 : decode cX12_greys 8 = .ok (.iconst 1, 1) := by decide +kernel
theorem dX12_greys_9 : decode cX12_greys 9 = .ok (.iastore, 1) := by decide +kernel
theorem dX12_greys_10 : decode cX12_greys 10 = .ok (.aload_n 0, 1) := by decide +kernel
theorem dX12_greys_11 : decode cX12_greys 11 = .ok (.getfield 7, 3) := by decide +kernel
theorem dX12_greys_14 : decode cX12_greys 14 = .ok (.sipush 233, 3) := by decide +kernel
theorem dX12_greys_17 : decode cX12_greys 17 = .ok (.aload_n 0, 1) := by decide +kernel
theorem dX12_greys_18 : decode cX12_greys 18 = .ok (.getfield 7, 3) := by decide +kernel
theorem dX12_greys_21 : decode cX12_greys 21 = .ok (.bipush 8, 2) := by decide +kernel
theorem dX12_greys_23 : decode cX12_greys 23 = .ok (.iaload, 1) := by decide +kernel
theorem dX12_greys_24 : decode cX12_greys 24 = .ok (.iadd, 1) := by decide +kernel
theorem dX12_greys_25 : decode cX12_greys 25 = .ok (.iload_n 1, 1) := by decide +kernel
theorem dX12_greys_26 : decode cX12_greys 26 = .ok (.iastore, 1) := by decide +kernel
theorem dX12_greys_27 : decode cX12_greys 27 = .ok (.aload_n 0, 1) := by decide +kernel
theorem dX12_greys_28 : decode cX12_greys 28 = .ok (.getfield 7, 3) := by decide +kernel
theorem dX12_greys_31 : decode cX12_greys 31 = .ok (.bipush 8, 2) := by decide +kernel
theorem dX12_greys_33 : decode cX12_greys 33 = .ok (.dup2, 1) := by decide +kernel
theorem dX12_greys_34 : decode cX12_greys 34 = .ok (.iaload, 1) := by decide +kernel
theorem dX12_greys_35 : decode cX12_greys 35 = .ok (.iconst 1, 1) := by decide +kernel
theorem dX12_greys_36 : decode cX12_greys 36 = .ok (.iadd, 1) := by decide +kernel
theorem dX12_greys_37 : decode cX12_greys 37 = .ok (.iastore, 1) := by decide +kernel
theorem dX12_greys_38 : decode cX12_greys 38 = .ok (.return_, 1) := by decide +kernel
theorem dX12_greysIfWhite_0 : decode cX12_greysIfWhite 0 = .ok (.iload_n 1, 1) := by decide +kernel
theorem dX12_greysIfWhite_1 : decode cX12_greysIfWhite 1 = .ok (.bipush (-15), 2) := by decide +kernel
theorem dX12_greysIfWhite_3 : decode cX12_greysIfWhite 3 = .ok (.if_icmp .eq 20, 3) := by decide +kernel
theorem dX12_greysIfWhite_6 : decode cX12_greysIfWhite 6 = .ok (.aload_n 0, 1) := by decide +kernel
theorem dX12_greysIfWhite_7 : decode cX12_greysIfWhite 7 = .ok (.getfield 7, 3) := by decide +kernel
theorem dX12_greysIfWhite_10 : decode cX12_greysIfWhite 10 = .ok (.bipush 41, 2) := by decide +kernel
theorem dX12_greysIfWhite_12 : decode cX12_greysIfWhite 12 = .ok (.iload_n 1, 1) := by decide +kernel
theorem dX12_greysIfWhite_13 : decode cX12_greysIfWhite 13 = .ok (.iadd, 1) := by decide +kernel
theorem dX12_greysIfWhite_14 : decode cX12_greysIfWhite 14 = .ok (.iaload, 1) := by decide +kernel
theorem dX12_greysIfWhite_15 : decode cX12_greysIfWhite 15 = .ok (.ifCond .ne 8, 3) := by decide +kernel
theorem dX12_greysIfWhite_18 : decode cX12_greysIfWhite 18 = .ok (.aload_n 0, 1) := by decide +kernel
theorem dX12_greysIfWhite_19 : decode cX12_greysIfWhite 19 = .ok (.iload_n 1, 1) := by decide +kernel
theorem dX12_greysIfWhite_20 : decode cX12_greysIfWhite 20 = .ok (.invokevirtual 66, 3) := by decide +kernel
theorem dX12_greysIfWhite_23 : decode cX12_greysIfWhite 23 = .ok (.return_, 1) := by decide +kernel
theorem dX12_beginsRound_0 : decode cX12_beginsRound 0 = .ok (.aload_n 0, 1) := by decide +kernel
theorem dX12_beginsRound_1 : decode cX12_beginsRound 1 = .ok (.getfield 7, 3) := by decide +kernel
theorem dX12_beginsRound_4 : decode cX12_beginsRound 4 = .ok (.iconst 0, 1) := by decide +kernel
theorem dX12_beginsRound_5 : decode cX12_beginsRound 5 = .ok (.iconst 1, 1) := by decide +kernel
theorem dX12_beginsRound_6 : decode cX12_beginsRound 6 = .ok (.iastore, 1) := by decide +kernel
theorem dX12_beginsRound_7 : decode cX12_beginsRound 7 = .ok (.iconst 0, 1) := by decide +kernel
theorem dX12_beginsRound_8 : decode cX12_beginsRound 8 = .ok (.istore_n 1, 1) := by decide +kernel
theorem dX12_beginsRound_9 : decode cX12_beginsRound 9 = .ok (.iload_n 1, 1) := by decide +kernel
theorem dX12_beginsRound_10 : decode cX12_beginsRound 10 = .ok (.bipush 6, 2) := by decide +kernel
theorem dX12_beginsRound_12 : decode cX12_beginsRound 12 = .ok (.if_icmp .ge 22, 3) := by decide +kernel
theorem dX12_beginsRound_15 : decode cX12_beginsRound 15 = .ok (.aload_n 0, 1) := by decide +kernel
theorem dX12_beginsRound_16 : decode cX12_beginsRound 16 = .ok (.aload_n 0, 1) := by decide +kernel
theorem dX12_beginsRound_17 : decode cX12_beginsRound 17 = .ok (.getfield 7, 3) := by decide +kernel
theorem dX12_beginsRound_20 : decode cX12_beginsRound 20 = .ok (.bipush 11, 2) := by decide +kernel
theorem dX12_beginsRound_22 : decode cX12_beginsRound 22 = .ok (.iload_n 1, 1) := by decide +kernel
theorem dX12_beginsRound_23 : decode cX12_beginsRound 23 = .ok (.iadd, 1) := by decide +kernel
theorem dX12_beginsRound_24 : decode cX12_beginsRound 24 = .ok (.iaload, 1) := by decide +kernel
theorem dX12_beginsRound_25 : decode cX12_beginsRound 25 = .ok (.invokevirtual 69, 3) := by decide +kernel
theorem dX12_beginsRound_28 : decode cX12_beginsRound 28 = .ok (.iinc 1 1, 3) := by decide +kernel
theorem dX12_beginsRound_31 : decode cX12_beginsRound 31 = .ok (.goto (-22), 3) := by decide +kernel
theorem dX12_beginsRound_34 : decode cX12_beginsRound 34 = .ok (.iconst 0, 1) := by decide +kernel
theorem dX12_beginsRound_35 : decode cX12_beginsRound 35 = .ok (.istore_n 1, 1) := by decide +kernel
theorem dX12_beginsRound_36 : decode cX12_beginsRound 36 = .ok (.iload_n 1, 1) := by decide +kernel
theorem dX12_beginsRound_37 : decode cX12_beginsRound 37 = .ok (.aload_n 0, 1) := by decide +kernel
theorem dX12_beginsRound_38 : decode cX12_beginsRound 38 = .ok (.getfield 7, 3) := by decide +kernel
theorem dX12_beginsRound_41 : decode cX12_beginsRound 41 = .ok (.bipush 9, 2) := by decide +kernel
theorem dX12_beginsRound_43 : decode cX12_beginsRound 43 = .ok (.iaload, 1) := by decide +kernel
theorem dX12_beginsRound_44 : decode cX12_beginsRound 44 = .ok (.if_icmp .ge 23, 3) := by decide +kernel
theorem dX12_beginsRound_47 : decode cX12_beginsRound 47 = .ok (.aload_n 0, 1) := by decide +kernel
theorem dX12_beginsRound_48 : decode cX12_beginsRound 48 = .ok (.aload_n 0, 1) := by decide +kernel
theorem dX12_beginsRound_49 : decode cX12_beginsRound 49 = .ok (.getfield 7, 3) := by decide +kernel
theorem dX12_beginsRound_52 : decode cX12_beginsRound 52 = .ok (.sipush 257, 3) := by decide +kernel
theorem dX12_beginsRound_55 : decode cX12_beginsRound 55 = .ok (.iload_n 1, 1) := by decide +kernel
theorem dX12_beginsRound_56 : decode cX12_beginsRound 56 = .ok (.iadd, 1) := by decide +kernel
theorem dX12_beginsRound_57 : decode cX12_beginsRound 57 = .ok (.iaload, 1) := by decide +kernel
theorem dX12_beginsRound_58 : decode cX12_beginsRound 58 = .ok (.invokevirtual 69, 3) := by decide +kernel
theorem dX12_beginsRound_61 : decode cX12_beginsRound 61 = .ok (.iinc 1 1, 3) := by decide +kernel
theorem dX12_beginsRound_64 : decode cX12_beginsRound 64 = .ok (.goto (-28), 3) := by decide +kernel
theorem dX12_beginsRound_67 : decode cX12_beginsRound 67 = .ok (.aload_n 0, 1) := by decide +kernel
theorem dX12_beginsRound_68 : decode cX12_beginsRound 68 = .ok (.getfield 7, 3) := by decide +kernel
theorem dX12_beginsRound_71 : decode cX12_beginsRound 71 = .ok (.bipush 8, 2) := by decide +kernel
theorem dX12_beginsRound_73 : decode cX12_beginsRound 73 = .ok (.iaload, 1) := by decide +kernel
theorem dX12_beginsRound_74 : decode cX12_beginsRound 74 = .ok (.ireturn, 1) := by decide +kernel
theorem dX12_blackens_0 : decode cX12_blackens 0 = .ok (.aload_n 0, 1) := by decide +kernel
theorem dX12_blackens_1 : decode cX12_blackens 1 = .ok (.getfield 7, 3) := by decide +kernel
theorem dX12_blackens_4 : decode cX12_blackens 4 = .ok (.sipush 233, 3) := by decide +kernel
theorem dX12_blackens_7 : decode cX12_blackens 7 = .ok (.iaload, 1) := by decide +kernel
theorem dX12_blackens_8 : decode cX12_blackens 8 = .ok (.istore_n 1, 1) := by decide +kernel
theorem dX12_blackens_9 : decode cX12_blackens 9 = .ok (.aload_n 0, 1) := by decide +kernel
theorem dX12_blackens_10 : decode cX12_blackens 10 = .ok (.getfield 7, 3) := by decide +kernel
theorem dX12_blackens_13 : decode cX12_blackens 13 = .ok (.bipush 8, 2) := by decide +kernel
theorem dX12_blackens_15 : decode cX12_blackens 15 = .ok (.dup2, 1) := by decide +kernel
theorem dX12_blackens_16 : decode cX12_blackens 16 = .ok (.iaload, 1) := by decide +kernel
theorem dX12_blackens_17 : decode cX12_blackens 17 = .ok (.iconst 1, 1) := by decide +kernel
theorem dX12_blackens_18 : decode cX12_blackens 18 = .ok (.isub, 1) := by decide +kernel
theorem dX12_blackens_19 : decode cX12_blackens 19 = .ok (.iastore, 1) := by decide +kernel
theorem dX12_blackens_20 : decode cX12_blackens 20 = .ok (.iconst 0, 1) := by decide +kernel
theorem dX12_blackens_21 : decode cX12_blackens 21 = .ok (.istore_n 2, 1) := by decide +kernel
theorem dX12_blackens_22 : decode cX12_blackens 22 = .ok (.iload_n 2, 1) := by decide +kernel
theorem dX12_blackens_23 : decode cX12_blackens 23 = .ok (.aload_n 0, 1) := by decide +kernel
theorem dX12_blackens_24 : decode cX12_blackens 24 = .ok (.getfield 7, 3) := by decide +kernel
theorem dX12_blackens_27 : decode cX12_blackens 27 = .ok (.bipush 8, 2) := by decide +kernel
theorem dX12_blackens_29 : decode cX12_blackens 29 = .ok (.iaload, 1) := by decide +kernel
theorem dX12_blackens_30 : decode cX12_blackens 30 = .ok (.if_icmp .ge 31, 3) := by decide +kernel
theorem dX12_blackens_33 : decode cX12_blackens 33 = .ok (.aload_n 0, 1) := by decide +kernel
theorem dX12_blackens_34 : decode cX12_blackens 34 = .ok (.getfield 7, 3) := by decide +kernel
theorem dX12_blackens_37 : decode cX12_blackens 37 = .ok (.sipush 233, 3) := by decide +kernel
theorem dX12_blackens_40 : decode cX12_blackens 40 = .ok (.iload_n 2, 1) := by decide +kernel
theorem dX12_blackens_41 : decode cX12_blackens 41 = .ok (.iadd, 1) := by decide +kernel
theorem dX12_blackens_42 : decode cX12_blackens 42 = .ok (.aload_n 0, 1) := by decide +kernel
theorem dX12_blackens_43 : decode cX12_blackens 43 = .ok (.getfield 7, 3) := by decide +kernel
theorem dX12_blackens_46 : decode cX12_blackens 46 = .ok (.sipush 233, 3) := by decide +kernel
theorem dX12_blackens_49 : decode cX12_blackens 49 = .ok (.iload_n 2, 1) := by decide +kernel
theorem dX12_blackens_50 : decode cX12_blackens 50 = .ok (.iadd, 1) := by decide +kernel
theorem dX12_blackens_51 : decode cX12_blackens 51 = .ok (.iconst 1, 1) := by decide +kernel
theorem dX12_blackens_52 : decode cX12_blackens 52 = .ok (.iadd, 1) := by decide +kernel
theorem dX12_blackens_53 : decode cX12_blackens 53 = .ok (.iaload, 1) := by decide +kernel
theorem dX12_blackens_54 : decode cX12_blackens 54 = .ok (.iastore, 1) := by decide +kernel
theorem dX12_blackens_55 : decode cX12_blackens 55 = .ok (.iinc 2 1, 3) := by decide +kernel
theorem dX12_blackens_58 : decode cX12_blackens 58 = .ok (.goto (-36), 3) := by decide +kernel
theorem dX12_blackens_61 : decode cX12_blackens 61 = .ok (.aload_n 0, 1) := by decide +kernel
theorem dX12_blackens_62 : decode cX12_blackens 62 = .ok (.getfield 7, 3) := by decide +kernel
theorem dX12_blackens_65 : decode cX12_blackens 65 = .ok (.sipush 233, 3) := by decide +kernel
theorem dX12_blackens_68 : decode cX12_blackens 68 = .ok (.aload_n 0, 1) := by decide +kernel
theorem dX12_blackens_69 : decode cX12_blackens 69 = .ok (.getfield 7, 3) := by decide +kernel
theorem dX12_blackens_72 : decode cX12_blackens 72 = .ok (.bipush 8, 2) := by decide +kernel
theorem dX12_blackens_74 : decode cX12_blackens 74 = .ok (.iaload, 1) := by decide +kernel
theorem dX12_blackens_75 : decode cX12_blackens 75 = .ok (.iadd, 1) := by decide +kernel
theorem dX12_blackens_76 : decode cX12_blackens 76 = .ok (.iconst 0, 1) := by decide +kernel
theorem dX12_blackens_77 : decode cX12_blackens 77 = .ok (.iastore, 1) := by decide +kernel
theorem dX12_blackens_78 : decode cX12_blackens 78 = .ok (.aload_n 0, 1) := by decide +kernel
theorem dX12_blackens_79 : decode cX12_blackens 79 = .ok (.getfield 7, 3) := by decide +kernel
theorem dX12_blackens_82 : decode cX12_blackens 82 = .ok (.bipush 41, 2) := by decide +kernel
theorem dX12_blackens_84 : decode cX12_blackens 84 = .ok (.iload_n 1, 1) := by decide +kernel
theorem dX12_blackens_85 : decode cX12_blackens 85 = .ok (.iadd, 1) := by decide +kernel
theorem dX12_blackens_86 : decode cX12_blackens 86 = .ok (.iconst 2, 1) := by decide +kernel
theorem dX12_blackens_87 : decode cX12_blackens 87 = .ok (.iastore, 1) := by decide +kernel
theorem dX12_blackens_88 : decode cX12_blackens 88 = .ok (.iconst 0, 1) := by decide +kernel
theorem dX12_blackens_89 : decode cX12_blackens 89 = .ok (.istore_n 2, 1) := by decide +kernel
theorem dX12_blackens_90 : decode cX12_blackens 90 = .ok (.iload_n 2, 1) := by decide +kernel
theorem dX12_blackens_91 : decode cX12_blackens 91 = .ok (.iconst 4, 1) := by decide +kernel
theorem dX12_blackens_92 : decode cX12_blackens 92 = .ok (.if_icmp .ge 23, 3) := by decide +kernel
theorem dX12_blackens_95 : decode cX12_blackens 95 = .ok (.aload_n 0, 1) := by decide +kernel
theorem dX12_blackens_96 : decode cX12_blackens 96 = .ok (.aload_n 0, 1) := by decide +kernel
theorem dX12_blackens_97 : decode cX12_blackens 97 = .ok (.getfield 7, 3) := by decide +kernel
theorem dX12_blackens_100 : decode cX12_blackens 100 = .ok (.iload_n 1, 1) := by decide +kernel
theorem dX12_blackens_101 : decode cX12_blackens 101 = .ok (.iload_n 2, 1) := by decide +kernel
theorem dX12_blackens_102 : decode cX12_blackens 102 = .ok (.invokestatic 62, 3) := by decide +kernel
theorem dX12_blackens_105 : decode cX12_blackens 105 = .ok (.iaload, 1) := by decide +kernel
theorem dX12_blackens_106 : decode cX12_blackens 106 = .ok (.invokevirtual 69, 3) := by decide +kernel
theorem dX12_blackens_109 : decode cX12_blackens 109 = .ok (.iinc 2 1, 3) := by decide +kernel
theorem dX12_blackens_112 : decode cX12_blackens 112 = .ok (.goto (-22), 3) := by decide +kernel
theorem dX12_blackens_115 : decode cX12_blackens 115 = .ok (.return_, 1) := by decide +kernel
theorem dX12_becomeDue_0 : decode cX12_becomeDue 0 = .ok (.iconst 0, 1) := by decide +kernel
theorem dX12_becomeDue_1 : decode cX12_becomeDue 1 = .ok (.istore_n 1, 1) := by decide +kernel
theorem dX12_becomeDue_2 : decode cX12_becomeDue 2 = .ok (.iconst 0, 1) := by decide +kernel
theorem dX12_becomeDue_3 : decode cX12_becomeDue 3 = .ok (.istore_n 2, 1) := by decide +kernel
theorem dX12_becomeDue_4 : decode cX12_becomeDue 4 = .ok (.iload_n 2, 1) := by decide +kernel
theorem dX12_becomeDue_5 : decode cX12_becomeDue 5 = .ok (.bipush 24, 2) := by decide +kernel
theorem dX12_becomeDue_7 : decode cX12_becomeDue 7 = .ok (.if_icmp .ge 94, 3) := by decide +kernel
theorem dX12_becomeDue_10 : decode cX12_becomeDue 10 = .ok (.aload_n 0, 1) := by decide +kernel
theorem dX12_becomeDue_11 : decode cX12_becomeDue 11 = .ok (.getfield 7, 3) := by decide +kernel
theorem dX12_becomeDue_14 : decode cX12_becomeDue 14 = .ok (.bipush 17, 2) := by decide +kernel
theorem dX12_becomeDue_16 : decode cX12_becomeDue 16 = .ok (.iload_n 2, 1) := by decide +kernel
theorem dX12_becomeDue_17 : decode cX12_becomeDue 17 = .ok (.iadd, 1) := by decide +kernel
theorem dX12_becomeDue_18 : decode cX12_becomeDue 18 = .ok (.iaload, 1) := by decide +kernel
theorem dX12_becomeDue_19 : decode cX12_becomeDue 19 = .ok (.ifCond .eq 76, 3) := by decide +kernel
theorem dX12_becomeDue_22 : decode cX12_becomeDue 22 = .ok (.aload_n 0, 1) := by decide +kernel
theorem dX12_becomeDue_23 : decode cX12_becomeDue 23 = .ok (.getfield 7, 3) := by decide +kernel
theorem dX12_becomeDue_26 : decode cX12_becomeDue 26 = .ok (.bipush 41, 2) := by decide +kernel
theorem dX12_becomeDue_28 : decode cX12_becomeDue 28 = .ok (.iload_n 2, 1) := by decide +kernel
theorem dX12_becomeDue_29 : decode cX12_becomeDue 29 = .ok (.iadd, 1) := by decide +kernel
theorem dX12_becomeDue_30 : decode cX12_becomeDue 30 = .ok (.iaload, 1) := by decide +kernel
theorem dX12_becomeDue_31 : decode cX12_becomeDue 31 = .ok (.ifCond .ne 64, 3) := by decide +kernel
theorem dX12_becomeDue_34 : decode cX12_becomeDue 34 = .ok (.aload_n 0, 1) := by decide +kernel
theorem dX12_becomeDue_35 : decode cX12_becomeDue 35 = .ok (.getfield 7, 3) := by decide +kernel
theorem dX12_becomeDue_38 : decode cX12_becomeDue 38 = .ok (.bipush 65, 2) := by decide +kernel
theorem dX12_becomeDue_40 : decode cX12_becomeDue 40 = .ok (.iload_n 2, 1) := by decide +kernel
theorem dX12_becomeDue_41 : decode cX12_becomeDue 41 = .ok (.iadd, 1) := by decide +kernel
theorem dX12_becomeDue_42 : decode cX12_becomeDue 42 = .ok (.iaload, 1) := by decide +kernel
theorem dX12_becomeDue_43 : decode cX12_becomeDue 43 = .ok (.iconst 1, 1) := by decide +kernel
theorem dX12_becomeDue_44 : decode cX12_becomeDue 44 = .ok (.if_icmp .eq 6, 3) := by decide +kernel
theorem dX12_becomeDue_47 : decode cX12_becomeDue 47 = .ok (.goto 48, 3) := by decide +kernel
theorem dX12_becomeDue_50 : decode cX12_becomeDue 50 = .ok (.aload_n 0, 1) := by decide +kernel
theorem dX12_becomeDue_51 : decode cX12_becomeDue 51 = .ok (.getfield 7, 3) := by decide +kernel
theorem dX12_becomeDue_54 : decode cX12_becomeDue 54 = .ok (.bipush 65, 2) := by decide +kernel
theorem dX12_becomeDue_56 : decode cX12_becomeDue 56 = .ok (.iload_n 2, 1) := by decide +kernel
theorem dX12_becomeDue_57 : decode cX12_becomeDue 57 = .ok (.iadd, 1) := by decide +kernel
theorem dX12_becomeDue_58 : decode cX12_becomeDue 58 = .ok (.iconst 2, 1) := by decide +kernel
theorem dX12_becomeDue_59 : decode cX12_becomeDue 59 = .ok (.iastore, 1) := by decide +kernel
theorem dX12_becomeDue_60 : decode cX12_becomeDue 60 = .ok (.aload_n 0, 1) := by decide +kernel
theorem dX12_becomeDue_61 : decode cX12_becomeDue 61 = .ok (.getfield 7, 3) := by decide +kernel
theorem dX12_becomeDue_64 : decode cX12_becomeDue 64 = .ok (.sipush 257, 3) := by decide +kernel
theorem dX12_becomeDue_67 : decode cX12_becomeDue 67 = .ok (.aload_n 0, 1) := by decide +kernel
theorem dX12_becomeDue_68 : decode cX12_becomeDue 68 = .ok (.getfield 7, 3) := by decide +kernel
theorem dX12_becomeDue_71 : decode cX12_becomeDue 71 = .ok (.bipush 9, 2) := by decide +kernel
theorem dX12_becomeDue_73 : decode cX12_becomeDue 73 = .ok (.iaload, 1) := by decide +kernel
theorem dX12_becomeDue_74 : decode cX12_becomeDue 74 = .ok (.iadd, 1) := by decide +kernel
theorem dX12_becomeDue_75 : decode cX12_becomeDue 75 = .ok (.iload_n 2, 1) := by decide +kernel
theorem dX12_becomeDue_76 : decode cX12_becomeDue 76 = .ok (.iastore, 1) := by decide +kernel
theorem dX12_becomeDue_77 : decode cX12_becomeDue 77 = .ok (.aload_n 0, 1) := by decide +kernel
theorem dX12_becomeDue_78 : decode cX12_becomeDue 78 = .ok (.getfield 7, 3) := by decide +kernel
theorem dX12_becomeDue_81 : decode cX12_becomeDue 81 = .ok (.bipush 9, 2) := by decide +kernel
theorem dX12_becomeDue_83 : decode cX12_becomeDue 83 = .ok (.dup2, 1) := by decide +kernel
theorem dX12_becomeDue_84 : decode cX12_becomeDue 84 = .ok (.iaload, 1) := by decide +kernel
theorem dX12_becomeDue_85 : decode cX12_becomeDue 85 = .ok (.iconst 1, 1) := by decide +kernel
theorem dX12_becomeDue_86 : decode cX12_becomeDue 86 = .ok (.iadd, 1) := by decide +kernel
theorem dX12_becomeDue_87 : decode cX12_becomeDue 87 = .ok (.iastore, 1) := by decide +kernel
theorem dX12_becomeDue_88 : decode cX12_becomeDue 88 = .ok (.aload_n 0, 1) := by decide +kernel
theorem dX12_becomeDue_89 : decode cX12_becomeDue 89 = .ok (.iload_n 2, 1) := by decide +kernel
theorem dX12_becomeDue_90 : decode cX12_becomeDue 90 = .ok (.invokevirtual 66, 3) := by decide +kernel
theorem dX12_becomeDue_93 : decode cX12_becomeDue 93 = .ok (.iconst 1, 1) := by decide +kernel
theorem dX12_becomeDue_94 : decode cX12_becomeDue 94 = .ok (.istore_n 1, 1) := by decide +kernel
theorem dX12_becomeDue_95 : decode cX12_becomeDue 95 = .ok (.iinc 2 1, 3) := by decide +kernel
theorem dX12_becomeDue_98 : decode cX12_becomeDue 98 = .ok (.goto (-94), 3) := by decide +kernel
theorem dX12_becomeDue_101 : decode cX12_becomeDue 101 = .ok (.iload_n 1, 1) := by decide +kernel
theorem dX12_becomeDue_102 : decode cX12_becomeDue 102 = .ok (.ireturn, 1) := by decide +kernel
theorem dX12_cutsWeak_0 : decode cX12_cutsWeak 0 = .ok (.iconst 0, 1) := by decide +kernel
theorem dX12_cutsWeak_1 : decode cX12_cutsWeak 1 = .ok (.istore_n 1, 1) := by decide +kernel
theorem dX12_cutsWeak_2 : decode cX12_cutsWeak 2 = .ok (.iload_n 1, 1) := by decide +kernel
theorem dX12_cutsWeak_3 : decode cX12_cutsWeak 3 = .ok (.bipush 24, 2) := by decide +kernel
theorem dX12_cutsWeak_5 : decode cX12_cutsWeak 5 = .ok (.if_icmp .ge 62, 3) := by decide +kernel
theorem dX12_cutsWeak_8 : decode cX12_cutsWeak 8 = .ok (.aload_n 0, 1) := by decide +kernel
theorem dX12_cutsWeak_9 : decode cX12_cutsWeak 9 = .ok (.getfield 7, 3) := by decide +kernel
theorem dX12_cutsWeak_12 : decode cX12_cutsWeak 12 = .ok (.bipush 113, 2) := by decide +kernel
theorem dX12_cutsWeak_14 : decode cX12_cutsWeak 14 = .ok (.iload_n 1, 1) := by decide +kernel
theorem dX12_cutsWeak_15 : decode cX12_cutsWeak 15 = .ok (.iadd, 1) := by decide +kernel
theorem dX12_cutsWeak_16 : decode cX12_cutsWeak 16 = .ok (.iaload, 1) := by decide +kernel
theorem dX12_cutsWeak_17 : decode cX12_cutsWeak 17 = .ok (.istore_n 2, 1) := by decide +kernel
theorem dX12_cutsWeak_18 : decode cX12_cutsWeak 18 = .ok (.iload_n 2, 1) := by decide +kernel
theorem dX12_cutsWeak_19 : decode cX12_cutsWeak 19 = .ok (.bipush (-15), 2) := by decide +kernel
theorem dX12_cutsWeak_21 : decode cX12_cutsWeak 21 = .ok (.if_icmp .eq 40, 3) := by decide +kernel
theorem dX12_cutsWeak_24 : decode cX12_cutsWeak 24 = .ok (.aload_n 0, 1) := by decide +kernel
theorem dX12_cutsWeak_25 : decode cX12_cutsWeak 25 = .ok (.getfield 7, 3) := by decide +kernel
theorem dX12_cutsWeak_28 : decode cX12_cutsWeak 28 = .ok (.bipush 41, 2) := by decide +kernel
theorem dX12_cutsWeak_30 : decode cX12_cutsWeak 30 = .ok (.iload_n 2, 1) := by decide +kernel
theorem dX12_cutsWeak_31 : decode cX12_cutsWeak 31 = .ok (.iadd, 1) := by decide +kernel
theorem dX12_cutsWeak_32 : decode cX12_cutsWeak 32 = .ok (.iaload, 1) := by decide +kernel
theorem dX12_cutsWeak_33 : decode cX12_cutsWeak 33 = .ok (.ifCond .eq 6, 3) := by decide +kernel
theorem dX12_cutsWeak_36 : decode cX12_cutsWeak 36 = .ok (.goto 25, 3) := by decide +kernel
theorem dX12_cutsWeak_39 : decode cX12_cutsWeak 39 = .ok (.aload_n 0, 1) := by decide +kernel
theorem dX12_cutsWeak_40 : decode cX12_cutsWeak 40 = .ok (.getfield 7, 3) := by decide +kernel
theorem dX12_cutsWeak_43 : decode cX12_cutsWeak 43 = .ok (.bipush 113, 2) := by decide +kernel
theorem dX12_cutsWeak_45 : decode cX12_cutsWeak 45 = .ok (.iload_n 1, 1) := by decide +kernel
theorem dX12_cutsWeak_46 : decode cX12_cutsWeak 46 = .ok (.iadd, 1) := by decide +kernel
theorem dX12_cutsWeak_47 : decode cX12_cutsWeak 47 = .ok (.bipush (-15), 2) := by decide +kernel
theorem dX12_cutsWeak_49 : decode cX12_cutsWeak 49 = .ok (.iastore, 1) := by decide +kernel
theorem dX12_cutsWeak_50 : decode cX12_cutsWeak 50 = .ok (.aload_n 0, 1) := by decide +kernel
theorem dX12_cutsWeak_51 : decode cX12_cutsWeak 51 = .ok (.getfield 7, 3) := by decide +kernel
theorem dX12_cutsWeak_54 : decode cX12_cutsWeak 54 = .ok (.bipush 6, 2) := by decide +kernel
theorem dX12_cutsWeak_56 : decode cX12_cutsWeak 56 = .ok (.dup2, 1) := by decide +kernel
theorem dX12_cutsWeak_57 : decode cX12_cutsWeak 57 = .ok (.iaload, 1) := by decide +kernel
theorem dX12_cutsWeak_58 : decode cX12_cutsWeak 58 = .ok (.iconst 1, 1) := by decide +kernel
theorem dX12_cutsWeak_59 : decode cX12_cutsWeak 59 = .ok (.iadd, 1) := by decide +kernel
theorem dX12_cutsWeak_60 : decode cX12_cutsWeak 60 = .ok (.iastore, 1) := by decide +kernel
theorem dX12_cutsWeak_61 : decode cX12_cutsWeak 61 = .ok (.iinc 1 1, 3) := by decide +kernel
theorem dX12_cutsWeak_64 : decode cX12_cutsWeak 64 = .ok (.goto (-62), 3) := by decide +kernel
theorem dX12_cutsWeak_67 : decode cX12_cutsWeak 67 = .ok (.aload_n 0, 1) := by decide +kernel
theorem dX12_cutsWeak_68 : decode cX12_cutsWeak 68 = .ok (.getfield 7, 3) := by decide +kernel
theorem dX12_cutsWeak_71 : decode cX12_cutsWeak 71 = .ok (.iconst 0, 1) := by decide +kernel
theorem dX12_cutsWeak_72 : decode cX12_cutsWeak 72 = .ok (.iconst 2, 1) := by decide +kernel
theorem dX12_cutsWeak_73 : decode cX12_cutsWeak 73 = .ok (.iastore, 1) := by decide +kernel
theorem dX12_cutsWeak_74 : decode cX12_cutsWeak 74 = .ok (.aload_n 0, 1) := by decide +kernel
theorem dX12_cutsWeak_75 : decode cX12_cutsWeak 75 = .ok (.getfield 7, 3) := by decide +kernel
theorem dX12_cutsWeak_78 : decode cX12_cutsWeak 78 = .ok (.iconst 1, 1) := by decide +kernel
theorem dX12_cutsWeak_79 : decode cX12_cutsWeak 79 = .ok (.iconst 0, 1) := by decide +kernel
theorem dX12_cutsWeak_80 : decode cX12_cutsWeak 80 = .ok (.iastore, 1) := by decide +kernel
theorem dX12_cutsWeak_81 : decode cX12_cutsWeak 81 = .ok (.return_, 1) := by decide +kernel
theorem dX12_frees_0 : decode cX12_frees 0 = .ok (.aload_n 0, 1) := by decide +kernel
theorem dX12_frees_1 : decode cX12_frees 1 = .ok (.iload_n 1, 1) := by decide +kernel
theorem dX12_frees_2 : decode cX12_frees 2 = .ok (.invokevirtual 34, 3) := by decide +kernel
theorem dX12_frees_5 : decode cX12_frees 5 = .ok (.iconst 0, 1) := by decide +kernel
theorem dX12_frees_6 : decode cX12_frees 6 = .ok (.istore_n 2, 1) := by decide +kernel
theorem dX12_frees_7 : decode cX12_frees 7 = .ok (.iload_n 2, 1) := by decide +kernel
theorem dX12_frees_8 : decode cX12_frees 8 = .ok (.bipush 24, 2) := by decide +kernel
theorem dX12_frees_10 : decode cX12_frees 10 = .ok (.if_icmp .ge 72, 3) := by decide +kernel
theorem dX12_frees_13 : decode cX12_frees 13 = .ok (.aload_n 0, 1) := by decide +kernel
theorem dX12_frees_14 : decode cX12_frees 14 = .ok (.getfield 7, 3) := by decide +kernel
theorem dX12_frees_17 : decode cX12_frees 17 = .ok (.bipush 113, 2) := by decide +kernel
theorem dX12_frees_19 : decode cX12_frees 19 = .ok (.iload_n 2, 1) := by decide +kernel
theorem dX12_frees_20 : decode cX12_frees 20 = .ok (.iadd, 1) := by decide +kernel
theorem dX12_frees_21 : decode cX12_frees 21 = .ok (.iaload, 1) := by decide +kernel
theorem dX12_frees_22 : decode cX12_frees 22 = .ok (.iload_n 1, 1) := by decide +kernel
theorem dX12_frees_23 : decode cX12_frees 23 = .ok (.if_icmp .ne 14, 3) := by decide +kernel
theorem dX12_frees_26 : decode cX12_frees 26 = .ok (.aload_n 0, 1) := by decide +kernel
theorem dX12_frees_27 : decode cX12_frees 27 = .ok (.getfield 7, 3) := by decide +kernel
theorem dX12_frees_30 : decode cX12_frees 30 = .ok (.bipush 113, 2) := by decide +kernel
theorem dX12_frees_32 : decode cX12_frees 32 = .ok (.iload_n 2, 1) := by decide +kernel
theorem dX12_frees_33 : decode cX12_frees 33 = .ok (.iadd, 1) := by decide +kernel
theorem dX12_frees_34 : decode cX12_frees 34 = .ok (.bipush (-15), 2) := by decide +kernel
theorem dX12_frees_36 : decode cX12_frees 36 = .ok (.iastore, 1) := by decide +kernel
theorem dX12_frees_37 : decode cX12_frees 37 = .ok (.iconst 0, 1) := by decide +kernel
theorem dX12_frees_38 : decode cX12_frees 38 = .ok (.istore_n 3, 1) := by decide +kernel
theorem dX12_frees_39 : decode cX12_frees 39 = .ok (.iload_n 3, 1) := by decide +kernel
theorem dX12_frees_40 : decode cX12_frees 40 = .ok (.iconst 4, 1) := by decide +kernel
theorem dX12_frees_41 : decode cX12_frees 41 = .ok (.if_icmp .ge 35, 3) := by decide +kernel
theorem dX12_frees_44 : decode cX12_frees 44 = .ok (.aload_n 0, 1) := by decide +kernel
theorem dX12_frees_45 : decode cX12_frees 45 = .ok (.getfield 7, 3) := by decide +kernel
theorem dX12_frees_48 : decode cX12_frees 48 = .ok (.iload_n 2, 1) := by decide +kernel
theorem dX12_frees_49 : decode cX12_frees 49 = .ok (.iload_n 3, 1) := by decide +kernel
theorem dX12_frees_50 : decode cX12_frees 50 = .ok (.invokestatic 62, 3) := by decide +kernel
theorem dX12_frees_53 : decode cX12_frees 53 = .ok (.iaload, 1) := by decide +kernel
theorem dX12_frees_54 : decode cX12_frees 54 = .ok (.iload_n 1, 1) := by decide +kernel
theorem dX12_frees_55 : decode cX12_frees 55 = .ok (.if_icmp .ne 15, 3) := by decide +kernel
theorem dX12_frees_58 : decode cX12_frees 58 = .ok (.aload_n 0, 1) := by decide +kernel
theorem dX12_frees_59 : decode cX12_frees 59 = .ok (.getfield 7, 3) := by decide +kernel
theorem dX12_frees_62 : decode cX12_frees 62 = .ok (.iload_n 2, 1) := by decide +kernel
theorem dX12_frees_63 : decode cX12_frees 63 = .ok (.iload_n 3, 1) := by decide +kernel
theorem dX12_frees_64 : decode cX12_frees 64 = .ok (.invokestatic 62, 3) := by decide +kernel
theorem dX12_frees_67 : decode cX12_frees 67 = .ok (.bipush (-15), 2) := by decide +kernel
theorem dX12_frees_69 : decode cX12_frees 69 = .ok (.iastore, 1) := by decide +kernel
theorem dX12_frees_70 : decode cX12_frees 70 = .ok (.iinc 3 1, 3) := by decide +kernel
theorem dX12_frees_73 : decode cX12_frees 73 = .ok (.goto (-34), 3) := by decide +kernel
theorem dX12_frees_76 : decode cX12_frees 76 = .ok (.iinc 2 1, 3) := by decide +kernel
theorem dX12_frees_79 : decode cX12_frees 79 = .ok (.goto (-72), 3) := by decide +kernel
theorem dX12_frees_82 : decode cX12_frees 82 = .ok (.bipush 11, 2) := by decide +kernel
theorem dX12_frees_84 : decode cX12_frees 84 = .ok (.istore_n 2, 1) := by decide +kernel
theorem dX12_frees_85 : decode cX12_frees 85 = .ok (.iload_n 2, 1) := by decide +kernel
theorem dX12_frees_86 : decode cX12_frees 86 = .ok (.ifCond .le 31, 3) := by decide +kernel
theorem dX12_frees_89 : decode cX12_frees 89 = .ok (.aload_n 0, 1) := by decide +kernel
theorem dX12_frees_90 : decode cX12_frees 90 = .ok (.getfield 7, 3) := by decide +kernel
theorem dX12_frees_93 : decode cX12_frees 93 = .ok (.sipush 281, 3) := by decide +kernel
theorem dX12_frees_96 : decode cX12_frees 96 = .ok (.iload_n 2, 1) := by decide +kernel
theorem dX12_frees_97 : decode cX12_frees 97 = .ok (.iadd, 1) := by decide +kernel
theorem dX12_frees_98 : decode cX12_frees 98 = .ok (.aload_n 0, 1) := by decide +kernel
theorem dX12_frees_99 : decode cX12_frees 99 = .ok (.getfield 7, 3) := by decide +kernel
theorem dX12_frees_102 : decode cX12_frees 102 = .ok (.sipush 281, 3) := by decide +kernel
theorem dX12_frees_105 : decode cX12_frees 105 = .ok (.iload_n 2, 1) := by decide +kernel
theorem dX12_frees_106 : decode cX12_frees 106 = .ok (.iadd, 1) := by decide +kernel
theorem dX12_frees_107 : decode cX12_frees 107 = .ok (.iconst 1, 1) := by decide +kernel
theorem dX12_frees_108 : decode cX12_frees 108 = .ok (.isub, 1) := by decide +kernel
theorem dX12_frees_109 : decode cX12_frees 109 = .ok (.iaload, 1) := by decide +kernel
theorem dX12_frees_110 : decode cX12_frees 110 = .ok (.iastore, 1) := by decide +kernel
theorem dX12_frees_111 : decode cX12_frees 111 = .ok (.iinc 2 (-1), 3) := by decide +kernel
theorem dX12_frees_114 : decode cX12_frees 114 = .ok (.goto (-29), 3) := by decide +kernel
theorem dX12_frees_117 : decode cX12_frees 117 = .ok (.aload_n 0, 1) := by decide +kernel
theorem dX12_frees_118 : decode cX12_frees 118 = .ok (.getfield 7, 3) := by decide +kernel
theorem dX12_frees_121 : decode cX12_frees 121 = .ok (.sipush 281, 3) := by decide +kernel
theorem dX12_frees_124 : decode cX12_frees 124 = .ok (.iload_n 1, 1) := by decide +kernel
theorem dX12_frees_125 : decode cX12_frees 125 = .ok (.iastore, 1) := by decide +kernel
theorem dX12_frees_126 : decode cX12_frees 126 = .ok (.aload_n 0, 1) := by decide +kernel
theorem dX12_frees_127 : decode cX12_frees 127 = .ok (.getfield 7, 3) := by decide +kernel
theorem dX12_frees_130 : decode cX12_frees 130 = .ok (.bipush 10, 2) := by decide +kernel
theorem dX12_frees_132 : decode cX12_frees 132 = .ok (.dup2, 1) := by decide +kernel
theorem dX12_frees_133 : decode cX12_frees 133 = .ok (.iaload, 1) := by decide +kernel
theorem dX12_frees_134 : decode cX12_frees 134 = .ok (.aload_n 0, 1) := by decide +kernel
theorem dX12_frees_135 : decode cX12_frees 135 = .ok (.getfield 7, 3) := by decide +kernel
theorem dX12_frees_138 : decode cX12_frees 138 = .ok (.bipush 10, 2) := by decide +kernel
theorem dX12_frees_140 : decode cX12_frees 140 = .ok (.iaload, 1) := by decide +kernel
theorem dX12_frees_141 : decode cX12_frees 141 = .ok (.bipush 12, 2) := by decide +kernel
theorem dX12_frees_143 : decode cX12_frees 143 = .ok (.if_icmp .ge 7, 3) := by decide +kernel
theorem dX12_frees_146 : decode cX12_frees 146 = .ok (.iconst 1, 1) := by decide +kernel
theorem dX12_frees_147 : decode cX12_frees 147 = .ok (.goto 4, 3) := by decide +kernel
theorem dX12_frees_150 : decode cX12_frees 150 = .ok (.iconst 0, 1) := by decide +kernel
theorem dX12_frees_151 : decode cX12_frees 151 = .ok (.iadd, 1) := by decide +kernel
theorem dX12_frees_152 : decode cX12_frees 152 = .ok (.iastore, 1) := by decide +kernel
theorem dX12_frees_153 : decode cX12_frees 153 = .ok (.aload_n 0, 1) := by decide +kernel
theorem dX12_frees_154 : decode cX12_frees 154 = .ok (.getfield 7, 3) := by decide +kernel
theorem dX12_frees_157 : decode cX12_frees 157 = .ok (.iconst 4, 1) := by decide +kernel
theorem dX12_frees_158 : decode cX12_frees 158 = .ok (.dup2, 1) := by decide +kernel
theorem dX12_frees_159 : decode cX12_frees 159 = .ok (.iaload, 1) := by decide +kernel
theorem dX12_frees_160 : decode cX12_frees 160 = .ok (.iconst 1, 1) := by decide +kernel
theorem dX12_frees_161 : decode cX12_frees 161 = .ok (.iadd, 1) := by decide +kernel
theorem dX12_frees_162 : decode cX12_frees 162 = .ok (.iastore, 1) := by decide +kernel
theorem dX12_frees_163 : decode cX12_frees 163 = .ok (.return_, 1) := by decide +kernel
def f_X12_in (μ : mu_T) (a0 : Int) (a1 : Int) (a2 : Int) : Option Int :=
  lt_ a0 a1
      (some 0)
      (lt_ a2 a0
      (some 0)
      (some 1))
set_option maxHeartbeats 4000000 in
set_option maxRecDepth 100000 in
theorem c_X12_in {G : gp_} {ad : Nat → Nat} (μ : mu_T) (a0 : Int) (a1 : Int) (a2 : Int) (a : Int) (h : f_X12_in μ a0 a1 a2 = some a) : mi_ yX12_in cX12_in 3 (some .boolean) ({ frames := 0, cells := 0, slots := 0, locals := 0 } : Room) G 9 ad (ceM G ad) [.int (iI a0), .int (iI a1), .int (iI a2)] μ a μ := by
  refine mi_in (own := "UrnHeapModel") (lv := [(0, .int (iI a0)), (1, .int (iI a1)), (2, .int (iI a2))]) (by decide) rfl rfl (Nat.le_of_ble_eq_true rfl) (fun X C E => ?_)
  unfold f_X12_in at h
  refine xx_iload_n C 1 rfl 0 dX12_in_0 rfl rfl ?_
  refine xx_iload_n C 2 rfl 1 dX12_in_1 rfl rfl ?_
  refine xx_icmp_lt (tgt := 14) C 5 rfl dX12_in_2 (by decide) h (fun h => ?_) (fun h => ?_)
  · refine xx_iconst C 15 rfl dX12_in_14 ?_
    exact xx_zretl C E rfl rfl ⟨Nat.le_of_ble_eq_true rfl, Nat.le_of_ble_eq_true rfl⟩ dX12_in_15 h
  · refine xx_iload_n C 6 rfl 0 dX12_in_5 rfl rfl ?_
    refine xx_iload_n C 7 rfl 2 dX12_in_6 rfl rfl ?_
    refine xx_icmp_gt (tgt := 14) C 10 rfl dX12_in_7 (by decide) h (fun h => ?_) (fun h => ?_)
    · refine xx_iconst C 15 rfl dX12_in_14 ?_
      exact xx_zretl C E rfl rfl ⟨Nat.le_of_ble_eq_true rfl, Nat.le_of_ble_eq_true rfl⟩ dX12_in_15 h
    · refine xx_iconst C 11 rfl dX12_in_10 ?_
      refine xx_goto C 15 dX12_in_11 (by decide) ?_
      exact xx_zretl C E rfl rfl ⟨Nat.le_of_ble_eq_true rfl, Nat.le_of_ble_eq_true rfl⟩ dX12_in_15 h

def f_X12_remembers_L2  : Nat → Int → mu_T → Option mu_T
  | 0, _, _ => none
  | fu2 + 1, x1_2, μ2 => lt_ x1_2 293
      (rd_ μ2 1 293 x1_2 (fun v19 => wr_ μ2 2 293 x1_2 v19 (fun μ20 => nm_ (x1_2 + 1) (fun n21 => (f_X12_remembers_L2 fu2) n21 μ20))))
      (some μ2)
def f_X12_remembers (μ : mu_T)  : Option mu_T :=
  f_X12_remembers_L2 20000 0 μ
set_option maxHeartbeats 4000000 in
set_option maxRecDepth 100000 in
theorem c_X12_remembers {G : gp_} {ad : Nat → Nat} (μ : mu_T)  (μr : mu_T) (h : f_X12_remembers μ  = some μr) : mv_ yX12_remembers cX12_remembers 2 ({ frames := 0, cells := 0, slots := 0, locals := 0 } : Room) G 9 ad (ceM G ad) [.ref (ad 0)] μ μr := by
  refine mv_in (own := "UrnHeapModel") (lv := [(0, .ref (ad 0))]) (by decide) rfl rfl (Nat.le_of_ble_eq_true rfl) (fun X C E => ?_)
  unfold f_X12_remembers at h
  refine xx_iconst C 1 rfl dX12_remembers_0 ?_
  refine xx_istore_n (lv1 := [(1, .int (iI 0)), (0, .ref (ad 0))]) C 2 rfl (by decide) dX12_remembers_1 rfl rfl ?_
  have L2 : ∀ (fu2 : Nat) (x1_2 : Int) (μ2 : mu_T), f_X12_remembers_L2 fu2 x1_2 μ2 = some μr → wx_ G X 9 ad (ceM G ad) μ2 0 0 2 [(0, .ref (ad 0)), (1, .int (iI x1_2))] [] := by
    intro fu2
    induction fu2 with
    | zero => intro x1_2 μ2 h; exact nn_ h
    | succ fu2 K2 =>
      intro x1_2 μ2 h
      rw [f_X12_remembers_L2] at h
      generalize f_X12_remembers_L2 fu2 = R2 at K2 h
      refine xx_iload_n C 3 rfl 1 dX12_remembers_2 rfl rfl ?_
      refine xx_sipush C 6 rfl dX12_remembers_3 (by decide) ?_
      refine xx_icmp_ge (tgt := 27) C 9 rfl dX12_remembers_6 (by decide) h (fun h => ?_) (fun h => ?_)
      · exact xx_vret C E rfl ⟨Nat.le_of_ble_eq_true rfl, Nat.le_of_ble_eq_true rfl⟩ dX12_remembers_27 h
      · refine xx_aload_n C 10 rfl 0 dX12_remembers_9 rfl rfl ?_
        refine xx_getr (fi := 1) C 13 rfl (by decide) (ceM_0 _ _ _) rfl in_X12 (by decide) rfl w_1180 dX12_remembers_10 ?_
        refine xx_iload_n C 14 rfl 1 dX12_remembers_13 rfl rfl ?_
        refine xx_aload_n C 15 rfl 0 dX12_remembers_14 rfl rfl ?_
        refine xx_getr (fi := 0) C 18 rfl (by decide) (ceM_0 _ _ _) rfl in_X12 (by decide) rfl w_1179 dX12_remembers_15 ?_
        refine xx_iload_n C 19 rfl 1 dX12_remembers_18 rfl rfl ?_
        refine xx_iaload C 20 rfl (by decide) (fun _ => rfl) (by decide) dX12_remembers_19 h (fun v19 h => ?_)
        refine xx_iastore C 21 rfl (by decide) (fun _ => rfl) (by decide) dX12_remembers_20 h (fun μ20 h => ?_)
        refine xx_iincn C 24 rfl 1 (by decide) dX12_remembers_21 rfl h (fun n21 h => ?_)
        refine xx_lv (lv1 := [(1, .int (iI n21)), (0, .ref (ad 0))]) rfl ?_
        refine xx_goto C 2 dX12_remembers_24 (by decide) ?_
        refine xx_sub [1, 0] rfl ?_
        exact K2 n21 μ20 h
  refine xx_sub [1, 0] rfl ?_
  exact L2 _ _ _ h

def f_X12_changed_L55 (a1 : Int) : Nat → Int → mu_T → Option (Int × mu_T)
  | 0, _, _ => none
  | fu55 + 1, x2_55, μ55 => lt_ x2_55 293
      (nm_ (μ55 0 4) (fun v70 => rd_ μ55 2 293 x2_55 (fun v83 => wr_ μ55 4 2344 ((293 * (v70 - 1)) + x2_55) v83 (fun μ84 => nm_ (x2_55 + 1) (fun n85 => (f_X12_changed_L55 a1 fu55) n85 μ84)))))
      (some (a1, μ55))
def f_X12_changed_L11 (J40 : mu_T → Option (Int × mu_T)) : Nat → Int → mu_T → Option (Int × mu_T)
  | 0, _, _ => none
  | fu11 + 1, x2_11, μ11 => lt_ x2_11 2051
      (rd_ μ11 4 2344 (x2_11 + 293) (fun v32 => wr_ μ11 4 2344 x2_11 v32 (fun μ33 => nm_ (x2_11 + 1) (fun n34 => (f_X12_changed_L11 J40 fu11) n34 μ33))))
      (J40 μ11)
def f_X12_changed (μ : mu_T) (a1 : Int) : Option (Int × mu_T) :=
  nm_ (μ 0 4) (fun v1 => jn_ (φ := mu_T → Option (Int × mu_T)) (fun μ53 => f_X12_changed_L55 a1 20000 0 μ53)
      (fun J53 => eq_ v1 8
      (jn_ (φ := mu_T → Option (Int × mu_T)) (fun μ40 => J53 μ40)
      (fun J40 => f_X12_changed_L11 J40 20000 0 μ))
      (nm_ (μ 0 4) (fun v45 => wf_ μ 0 4 (v45 + 1) (fun μ50 => J53 μ50)))))
set_option maxHeartbeats 4000000 in
set_option maxRecDepth 100000 in
theorem c_X12_changed {G : gp_} {ad : Nat → Nat} (μ : mu_T) (a1 : Int) (a : Int) (μr : mu_T) (h : f_X12_changed μ a1 = some (a, μr)) : mi_ yX12_changed cX12_changed 3 (some .int) ({ frames := 0, cells := 0, slots := 0, locals := 0 } : Room) G 9 ad (ceM G ad) [.ref (ad 0), .int (iI a1)] μ a μr := by
  refine mi_in (own := "UrnHeapModel") (lv := [(0, .ref (ad 0)), (1, .int (iI a1))]) (by decide) rfl rfl (Nat.le_of_ble_eq_true rfl) (fun X C E => ?_)
  unfold f_X12_changed at h
  refine xx_aload_n C 1 rfl 0 dX12_changed_0 rfl rfl ?_
  refine xx_geti (fi := 4) (j := 4) C 4 rfl (by decide) (ceM_0 _ _ _) rfl in_X12 (by decide) rfl w_1183 dX12_changed_1 h (fun v1 h => ?_)
  refine xx_bipush C 6 rfl dX12_changed_4 (by decide) ?_
  refine jn_r (fun J => ∀ (μ53 : mu_T), J μ53 = some (a, μr) → wx_ G X 9 ad (ceM G ad) μ53 0 0 53 [(0, .ref (ad 0)), (1, .int (iI a1))] []) h (fun μ53 h => ?_) (fun J53 K53 h => ?_)
  · refine xx_iconst C 54 rfl dX12_changed_53 ?_
    refine xx_istore_n (lv1 := [(2, .int (iI 0)), (0, .ref (ad 0)), (1, .int (iI a1))]) C 55 rfl (by decide) dX12_changed_54 rfl rfl ?_
    have L55 : ∀ (fu55 : Nat) (x2_55 : Int) (μ55 : mu_T), f_X12_changed_L55 a1 fu55 x2_55 μ55 = some (a, μr) → wx_ G X 9 ad (ceM G ad) μ55 0 0 55 [(0, .ref (ad 0)), (1, .int (iI a1)), (2, .int (iI x2_55))] [] := by
      intro fu55
      induction fu55 with
      | zero => intro x2_55 μ55 h; exact nn_ h
      | succ fu55 K55 =>
        intro x2_55 μ55 h
        rw [f_X12_changed_L55] at h
        generalize f_X12_changed_L55 a1 fu55 = R55 at K55 h
        refine xx_iload_n C 56 rfl 2 dX12_changed_55 rfl rfl ?_
        refine xx_sipush C 59 rfl dX12_changed_56 (by decide) ?_
        refine xx_icmp_ge (tgt := 91) C 62 rfl dX12_changed_59 (by decide) h (fun h => ?_) (fun h => ?_)
        · refine xx_iload_n C 92 rfl 1 dX12_changed_91 rfl rfl ?_
          exact xx_iret C E rfl ⟨Nat.le_of_ble_eq_true rfl, Nat.le_of_ble_eq_true rfl⟩ dX12_changed_92 h
        · refine xx_aload_n C 63 rfl 0 dX12_changed_62 rfl rfl ?_
          refine xx_getr (fi := 3) C 66 rfl (by decide) (ceM_0 _ _ _) rfl in_X12 (by decide) rfl w_1182 dX12_changed_63 ?_
          refine xx_sipush C 69 rfl dX12_changed_66 (by decide) ?_
          refine xx_aload_n C 70 rfl 0 dX12_changed_69 rfl rfl ?_
          refine xx_geti (fi := 4) (j := 4) C 73 rfl (by decide) (ceM_0 _ _ _) rfl in_X12 (by decide) rfl w_1183 dX12_changed_70 h (fun v70 h => ?_)
          refine xx_iconst C 74 rfl dX12_changed_73 ?_
          refine xx_isub C 75 rfl dX12_changed_74 ?_
          refine xx_imul C 76 rfl dX12_changed_75 ?_
          refine xx_iload_n C 77 rfl 2 dX12_changed_76 rfl rfl ?_
          refine xx_iadd C 78 rfl dX12_changed_77 ?_
          refine xx_aload_n C 79 rfl 0 dX12_changed_78 rfl rfl ?_
          refine xx_getr (fi := 1) C 82 rfl (by decide) (ceM_0 _ _ _) rfl in_X12 (by decide) rfl w_1180 dX12_changed_79 ?_
          refine xx_iload_n C 83 rfl 2 dX12_changed_82 rfl rfl ?_
          refine xx_iaload C 84 rfl (by decide) (fun _ => rfl) (by decide) dX12_changed_83 h (fun v83 h => ?_)
          refine xx_iastore C 85 rfl (by decide) (fun _ => rfl) (by decide) dX12_changed_84 h (fun μ84 h => ?_)
          refine xx_iincn C 88 rfl 2 (by decide) dX12_changed_85 rfl h (fun n85 h => ?_)
          refine xx_lv (lv1 := [(2, .int (iI n85)), (0, .ref (ad 0)), (1, .int (iI a1))]) rfl ?_
          refine xx_goto C 55 dX12_changed_88 (by decide) ?_
          refine xx_sub [1, 2, 0] rfl ?_
          exact K55 n85 μ84 h
    refine xx_sub [1, 2, 0] rfl ?_
    exact L55 _ _ _ h
  · refine xx_icmp_ne (tgt := 43) C 9 rfl dX12_changed_6 (by decide) h (fun h => ?_) (fun h => ?_)
    · refine xx_aload_n C 44 rfl 0 dX12_changed_43 rfl rfl ?_
      refine xx_dup C 45 rfl dX12_changed_44 rfl ?_
      refine xx_geti (fi := 4) (j := 4) C 48 rfl (by decide) (ceM_0 _ _ _) rfl in_X12 (by decide) rfl w_1183 dX12_changed_45 h (fun v45 h => ?_)
      refine xx_iconst C 49 rfl dX12_changed_48 ?_
      refine xx_iadd C 50 rfl dX12_changed_49 ?_
      refine xx_puti (fi := 4) (j := 4) C 53 rfl (by decide) (ceM_0 _ _ _) (puM_4 _ _ _ _) rfl in_X12 tyX12 tyX12_ok nmX12 (by decide) (Nat.le_of_ble_eq_true rfl) ⟨rfl, rfl⟩ w_1183 dX12_changed_50 h (fun μ50 h => ?_)
      exact K53 μ50 h
    · refine xx_iconst C 10 rfl dX12_changed_9 ?_
      refine xx_istore_n (lv1 := [(2, .int (iI 0)), (0, .ref (ad 0)), (1, .int (iI a1))]) C 11 rfl (by decide) dX12_changed_10 rfl rfl ?_
      refine jn_r (fun J => ∀ (μ40 : mu_T), J μ40 = some (a, μr) → wx_ G X 9 ad (ceM G ad) μ40 0 0 40 [(0, .ref (ad 0)), (1, .int (iI a1))] []) h (fun μ40 h => ?_) (fun J40 K40 h => ?_)
      · refine xx_goto C 53 dX12_changed_40 (by decide) ?_
        exact K53 μ40 h
      · have L11 : ∀ (fu11 : Nat) (x2_11 : Int) (μ11 : mu_T), f_X12_changed_L11 J40 fu11 x2_11 μ11 = some (a, μr) → wx_ G X 9 ad (ceM G ad) μ11 0 0 11 [(0, .ref (ad 0)), (1, .int (iI a1)), (2, .int (iI x2_11))] [] := by
          intro fu11
          induction fu11 with
          | zero => intro x2_11 μ11 h; exact nn_ h
          | succ fu11 K11 =>
            intro x2_11 μ11 h
            rw [f_X12_changed_L11] at h
            generalize f_X12_changed_L11 J40 fu11 = R11 at K11 h
            refine xx_iload_n C 12 rfl 2 dX12_changed_11 rfl rfl ?_
            refine xx_sipush C 15 rfl dX12_changed_12 (by decide) ?_
            refine xx_icmp_ge (tgt := 40) C 18 rfl dX12_changed_15 (by decide) h (fun h => ?_) (fun h => ?_)
            · refine xx_sub [0, 1] rfl ?_
              exact K40 μ11 h
            · refine xx_aload_n C 19 rfl 0 dX12_changed_18 rfl rfl ?_
              refine xx_getr (fi := 3) C 22 rfl (by decide) (ceM_0 _ _ _) rfl in_X12 (by decide) rfl w_1182 dX12_changed_19 ?_
              refine xx_iload_n C 23 rfl 2 dX12_changed_22 rfl rfl ?_
              refine xx_aload_n C 24 rfl 0 dX12_changed_23 rfl rfl ?_
              refine xx_getr (fi := 3) C 27 rfl (by decide) (ceM_0 _ _ _) rfl in_X12 (by decide) rfl w_1182 dX12_changed_24 ?_
              refine xx_iload_n C 28 rfl 2 dX12_changed_27 rfl rfl ?_
              refine xx_sipush C 31 rfl dX12_changed_28 (by decide) ?_
              refine xx_iadd C 32 rfl dX12_changed_31 ?_
              refine xx_iaload C 33 rfl (by decide) (fun _ => rfl) (by decide) dX12_changed_32 h (fun v32 h => ?_)
              refine xx_iastore C 34 rfl (by decide) (fun _ => rfl) (by decide) dX12_changed_33 h (fun μ33 h => ?_)
              refine xx_iincn C 37 rfl 2 (by decide) dX12_changed_34 rfl h (fun n34 h => ?_)
              refine xx_lv (lv1 := [(2, .int (iI n34)), (0, .ref (ad 0)), (1, .int (iI a1))]) rfl ?_
              refine xx_goto C 11 dX12_changed_37 (by decide) ?_
              refine xx_sub [1, 2, 0] rfl ?_
              exact K11 n34 μ33 h
        refine xx_sub [1, 2, 0] rfl ?_
        exact L11 _ _ _ h

def f_X12_refused (μ : mu_T) (a1 : Int) (a2 : Int) : Option (Int × mu_T) :=
  wf_ μ 0 14 a2 (fun μ2 => some (a1, μ2))
set_option maxHeartbeats 4000000 in
set_option maxRecDepth 100000 in
theorem c_X12_refused {G : gp_} {ad : Nat → Nat} (μ : mu_T) (a1 : Int) (a2 : Int) (a : Int) (μr : mu_T) (h : f_X12_refused μ a1 a2 = some (a, μr)) : mi_ yX12_refused cX12_refused 3 (some .int) ({ frames := 0, cells := 0, slots := 0, locals := 0 } : Room) G 9 ad (ceM G ad) [.ref (ad 0), .int (iI a1), .int (iI a2)] μ a μr := by
  refine mi_in (own := "UrnHeapModel") (lv := [(0, .ref (ad 0)), (1, .int (iI a1)), (2, .int (iI a2))]) (by decide) rfl rfl (Nat.le_of_ble_eq_true rfl) (fun X C E => ?_)
  unfold f_X12_refused at h
  refine xx_aload_n C 1 rfl 0 dX12_refused_0 rfl rfl ?_
  refine xx_iload_n C 2 rfl 2 dX12_refused_1 rfl rfl ?_
  refine xx_puti (fi := 14) (j := 14) C 5 rfl (by decide) (ceM_0 _ _ _) (puM_14 _ _ _ _) rfl in_X12 tyX12 tyX12_ok nmX12 (by decide) (Nat.le_of_ble_eq_true rfl) ⟨rfl, rfl⟩ w_1193 dX12_refused_2 h (fun μ2 h => ?_)
  refine xx_iload_n C 6 rfl 1 dX12_refused_5 rfl rfl ?_
  exact xx_iret C E rfl ⟨Nat.le_of_ble_eq_true rfl, Nat.le_of_ble_eq_true rfl⟩ dX12_refused_6 h

def f_X12_done (μ : mu_T) (a1 : Int) : Option (Int × mu_T) :=
  wf_ μ 0 15 a1 (fun μ2 => some (0, μ2))
set_option maxHeartbeats 4000000 in
set_option maxRecDepth 100000 in
theorem c_X12_done {G : gp_} {ad : Nat → Nat} (μ : mu_T) (a1 : Int) (a : Int) (μr : mu_T) (h : f_X12_done μ a1 = some (a, μr)) : mi_ yX12_done cX12_done 2 (some .int) ({ frames := 0, cells := 0, slots := 0, locals := 0 } : Room) G 9 ad (ceM G ad) [.ref (ad 0), .int (iI a1)] μ a μr := by
  refine mi_in (own := "UrnHeapModel") (lv := [(0, .ref (ad 0)), (1, .int (iI a1))]) (by decide) rfl rfl (Nat.le_of_ble_eq_true rfl) (fun X C E => ?_)
  unfold f_X12_done at h
  refine xx_aload_n C 1 rfl 0 dX12_done_0 rfl rfl ?_
  refine xx_iload_n C 2 rfl 1 dX12_done_1 rfl rfl ?_
  refine xx_puti (fi := 15) (j := 15) C 5 rfl (by decide) (ceM_0 _ _ _) (puM_15 _ _ _ _) rfl in_X12 tyX12 tyX12_ok nmX12 (by decide) (Nat.le_of_ble_eq_true rfl) ⟨rfl, rfl⟩ w_1194 dX12_done_2 h (fun μ2 h => ?_)
  refine xx_iconst C 6 rfl dX12_done_5 ?_
  exact xx_iret C E rfl ⟨Nat.le_of_ble_eq_true rfl, Nat.le_of_ble_eq_true rfl⟩ dX12_done_6 h

def f_X12_ends (μ : mu_T) (a1 : Int) : Option (Int × mu_T) :=
  eq_ a1 0
      (nm_ (μ 0 15) (fun v6 => bp_ (f_X12_changed μ v6) (fun v9 μ9 => some (v9, μ9))))
      (lt_ a1 0
      (some (a1, μ))
      (wf_ μ 0 12 a1 (fun μ21 => nm_ (μ21 0 14) (fun v26 => wf_ μ21 0 13 v26 (fun μ29 => some ((-14), μ29))))))
set_option maxHeartbeats 4000000 in
set_option maxRecDepth 100000 in
theorem c_X12_ends {G : gp_} {ad : Nat → Nat} (μ : mu_T) (a1 : Int) (a : Int) (μr : mu_T) (h : f_X12_ends μ a1 = some (a, μr)) : mi_ yX12_ends cX12_ends 2 (some .int) ({ frames := 1, cells := 0, slots := 0, locals := 22 } : Room) G 9 ad (ceM G ad) [.ref (ad 0), .int (iI a1)] μ a μr := by
  refine mi_in (own := "UrnHeapModel") (lv := [(0, .ref (ad 0)), (1, .int (iI a1))]) (by decide) rfl rfl (Nat.le_of_ble_eq_true rfl) (fun X C E => ?_)
  unfold f_X12_ends at h
  refine xx_iload_n C 1 rfl 1 dX12_ends_0 rfl rfl ?_
  refine xx_if_ne (tgt := 13) C 4 rfl dX12_ends_1 (by decide) h (fun h => ?_) (fun h => ?_)
  · refine xx_iload_n C 14 rfl 1 dX12_ends_13 rfl rfl ?_
    refine xx_if_ge (tgt := 19) C 17 rfl dX12_ends_14 (by decide) h (fun h => ?_) (fun h => ?_)
    · refine xx_aload_n C 20 rfl 0 dX12_ends_19 rfl rfl ?_
      refine xx_iload_n C 21 rfl 1 dX12_ends_20 rfl rfl ?_
      refine xx_puti (fi := 12) (j := 12) C 24 rfl (by decide) (ceM_0 _ _ _) (puM_12 _ _ _ _) rfl in_X12 tyX12 tyX12_ok nmX12 (by decide) (Nat.le_of_ble_eq_true rfl) ⟨rfl, rfl⟩ w_1191 dX12_ends_21 h (fun μ21 h => ?_)
      refine xx_aload_n C 25 rfl 0 dX12_ends_24 rfl rfl ?_
      refine xx_aload_n C 26 rfl 0 dX12_ends_25 rfl rfl ?_
      refine xx_geti (fi := 14) (j := 14) C 29 rfl (by decide) (ceM_0 _ _ _) rfl in_X12 (by decide) rfl w_1193 dX12_ends_26 h (fun v26 h => ?_)
      refine xx_puti (fi := 13) (j := 13) C 32 rfl (by decide) (ceM_0 _ _ _) (puM_13 _ _ _ _) rfl in_X12 tyX12 tyX12_ok nmX12 (by decide) (Nat.le_of_ble_eq_true rfl) ⟨rfl, rfl⟩ w_1192 dX12_ends_29 h (fun μ29 h => ?_)
      refine xx_bipush C 34 rfl dX12_ends_32 (by decide) ?_
      exact xx_iret C E rfl ⟨Nat.le_of_ble_eq_true rfl, Nat.le_of_ble_eq_true rfl⟩ dX12_ends_34 h
    · refine xx_iload_n C 18 rfl 1 dX12_ends_17 rfl rfl ?_
      exact xx_iret C E rfl ⟨Nat.le_of_ble_eq_true rfl, Nat.le_of_ble_eq_true rfl⟩ dX12_ends_18 h
  · refine xx_aload_n C 5 rfl 0 dX12_ends_4 rfl rfl ?_
    refine xx_aload_n C 6 rfl 0 dX12_ends_5 rfl rfl ?_
    refine xx_geti (fi := 15) (j := 15) C 9 rfl (by decide) (ceM_0 _ _ _) rfl in_X12 (by decide) rfl w_1194 dX12_ends_6 h (fun v6 h => ?_)
    refine xx_cVi (As := [.int (iI v6)]) (st := []) (o := 0) C 12 rfl (by decide) (ceM_0 _ _ _) rfl rfl ca_X12_changed cv_X12_changed w_1264 rfl ⟨Nat.le_of_ble_eq_true rfl, Nat.le_of_ble_eq_true rfl⟩ ⟨Nat.le_of_ble_eq_true rfl, Nat.le_of_ble_eq_true rfl⟩ (Nat.le_of_ble_eq_true rfl) dX12_ends_9 (fun v9 μ9 e9 => c_X12_changed _ _ v9 μ9 e9) h (fun v9 μ9 h => ?_) rfl
    exact xx_iret C E rfl ⟨Nat.le_of_ble_eq_true rfl, Nat.le_of_ble_eq_true rfl⟩ dX12_ends_12 h

def f_X12_isUrn (μ : mu_T) (a1 : Int) : Option Int :=
  bd_ (f_X12_in μ a1 0 23) (fun v4 => eq_ v4 0
      (some 0)
      (rd_ μ 1 293 (17 + a1) (fun v18 => eq_ v18 1
      (some 1)
      (some 0))))
set_option maxHeartbeats 4000000 in
set_option maxRecDepth 100000 in
theorem c_X12_isUrn {G : gp_} {ad : Nat → Nat} (μ : mu_T) (a1 : Int) (a : Int) (h : f_X12_isUrn μ a1 = some a) : mi_ yX12_isUrn cX12_isUrn 2 (some .boolean) ({ frames := 1, cells := 0, slots := 0, locals := 22 } : Room) G 9 ad (ceM G ad) [.ref (ad 0), .int (iI a1)] μ a μ := by
  refine mi_in (own := "UrnHeapModel") (lv := [(0, .ref (ad 0)), (1, .int (iI a1))]) (by decide) rfl rfl (Nat.le_of_ble_eq_true rfl) (fun X C E => ?_)
  unfold f_X12_isUrn at h
  refine xx_iload_n C 1 rfl 1 dX12_isUrn_0 rfl rfl ?_
  refine xx_iconst C 2 rfl dX12_isUrn_1 ?_
  refine xx_bipush C 4 rfl dX12_isUrn_2 (by decide) ?_
  refine xx_cSip (As := [.int (iI a1), .int (iI 0), .int (iI 23)]) (st := []) C 7 rfl  ca_X12_in cs_X12_in w_1280 rfl ⟨Nat.le_of_ble_eq_true rfl, Nat.le_of_ble_eq_true rfl⟩ ⟨Nat.le_of_ble_eq_true rfl, Nat.le_of_ble_eq_true rfl⟩ (Nat.le_of_ble_eq_true rfl) dX12_isUrn_4 (fun v4 e9 => c_X12_in _ _ _ _ v4 e9) h (fun v4 h => ?_) rfl
  refine xx_if_eq (tgt := 27) C 10 rfl dX12_isUrn_7 (by decide) h (fun h => ?_) (fun h => ?_)
  · refine xx_iconst C 28 rfl dX12_isUrn_27 ?_
    exact xx_zretl C E rfl rfl ⟨Nat.le_of_ble_eq_true rfl, Nat.le_of_ble_eq_true rfl⟩ dX12_isUrn_28 h
  · refine xx_aload_n C 11 rfl 0 dX12_isUrn_10 rfl rfl ?_
    refine xx_getr (fi := 0) C 14 rfl (by decide) (ceM_0 _ _ _) rfl in_X12 (by decide) rfl w_1179 dX12_isUrn_11 ?_
    refine xx_bipush C 16 rfl dX12_isUrn_14 (by decide) ?_
    refine xx_iload_n C 17 rfl 1 dX12_isUrn_16 rfl rfl ?_
    refine xx_iadd C 18 rfl dX12_isUrn_17 ?_
    refine xx_iaload C 19 rfl (by decide) (fun _ => rfl) (by decide) dX12_isUrn_18 h (fun v18 h => ?_)
    refine xx_iconst C 20 rfl dX12_isUrn_19 ?_
    refine xx_icmp_ne (tgt := 27) C 23 rfl dX12_isUrn_20 (by decide) h (fun h => ?_) (fun h => ?_)
    · refine xx_iconst C 28 rfl dX12_isUrn_27 ?_
      exact xx_zretl C E rfl rfl ⟨Nat.le_of_ble_eq_true rfl, Nat.le_of_ble_eq_true rfl⟩ dX12_isUrn_28 h
    · refine xx_iconst C 24 rfl dX12_isUrn_23 ?_
      refine xx_goto C 28 dX12_isUrn_24 (by decide) ?_
      exact xx_zretl C E rfl rfl ⟨Nat.le_of_ble_eq_true rfl, Nat.le_of_ble_eq_true rfl⟩ dX12_isUrn_28 h

def f_X12_at (μ : mu_T) (a0 : Int) (a1 : Int) : Option Int :=
  some ((137 + (4 * a0)) + a1)
set_option maxHeartbeats 4000000 in
set_option maxRecDepth 100000 in
theorem c_X12_at {G : gp_} {ad : Nat → Nat} (μ : mu_T) (a0 : Int) (a1 : Int) (a : Int) (h : f_X12_at μ a0 a1 = some a) : mi_ yX12_at cX12_at 2 (some .int) ({ frames := 0, cells := 0, slots := 0, locals := 0 } : Room) G 9 ad (ceM G ad) [.int (iI a0), .int (iI a1)] μ a μ := by
  refine mi_in (own := "UrnHeapModel") (lv := [(0, .int (iI a0)), (1, .int (iI a1))]) (by decide) rfl rfl (Nat.le_of_ble_eq_true rfl) (fun X C E => ?_)
  unfold f_X12_at at h
  refine xx_sipush C 3 rfl dX12_at_0 (by decide) ?_
  refine xx_iconst C 4 rfl dX12_at_3 ?_
  refine xx_iload_n C 5 rfl 0 dX12_at_4 rfl rfl ?_
  refine xx_imul C 6 rfl dX12_at_5 ?_
  refine xx_iadd C 7 rfl dX12_at_6 ?_
  refine xx_iload_n C 8 rfl 1 dX12_at_7 rfl rfl ?_
  refine xx_iadd C 9 rfl dX12_at_8 ?_
  exact xx_iretp C E rfl ⟨Nat.le_of_ble_eq_true rfl, Nat.le_of_ble_eq_true rfl⟩ dX12_at_9 h

def f_X12_empties_L53 (a1 : Int) : Nat → Int → mu_T → Option mu_T
  | 0, _, _ => none
  | fu53 + 1, x2_53, μ53 => lt_ x2_53 4
      (bd_ (f_X12_at μ53 a1 x2_53) (fun v64 => wr_ μ53 1 293 v64 (-15) (fun μ69 => nm_ (x2_53 + 1) (fun n70 => (f_X12_empties_L53 a1 fu53) n70 μ69))))
      (some μ53)
def f_X12_empties (μ : mu_T) (a1 : Int) : Option mu_T :=
  wr_ μ 1 293 (17 + a1) 0 (fun μ9 => wr_ μ9 1 293 (41 + a1) 0 (fun μ19 => wr_ μ19 1 293 (65 + a1) 0 (fun μ29 => wr_ μ29 1 293 (89 + a1) 0 (fun μ39 => wr_ μ39 1 293 (113 + a1) (-15) (fun μ50 => f_X12_empties_L53 a1 20000 0 μ50)))))
set_option maxHeartbeats 4000000 in
set_option maxRecDepth 100000 in
theorem c_X12_empties {G : gp_} {ad : Nat → Nat} (μ : mu_T) (a1 : Int) (μr : mu_T) (h : f_X12_empties μ a1 = some μr) : mv_ yX12_empties cX12_empties 3 ({ frames := 1, cells := 0, slots := 0, locals := 21 } : Room) G 9 ad (ceM G ad) [.ref (ad 0), .int (iI a1)] μ μr := by
  refine mv_in (own := "UrnHeapModel") (lv := [(0, .ref (ad 0)), (1, .int (iI a1))]) (by decide) rfl rfl (Nat.le_of_ble_eq_true rfl) (fun X C E => ?_)
  unfold f_X12_empties at h
  refine xx_aload_n C 1 rfl 0 dX12_empties_0 rfl rfl ?_
  refine xx_getr (fi := 0) C 4 rfl (by decide) (ceM_0 _ _ _) rfl in_X12 (by decide) rfl w_1179 dX12_empties_1 ?_
  refine xx_bipush C 6 rfl dX12_empties_4 (by decide) ?_
  refine xx_iload_n C 7 rfl 1 dX12_empties_6 rfl rfl ?_
  refine xx_iadd C 8 rfl dX12_empties_7 ?_
  refine xx_iconst C 9 rfl dX12_empties_8 ?_
  refine xx_iastore C 10 rfl (by decide) (fun _ => rfl) (by decide) dX12_empties_9 h (fun μ9 h => ?_)
  refine xx_aload_n C 11 rfl 0 dX12_empties_10 rfl rfl ?_
  refine xx_getr (fi := 0) C 14 rfl (by decide) (ceM_0 _ _ _) rfl in_X12 (by decide) rfl w_1179 dX12_empties_11 ?_
  refine xx_bipush C 16 rfl dX12_empties_14 (by decide) ?_
  refine xx_iload_n C 17 rfl 1 dX12_empties_16 rfl rfl ?_
  refine xx_iadd C 18 rfl dX12_empties_17 ?_
  refine xx_iconst C 19 rfl dX12_empties_18 ?_
  refine xx_iastore C 20 rfl (by decide) (fun _ => rfl) (by decide) dX12_empties_19 h (fun μ19 h => ?_)
  refine xx_aload_n C 21 rfl 0 dX12_empties_20 rfl rfl ?_
  refine xx_getr (fi := 0) C 24 rfl (by decide) (ceM_0 _ _ _) rfl in_X12 (by decide) rfl w_1179 dX12_empties_21 ?_
  refine xx_bipush C 26 rfl dX12_empties_24 (by decide) ?_
  refine xx_iload_n C 27 rfl 1 dX12_empties_26 rfl rfl ?_
  refine xx_iadd C 28 rfl dX12_empties_27 ?_
  refine xx_iconst C 29 rfl dX12_empties_28 ?_
  refine xx_iastore C 30 rfl (by decide) (fun _ => rfl) (by decide) dX12_empties_29 h (fun μ29 h => ?_)
  refine xx_aload_n C 31 rfl 0 dX12_empties_30 rfl rfl ?_
  refine xx_getr (fi := 0) C 34 rfl (by decide) (ceM_0 _ _ _) rfl in_X12 (by decide) rfl w_1179 dX12_empties_31 ?_
  refine xx_bipush C 36 rfl dX12_empties_34 (by decide) ?_
  refine xx_iload_n C 37 rfl 1 dX12_empties_36 rfl rfl ?_
  refine xx_iadd C 38 rfl dX12_empties_37 ?_
  refine xx_iconst C 39 rfl dX12_empties_38 ?_
  refine xx_iastore C 40 rfl (by decide) (fun _ => rfl) (by decide) dX12_empties_39 h (fun μ39 h => ?_)
  refine xx_aload_n C 41 rfl 0 dX12_empties_40 rfl rfl ?_
  refine xx_getr (fi := 0) C 44 rfl (by decide) (ceM_0 _ _ _) rfl in_X12 (by decide) rfl w_1179 dX12_empties_41 ?_
  refine xx_bipush C 46 rfl dX12_empties_44 (by decide) ?_
  refine xx_iload_n C 47 rfl 1 dX12_empties_46 rfl rfl ?_
  refine xx_iadd C 48 rfl dX12_empties_47 ?_
  refine xx_bipush C 50 rfl dX12_empties_48 (by decide) ?_
  refine xx_iastore C 51 rfl (by decide) (fun _ => rfl) (by decide) dX12_empties_50 h (fun μ50 h => ?_)
  refine xx_iconst C 52 rfl dX12_empties_51 ?_
  refine xx_istore_n (lv1 := [(2, .int (iI 0)), (0, .ref (ad 0)), (1, .int (iI a1))]) C 53 rfl (by decide) dX12_empties_52 rfl rfl ?_
  have L53 : ∀ (fu53 : Nat) (x2_53 : Int) (μ53 : mu_T), f_X12_empties_L53 a1 fu53 x2_53 μ53 = some μr → wx_ G X 9 ad (ceM G ad) μ53 0 0 53 [(0, .ref (ad 0)), (1, .int (iI a1)), (2, .int (iI x2_53))] [] := by
    intro fu53
    induction fu53 with
    | zero => intro x2_53 μ53 h; exact nn_ h
    | succ fu53 K53 =>
      intro x2_53 μ53 h
      rw [f_X12_empties_L53] at h
      generalize f_X12_empties_L53 a1 fu53 = R53 at K53 h
      refine xx_iload_n C 54 rfl 2 dX12_empties_53 rfl rfl ?_
      refine xx_iconst C 55 rfl dX12_empties_54 ?_
      refine xx_icmp_ge (tgt := 76) C 58 rfl dX12_empties_55 (by decide) h (fun h => ?_) (fun h => ?_)
      · exact xx_vret C E rfl ⟨Nat.le_of_ble_eq_true rfl, Nat.le_of_ble_eq_true rfl⟩ dX12_empties_76 h
      · refine xx_aload_n C 59 rfl 0 dX12_empties_58 rfl rfl ?_
        refine xx_getr (fi := 0) C 62 rfl (by decide) (ceM_0 _ _ _) rfl in_X12 (by decide) rfl w_1179 dX12_empties_59 ?_
        refine xx_iload_n C 63 rfl 1 dX12_empties_62 rfl rfl ?_
        refine xx_iload_n C 64 rfl 2 dX12_empties_63 rfl rfl ?_
        refine xx_cSip (As := [.int (iI a1), .int (iI x2_53)]) (st := [.ref (ad 1)]) C 67 rfl  ca_X12_at cs_X12_at w_1176 rfl ⟨Nat.le_of_ble_eq_true rfl, Nat.le_of_ble_eq_true rfl⟩ ⟨Nat.le_of_ble_eq_true rfl, Nat.le_of_ble_eq_true rfl⟩ (Nat.le_of_ble_eq_true rfl) dX12_empties_64 (fun v64 e9 => c_X12_at _ _ _ v64 e9) h (fun v64 h => ?_) rfl
        refine xx_bipush C 69 rfl dX12_empties_67 (by decide) ?_
        refine xx_iastore C 70 rfl (by decide) (fun _ => rfl) (by decide) dX12_empties_69 h (fun μ69 h => ?_)
        refine xx_iincn C 73 rfl 2 (by decide) dX12_empties_70 rfl h (fun n70 h => ?_)
        refine xx_lv (lv1 := [(2, .int (iI n70)), (0, .ref (ad 0)), (1, .int (iI a1))]) rfl ?_
        refine xx_goto C 53 dX12_empties_73 (by decide) ?_
        refine xx_sub [1, 2, 0] rfl ?_
        exact K53 n70 μ69 h
  refine xx_sub [1, 2, 0] rfl ?_
  exact L53 _ _ _ h

def f_X12_isDoomed (μ : mu_T) (a1 : Int) : Option Int :=
  rd_ μ 1 293 0 (fun v5 => eq_ v5 2
      (rd_ μ 1 293 (41 + a1) (fun v18 => eq_ v18 0
      (rd_ μ 1 293 1 (fun v28 => lt_ a1 v28
      (some 0)
      (some 1)))
      (some 0)))
      (some 0))
set_option maxHeartbeats 4000000 in
set_option maxRecDepth 100000 in
theorem c_X12_isDoomed {G : gp_} {ad : Nat → Nat} (μ : mu_T) (a1 : Int) (a : Int) (h : f_X12_isDoomed μ a1 = some a) : mi_ yX12_isDoomed cX12_isDoomed 2 (some .boolean) ({ frames := 0, cells := 0, slots := 0, locals := 0 } : Room) G 9 ad (ceM G ad) [.ref (ad 0), .int (iI a1)] μ a μ := by
  refine mi_in (own := "UrnHeapModel") (lv := [(0, .ref (ad 0)), (1, .int (iI a1))]) (by decide) rfl rfl (Nat.le_of_ble_eq_true rfl) (fun X C E => ?_)
  unfold f_X12_isDoomed at h
  refine xx_aload_n C 1 rfl 0 dX12_isDoomed_0 rfl rfl ?_
  refine xx_getr (fi := 0) C 4 rfl (by decide) (ceM_0 _ _ _) rfl in_X12 (by decide) rfl w_1179 dX12_isDoomed_1 ?_
  refine xx_iconst C 5 rfl dX12_isDoomed_4 ?_
  refine xx_iaload C 6 rfl (by decide) (fun _ => rfl) (by decide) dX12_isDoomed_5 h (fun v5 h => ?_)
  refine xx_iconst C 7 rfl dX12_isDoomed_6 ?_
  refine xx_icmp_ne (tgt := 36) C 10 rfl dX12_isDoomed_7 (by decide) h (fun h => ?_) (fun h => ?_)
  · refine xx_iconst C 37 rfl dX12_isDoomed_36 ?_
    exact xx_zretl C E rfl rfl ⟨Nat.le_of_ble_eq_true rfl, Nat.le_of_ble_eq_true rfl⟩ dX12_isDoomed_37 h
  · refine xx_aload_n C 11 rfl 0 dX12_isDoomed_10 rfl rfl ?_
    refine xx_getr (fi := 0) C 14 rfl (by decide) (ceM_0 _ _ _) rfl in_X12 (by decide) rfl w_1179 dX12_isDoomed_11 ?_
    refine xx_bipush C 16 rfl dX12_isDoomed_14 (by decide) ?_
    refine xx_iload_n C 17 rfl 1 dX12_isDoomed_16 rfl rfl ?_
    refine xx_iadd C 18 rfl dX12_isDoomed_17 ?_
    refine xx_iaload C 19 rfl (by decide) (fun _ => rfl) (by decide) dX12_isDoomed_18 h (fun v18 h => ?_)
    refine xx_if_ne (tgt := 36) C 22 rfl dX12_isDoomed_19 (by decide) h (fun h => ?_) (fun h => ?_)
    · refine xx_iconst C 37 rfl dX12_isDoomed_36 ?_
      exact xx_zretl C E rfl rfl ⟨Nat.le_of_ble_eq_true rfl, Nat.le_of_ble_eq_true rfl⟩ dX12_isDoomed_37 h
    · refine xx_iload_n C 23 rfl 1 dX12_isDoomed_22 rfl rfl ?_
      refine xx_aload_n C 24 rfl 0 dX12_isDoomed_23 rfl rfl ?_
      refine xx_getr (fi := 0) C 27 rfl (by decide) (ceM_0 _ _ _) rfl in_X12 (by decide) rfl w_1179 dX12_isDoomed_24 ?_
      refine xx_iconst C 28 rfl dX12_isDoomed_27 ?_
      refine xx_iaload C 29 rfl (by decide) (fun _ => rfl) (by decide) dX12_isDoomed_28 h (fun v28 h => ?_)
      refine xx_icmp_lt (tgt := 36) C 32 rfl dX12_isDoomed_29 (by decide) h (fun h => ?_) (fun h => ?_)
      · refine xx_iconst C 37 rfl dX12_isDoomed_36 ?_
        exact xx_zretl C E rfl rfl ⟨Nat.le_of_ble_eq_true rfl, Nat.le_of_ble_eq_true rfl⟩ dX12_isDoomed_37 h
      · refine xx_iconst C 33 rfl dX12_isDoomed_32 ?_
        refine xx_goto C 37 dX12_isDoomed_33 (by decide) ?_
        exact xx_zretl C E rfl rfl ⟨Nat.le_of_ble_eq_true rfl, Nat.le_of_ble_eq_true rfl⟩ dX12_isDoomed_37 h

def f_X12_greys (μ : mu_T) (a1 : Int) : Option mu_T :=
  wr_ μ 1 293 (41 + a1) 1 (fun μ9 => rd_ μ9 1 293 8 (fun v23 => wr_ μ9 1 293 (233 + v23) a1 (fun μ26 => rd_ μ26 1 293 8 (fun v34 => wr_ μ26 1 293 8 (v34 + 1) (fun μ37 => some μ37)))))
set_option maxHeartbeats 4000000 in
set_option maxRecDepth 100000 in
theorem c_X12_greys {G : gp_} {ad : Nat → Nat} (μ : mu_T) (a1 : Int) (μr : mu_T) (h : f_X12_greys μ a1 = some μr) : mv_ yX12_greys cX12_greys 2 ({ frames := 0, cells := 0, slots := 0, locals := 0 } : Room) G 9 ad (ceM G ad) [.ref (ad 0), .int (iI a1)] μ μr := by
  refine mv_in (own := "UrnHeapModel") (lv := [(0, .ref (ad 0)), (1, .int (iI a1))]) (by decide) rfl rfl (Nat.le_of_ble_eq_true rfl) (fun X C E => ?_)
  unfold f_X12_greys at h
  refine xx_aload_n C 1 rfl 0 dX12_greys_0 rfl rfl ?_
  refine xx_getr (fi := 0) C 4 rfl (by decide) (ceM_0 _ _ _) rfl in_X12 (by decide) rfl w_1179 dX12_greys_1 ?_
  refine xx_bipush C 6 rfl dX12_greys_4 (by decide) ?_
  refine xx_iload_n C 7 rfl 1 dX12_greys_6 rfl rfl ?_
  refine xx_iadd C 8 rfl dX12_greys_7 ?_
  refine xx_iconst C 9 rfl dX12_greys_8 ?_
  refine xx_iastore C 10 rfl (by decide) (fun _ => rfl) (by decide) dX12_greys_9 h (fun μ9 h => ?_)
  refine xx_aload_n C 11 rfl 0 dX12_greys_10 rfl rfl ?_
  refine xx_getr (fi := 0) C 14 rfl (by decide) (ceM_0 _ _ _) rfl in_X12 (by decide) rfl w_1179 dX12_greys_11 ?_
  refine xx_sipush C 17 rfl dX12_greys_14 (by decide) ?_
  refine xx_aload_n C 18 rfl 0 dX12_greys_17 rfl rfl ?_
  refine xx_getr (fi := 0) C 21 rfl (by decide) (ceM_0 _ _ _) rfl in_X12 (by decide) rfl w_1179 dX12_greys_18 ?_
  refine xx_bipush C 23 rfl dX12_greys_21 (by decide) ?_
  refine xx_iaload C 24 rfl (by decide) (fun _ => rfl) (by decide) dX12_greys_23 h (fun v23 h => ?_)
  refine xx_iadd C 25 rfl dX12_greys_24 ?_
  refine xx_iload_n C 26 rfl 1 dX12_greys_25 rfl rfl ?_
  refine xx_iastore C 27 rfl (by decide) (fun _ => rfl) (by decide) dX12_greys_26 h (fun μ26 h => ?_)
  refine xx_aload_n C 28 rfl 0 dX12_greys_27 rfl rfl ?_
  refine xx_getr (fi := 0) C 31 rfl (by decide) (ceM_0 _ _ _) rfl in_X12 (by decide) rfl w_1179 dX12_greys_28 ?_
  refine xx_bipush C 33 rfl dX12_greys_31 (by decide) ?_
  refine xx_dup2 C 34 rfl dX12_greys_33 rfl rfl ?_
  refine xx_iaload C 35 rfl (by decide) (fun _ => rfl) (by decide) dX12_greys_34 h (fun v34 h => ?_)
  refine xx_iconst C 36 rfl dX12_greys_35 ?_
  refine xx_iadd C 37 rfl dX12_greys_36 ?_
  refine xx_iastore C 38 rfl (by decide) (fun _ => rfl) (by decide) dX12_greys_37 h (fun μ37 h => ?_)
  exact xx_vret C E rfl ⟨Nat.le_of_ble_eq_true rfl, Nat.le_of_ble_eq_true rfl⟩ dX12_greys_38 h

def f_X12_greysIfWhite (μ : mu_T) (a1 : Int) : Option mu_T :=
  eq_ a1 (-15)
      (some μ)
      (rd_ μ 1 293 (41 + a1) (fun v14 => eq_ v14 0
      (bd_ (f_X12_greys μ a1) (fun μ20 => some μ20))
      (some μ)))
set_option maxHeartbeats 4000000 in
set_option maxRecDepth 100000 in
theorem c_X12_greysIfWhite {G : gp_} {ad : Nat → Nat} (μ : mu_T) (a1 : Int) (μr : mu_T) (h : f_X12_greysIfWhite μ a1 = some μr) : mv_ yX12_greysIfWhite cX12_greysIfWhite 2 ({ frames := 1, cells := 0, slots := 0, locals := 21 } : Room) G 9 ad (ceM G ad) [.ref (ad 0), .int (iI a1)] μ μr := by
  refine mv_in (own := "UrnHeapModel") (lv := [(0, .ref (ad 0)), (1, .int (iI a1))]) (by decide) rfl rfl (Nat.le_of_ble_eq_true rfl) (fun X C E => ?_)
  unfold f_X12_greysIfWhite at h
  refine xx_iload_n C 1 rfl 1 dX12_greysIfWhite_0 rfl rfl ?_
  refine xx_bipush C 3 rfl dX12_greysIfWhite_1 (by decide) ?_
  refine xx_icmp_eq (tgt := 23) C 6 rfl dX12_greysIfWhite_3 (by decide) h (fun h => ?_) (fun h => ?_)
  · exact xx_vret C E rfl ⟨Nat.le_of_ble_eq_true rfl, Nat.le_of_ble_eq_true rfl⟩ dX12_greysIfWhite_23 h
  · refine xx_aload_n C 7 rfl 0 dX12_greysIfWhite_6 rfl rfl ?_
    refine xx_getr (fi := 0) C 10 rfl (by decide) (ceM_0 _ _ _) rfl in_X12 (by decide) rfl w_1179 dX12_greysIfWhite_7 ?_
    refine xx_bipush C 12 rfl dX12_greysIfWhite_10 (by decide) ?_
    refine xx_iload_n C 13 rfl 1 dX12_greysIfWhite_12 rfl rfl ?_
    refine xx_iadd C 14 rfl dX12_greysIfWhite_13 ?_
    refine xx_iaload C 15 rfl (by decide) (fun _ => rfl) (by decide) dX12_greysIfWhite_14 h (fun v14 h => ?_)
    refine xx_if_ne (tgt := 23) C 18 rfl dX12_greysIfWhite_15 (by decide) h (fun h => ?_) (fun h => ?_)
    · exact xx_vret C E rfl ⟨Nat.le_of_ble_eq_true rfl, Nat.le_of_ble_eq_true rfl⟩ dX12_greysIfWhite_23 h
    · refine xx_aload_n C 19 rfl 0 dX12_greysIfWhite_18 rfl rfl ?_
      refine xx_iload_n C 20 rfl 1 dX12_greysIfWhite_19 rfl rfl ?_
      refine xx_cVv (As := [.int (iI a1)]) (st := []) (o := 0) C 23 rfl (by decide) (ceM_0 _ _ _) rfl rfl ca_X12_greys cv_X12_greys w_1291 rfl ⟨Nat.le_of_ble_eq_true rfl, Nat.le_of_ble_eq_true rfl⟩ ⟨Nat.le_of_ble_eq_true rfl, Nat.le_of_ble_eq_true rfl⟩ (Nat.le_of_ble_eq_true rfl) dX12_greysIfWhite_20 (fun μ20 e9 => c_X12_greys _ _ μ20 e9) h (fun μ20 h => ?_) rfl
      exact xx_vret C E rfl ⟨Nat.le_of_ble_eq_true rfl, Nat.le_of_ble_eq_true rfl⟩ dX12_greysIfWhite_23 h

def f_X12_beginsRound_L36 (J67 : mu_T → Option (Int × mu_T)) : Nat → Int → mu_T → Option (Int × mu_T)
  | 0, _, _ => none
  | fu36 + 1, x1_36, μ36 => rd_ μ36 1 293 9 (fun v43 => lt_ x1_36 v43
      (rd_ μ36 1 293 (257 + x1_36) (fun v57 => bd_ (f_X12_greysIfWhite μ36 v57) (fun μ58 => nm_ (x1_36 + 1) (fun n61 => (f_X12_beginsRound_L36 J67 fu36) n61 μ58))))
      (J67 μ36))
def f_X12_beginsRound_L9 (J34 : mu_T → Option (Int × mu_T)) : Nat → Int → mu_T → Option (Int × mu_T)
  | 0, _, _ => none
  | fu9 + 1, x1_9, μ9 => lt_ x1_9 6
      (rd_ μ9 1 293 (11 + x1_9) (fun v24 => bd_ (f_X12_greysIfWhite μ9 v24) (fun μ25 => nm_ (x1_9 + 1) (fun n28 => (f_X12_beginsRound_L9 J34 fu9) n28 μ25))))
      (J34 μ9)
def f_X12_beginsRound (μ : mu_T)  : Option (Int × mu_T) :=
  wr_ μ 1 293 0 1 (fun μ6 => jn_ (φ := mu_T → Option (Int × mu_T)) (fun μ34 => jn_ (φ := mu_T → Option (Int × mu_T)) (fun μ67 => rd_ μ67 1 293 8 (fun v73 => some (v73, μ67)))
      (fun J67 => f_X12_beginsRound_L36 J67 20000 0 μ34))
      (fun J34 => f_X12_beginsRound_L9 J34 20000 0 μ6))
set_option maxHeartbeats 4000000 in
set_option maxRecDepth 100000 in
theorem c_X12_beginsRound {G : gp_} {ad : Nat → Nat} (μ : mu_T)  (a : Int) (μr : mu_T) (h : f_X12_beginsRound μ  = some (a, μr)) : mi_ yX12_beginsRound cX12_beginsRound 2 (some .int) ({ frames := 2, cells := 0, slots := 0, locals := 42 } : Room) G 9 ad (ceM G ad) [.ref (ad 0)] μ a μr := by
  refine mi_in (own := "UrnHeapModel") (lv := [(0, .ref (ad 0))]) (by decide) rfl rfl (Nat.le_of_ble_eq_true rfl) (fun X C E => ?_)
  unfold f_X12_beginsRound at h
  refine xx_aload_n C 1 rfl 0 dX12_beginsRound_0 rfl rfl ?_
  refine xx_getr (fi := 0) C 4 rfl (by decide) (ceM_0 _ _ _) rfl in_X12 (by decide) rfl w_1179 dX12_beginsRound_1 ?_
  refine xx_iconst C 5 rfl dX12_beginsRound_4 ?_
  refine xx_iconst C 6 rfl dX12_beginsRound_5 ?_
  refine xx_iastore C 7 rfl (by decide) (fun _ => rfl) (by decide) dX12_beginsRound_6 h (fun μ6 h => ?_)
  refine xx_iconst C 8 rfl dX12_beginsRound_7 ?_
  refine xx_istore_n (lv1 := [(1, .int (iI 0)), (0, .ref (ad 0))]) C 9 rfl (by decide) dX12_beginsRound_8 rfl rfl ?_
  refine jn_r (fun J => ∀ (μ34 : mu_T), J μ34 = some (a, μr) → wx_ G X 9 ad (ceM G ad) μ34 0 0 34 [(0, .ref (ad 0))] []) h (fun μ34 h => ?_) (fun J34 K34 h => ?_)
  · refine xx_iconst C 35 rfl dX12_beginsRound_34 ?_
    refine xx_istore_n (lv1 := [(1, .int (iI 0)), (0, .ref (ad 0))]) C 36 rfl (by decide) dX12_beginsRound_35 rfl rfl ?_
    refine jn_r (fun J => ∀ (μ67 : mu_T), J μ67 = some (a, μr) → wx_ G X 9 ad (ceM G ad) μ67 0 0 67 [(0, .ref (ad 0))] []) h (fun μ67 h => ?_) (fun J67 K67 h => ?_)
    · refine xx_aload_n C 68 rfl 0 dX12_beginsRound_67 rfl rfl ?_
      refine xx_getr (fi := 0) C 71 rfl (by decide) (ceM_0 _ _ _) rfl in_X12 (by decide) rfl w_1179 dX12_beginsRound_68 ?_
      refine xx_bipush C 73 rfl dX12_beginsRound_71 (by decide) ?_
      refine xx_iaload C 74 rfl (by decide) (fun _ => rfl) (by decide) dX12_beginsRound_73 h (fun v73 h => ?_)
      exact xx_iret C E rfl ⟨Nat.le_of_ble_eq_true rfl, Nat.le_of_ble_eq_true rfl⟩ dX12_beginsRound_74 h
    · have L36 : ∀ (fu36 : Nat) (x1_36 : Int) (μ36 : mu_T), f_X12_beginsRound_L36 J67 fu36 x1_36 μ36 = some (a, μr) → wx_ G X 9 ad (ceM G ad) μ36 0 0 36 [(0, .ref (ad 0)), (1, .int (iI x1_36))] [] := by
        intro fu36
        induction fu36 with
        | zero => intro x1_36 μ36 h; exact nn_ h
        | succ fu36 K36 =>
          intro x1_36 μ36 h
          rw [f_X12_beginsRound_L36] at h
          generalize f_X12_beginsRound_L36 J67 fu36 = R36 at K36 h
          refine xx_iload_n C 37 rfl 1 dX12_beginsRound_36 rfl rfl ?_
          refine xx_aload_n C 38 rfl 0 dX12_beginsRound_37 rfl rfl ?_
          refine xx_getr (fi := 0) C 41 rfl (by decide) (ceM_0 _ _ _) rfl in_X12 (by decide) rfl w_1179 dX12_beginsRound_38 ?_
          refine xx_bipush C 43 rfl dX12_beginsRound_41 (by decide) ?_
          refine xx_iaload C 44 rfl (by decide) (fun _ => rfl) (by decide) dX12_beginsRound_43 h (fun v43 h => ?_)
          refine xx_icmp_ge (tgt := 67) C 47 rfl dX12_beginsRound_44 (by decide) h (fun h => ?_) (fun h => ?_)
          · refine xx_sub [0] rfl ?_
            exact K67 μ36 h
          · refine xx_aload_n C 48 rfl 0 dX12_beginsRound_47 rfl rfl ?_
            refine xx_aload_n C 49 rfl 0 dX12_beginsRound_48 rfl rfl ?_
            refine xx_getr (fi := 0) C 52 rfl (by decide) (ceM_0 _ _ _) rfl in_X12 (by decide) rfl w_1179 dX12_beginsRound_49 ?_
            refine xx_sipush C 55 rfl dX12_beginsRound_52 (by decide) ?_
            refine xx_iload_n C 56 rfl 1 dX12_beginsRound_55 rfl rfl ?_
            refine xx_iadd C 57 rfl dX12_beginsRound_56 ?_
            refine xx_iaload C 58 rfl (by decide) (fun _ => rfl) (by decide) dX12_beginsRound_57 h (fun v57 h => ?_)
            refine xx_cVv (As := [.int (iI v57)]) (st := []) (o := 0) C 61 rfl (by decide) (ceM_0 _ _ _) rfl rfl ca_X12_greysIfWhite cv_X12_greysIfWhite w_1287 rfl ⟨Nat.le_of_ble_eq_true rfl, Nat.le_of_ble_eq_true rfl⟩ ⟨Nat.le_of_ble_eq_true rfl, Nat.le_of_ble_eq_true rfl⟩ (Nat.le_of_ble_eq_true rfl) dX12_beginsRound_58 (fun μ58 e9 => c_X12_greysIfWhite _ _ μ58 e9) h (fun μ58 h => ?_) rfl
            refine xx_iincn C 64 rfl 1 (by decide) dX12_beginsRound_61 rfl h (fun n61 h => ?_)
            refine xx_lv (lv1 := [(1, .int (iI n61)), (0, .ref (ad 0))]) rfl ?_
            refine xx_goto C 36 dX12_beginsRound_64 (by decide) ?_
            refine xx_sub [1, 0] rfl ?_
            exact K36 n61 μ58 h
      refine xx_sub [1, 0] rfl ?_
      exact L36 _ _ _ h
  · have L9 : ∀ (fu9 : Nat) (x1_9 : Int) (μ9 : mu_T), f_X12_beginsRound_L9 J34 fu9 x1_9 μ9 = some (a, μr) → wx_ G X 9 ad (ceM G ad) μ9 0 0 9 [(0, .ref (ad 0)), (1, .int (iI x1_9))] [] := by
      intro fu9
      induction fu9 with
      | zero => intro x1_9 μ9 h; exact nn_ h
      | succ fu9 K9 =>
        intro x1_9 μ9 h
        rw [f_X12_beginsRound_L9] at h
        generalize f_X12_beginsRound_L9 J34 fu9 = R9 at K9 h
        refine xx_iload_n C 10 rfl 1 dX12_beginsRound_9 rfl rfl ?_
        refine xx_bipush C 12 rfl dX12_beginsRound_10 (by decide) ?_
        refine xx_icmp_ge (tgt := 34) C 15 rfl dX12_beginsRound_12 (by decide) h (fun h => ?_) (fun h => ?_)
        · refine xx_sub [0] rfl ?_
          exact K34 μ9 h
        · refine xx_aload_n C 16 rfl 0 dX12_beginsRound_15 rfl rfl ?_
          refine xx_aload_n C 17 rfl 0 dX12_beginsRound_16 rfl rfl ?_
          refine xx_getr (fi := 0) C 20 rfl (by decide) (ceM_0 _ _ _) rfl in_X12 (by decide) rfl w_1179 dX12_beginsRound_17 ?_
          refine xx_bipush C 22 rfl dX12_beginsRound_20 (by decide) ?_
          refine xx_iload_n C 23 rfl 1 dX12_beginsRound_22 rfl rfl ?_
          refine xx_iadd C 24 rfl dX12_beginsRound_23 ?_
          refine xx_iaload C 25 rfl (by decide) (fun _ => rfl) (by decide) dX12_beginsRound_24 h (fun v24 h => ?_)
          refine xx_cVv (As := [.int (iI v24)]) (st := []) (o := 0) C 28 rfl (by decide) (ceM_0 _ _ _) rfl rfl ca_X12_greysIfWhite cv_X12_greysIfWhite w_1287 rfl ⟨Nat.le_of_ble_eq_true rfl, Nat.le_of_ble_eq_true rfl⟩ ⟨Nat.le_of_ble_eq_true rfl, Nat.le_of_ble_eq_true rfl⟩ (Nat.le_of_ble_eq_true rfl) dX12_beginsRound_25 (fun μ25 e9 => c_X12_greysIfWhite _ _ μ25 e9) h (fun μ25 h => ?_) rfl
          refine xx_iincn C 31 rfl 1 (by decide) dX12_beginsRound_28 rfl h (fun n28 h => ?_)
          refine xx_lv (lv1 := [(1, .int (iI n28)), (0, .ref (ad 0))]) rfl ?_
          refine xx_goto C 9 dX12_beginsRound_31 (by decide) ?_
          refine xx_sub [1, 0] rfl ?_
          exact K9 n28 μ25 h
    refine xx_sub [1, 0] rfl ?_
    exact L9 _ _ _ h

def f_X12_blackens_L90 (v7 : Int) : Nat → Int → mu_T → Option mu_T
  | 0, _, _ => none
  | fu90 + 1, x2_90, μ90 => lt_ x2_90 4
      (bd_ (f_X12_at μ90 v7 x2_90) (fun v102 => rd_ μ90 1 293 v102 (fun v105 => bd_ (f_X12_greysIfWhite μ90 v105) (fun μ106 => nm_ (x2_90 + 1) (fun n109 => (f_X12_blackens_L90 v7 fu90) n109 μ106)))))
      (some μ90)
def f_X12_blackens_L22 (J61 : mu_T → Option mu_T) : Nat → Int → mu_T → Option mu_T
  | 0, _, _ => none
  | fu22 + 1, x2_22, μ22 => rd_ μ22 1 293 8 (fun v29 => lt_ x2_22 v29
      (rd_ μ22 1 293 ((233 + x2_22) + 1) (fun v53 => wr_ μ22 1 293 (233 + x2_22) v53 (fun μ54 => nm_ (x2_22 + 1) (fun n55 => (f_X12_blackens_L22 J61 fu22) n55 μ54))))
      (J61 μ22))
def f_X12_blackens (μ : mu_T)  : Option mu_T :=
  rd_ μ 1 293 233 (fun v7 => rd_ μ 1 293 8 (fun v16 => wr_ μ 1 293 8 (v16 - 1) (fun μ19 => jn_ (φ := mu_T → Option mu_T) (fun μ61 => rd_ μ61 1 293 8 (fun v74 => wr_ μ61 1 293 (233 + v74) 0 (fun μ77 => wr_ μ77 1 293 (41 + v7) 2 (fun μ87 => f_X12_blackens_L90 v7 20000 0 μ87))))
      (fun J61 => f_X12_blackens_L22 J61 20000 0 μ19))))
set_option maxHeartbeats 4000000 in
set_option maxRecDepth 100000 in
theorem c_X12_blackens {G : gp_} {ad : Nat → Nat} (μ : mu_T)  (μr : mu_T) (h : f_X12_blackens μ  = some μr) : mv_ yX12_blackens cX12_blackens 3 ({ frames := 2, cells := 0, slots := 0, locals := 42 } : Room) G 9 ad (ceM G ad) [.ref (ad 0)] μ μr := by
  refine mv_in (own := "UrnHeapModel") (lv := [(0, .ref (ad 0))]) (by decide) rfl rfl (Nat.le_of_ble_eq_true rfl) (fun X C E => ?_)
  unfold f_X12_blackens at h
  refine xx_aload_n C 1 rfl 0 dX12_blackens_0 rfl rfl ?_
  refine xx_getr (fi := 0) C 4 rfl (by decide) (ceM_0 _ _ _) rfl in_X12 (by decide) rfl w_1179 dX12_blackens_1 ?_
  refine xx_sipush C 7 rfl dX12_blackens_4 (by decide) ?_
  refine xx_iaload C 8 rfl (by decide) (fun _ => rfl) (by decide) dX12_blackens_7 h (fun v7 h => ?_)
  refine xx_istore_n (lv1 := [(1, .int (iI v7)), (0, .ref (ad 0))]) C 9 rfl (by decide) dX12_blackens_8 rfl rfl ?_
  refine xx_aload_n C 10 rfl 1 dX12_blackens_9 rfl rfl ?_
  refine xx_getr (fi := 0) C 13 rfl (by decide) (ceM_0 _ _ _) rfl in_X12 (by decide) rfl w_1179 dX12_blackens_10 ?_
  refine xx_bipush C 15 rfl dX12_blackens_13 (by decide) ?_
  refine xx_dup2 C 16 rfl dX12_blackens_15 rfl rfl ?_
  refine xx_iaload C 17 rfl (by decide) (fun _ => rfl) (by decide) dX12_blackens_16 h (fun v16 h => ?_)
  refine xx_iconst C 18 rfl dX12_blackens_17 ?_
  refine xx_isub C 19 rfl dX12_blackens_18 ?_
  refine xx_iastore C 20 rfl (by decide) (fun _ => rfl) (by decide) dX12_blackens_19 h (fun μ19 h => ?_)
  refine xx_iconst C 21 rfl dX12_blackens_20 ?_
  refine xx_istore_n (lv1 := [(2, .int (iI 0)), (1, .int (iI v7)), (0, .ref (ad 0))]) C 22 rfl (by decide) dX12_blackens_21 rfl rfl ?_
  refine jn_r (fun J => ∀ (μ61 : mu_T), J μ61 = some μr → wx_ G X 9 ad (ceM G ad) μ61 0 0 61 [(0, .ref (ad 0)), (1, .int (iI v7))] []) h (fun μ61 h => ?_) (fun J61 K61 h => ?_)
  · refine xx_aload_n C 62 rfl 0 dX12_blackens_61 rfl rfl ?_
    refine xx_getr (fi := 0) C 65 rfl (by decide) (ceM_0 _ _ _) rfl in_X12 (by decide) rfl w_1179 dX12_blackens_62 ?_
    refine xx_sipush C 68 rfl dX12_blackens_65 (by decide) ?_
    refine xx_aload_n C 69 rfl 0 dX12_blackens_68 rfl rfl ?_
    refine xx_getr (fi := 0) C 72 rfl (by decide) (ceM_0 _ _ _) rfl in_X12 (by decide) rfl w_1179 dX12_blackens_69 ?_
    refine xx_bipush C 74 rfl dX12_blackens_72 (by decide) ?_
    refine xx_iaload C 75 rfl (by decide) (fun _ => rfl) (by decide) dX12_blackens_74 h (fun v74 h => ?_)
    refine xx_iadd C 76 rfl dX12_blackens_75 ?_
    refine xx_iconst C 77 rfl dX12_blackens_76 ?_
    refine xx_iastore C 78 rfl (by decide) (fun _ => rfl) (by decide) dX12_blackens_77 h (fun μ77 h => ?_)
    refine xx_aload_n C 79 rfl 0 dX12_blackens_78 rfl rfl ?_
    refine xx_getr (fi := 0) C 82 rfl (by decide) (ceM_0 _ _ _) rfl in_X12 (by decide) rfl w_1179 dX12_blackens_79 ?_
    refine xx_bipush C 84 rfl dX12_blackens_82 (by decide) ?_
    refine xx_iload_n C 85 rfl 1 dX12_blackens_84 rfl rfl ?_
    refine xx_iadd C 86 rfl dX12_blackens_85 ?_
    refine xx_iconst C 87 rfl dX12_blackens_86 ?_
    refine xx_iastore C 88 rfl (by decide) (fun _ => rfl) (by decide) dX12_blackens_87 h (fun μ87 h => ?_)
    refine xx_iconst C 89 rfl dX12_blackens_88 ?_
    refine xx_istore_n (lv1 := [(2, .int (iI 0)), (0, .ref (ad 0)), (1, .int (iI v7))]) C 90 rfl (by decide) dX12_blackens_89 rfl rfl ?_
    have L90 : ∀ (fu90 : Nat) (x2_90 : Int) (μ90 : mu_T), f_X12_blackens_L90 v7 fu90 x2_90 μ90 = some μr → wx_ G X 9 ad (ceM G ad) μ90 0 0 90 [(0, .ref (ad 0)), (1, .int (iI v7)), (2, .int (iI x2_90))] [] := by
      intro fu90
      induction fu90 with
      | zero => intro x2_90 μ90 h; exact nn_ h
      | succ fu90 K90 =>
        intro x2_90 μ90 h
        rw [f_X12_blackens_L90] at h
        generalize f_X12_blackens_L90 v7 fu90 = R90 at K90 h
        refine xx_iload_n C 91 rfl 2 dX12_blackens_90 rfl rfl ?_
        refine xx_iconst C 92 rfl dX12_blackens_91 ?_
        refine xx_icmp_ge (tgt := 115) C 95 rfl dX12_blackens_92 (by decide) h (fun h => ?_) (fun h => ?_)
        · exact xx_vret C E rfl ⟨Nat.le_of_ble_eq_true rfl, Nat.le_of_ble_eq_true rfl⟩ dX12_blackens_115 h
        · refine xx_aload_n C 96 rfl 0 dX12_blackens_95 rfl rfl ?_
          refine xx_aload_n C 97 rfl 0 dX12_blackens_96 rfl rfl ?_
          refine xx_getr (fi := 0) C 100 rfl (by decide) (ceM_0 _ _ _) rfl in_X12 (by decide) rfl w_1179 dX12_blackens_97 ?_
          refine xx_iload_n C 101 rfl 1 dX12_blackens_100 rfl rfl ?_
          refine xx_iload_n C 102 rfl 2 dX12_blackens_101 rfl rfl ?_
          refine xx_cSip (As := [.int (iI v7), .int (iI x2_90)]) (st := [.ref (ad 1), .ref (ad 0)]) C 105 rfl  ca_X12_at cs_X12_at w_1176 rfl ⟨Nat.le_of_ble_eq_true rfl, Nat.le_of_ble_eq_true rfl⟩ ⟨Nat.le_of_ble_eq_true rfl, Nat.le_of_ble_eq_true rfl⟩ (Nat.le_of_ble_eq_true rfl) dX12_blackens_102 (fun v102 e9 => c_X12_at _ _ _ v102 e9) h (fun v102 h => ?_) rfl
          refine xx_iaload C 106 rfl (by decide) (fun _ => rfl) (by decide) dX12_blackens_105 h (fun v105 h => ?_)
          refine xx_cVv (As := [.int (iI v105)]) (st := []) (o := 0) C 109 rfl (by decide) (ceM_0 _ _ _) rfl rfl ca_X12_greysIfWhite cv_X12_greysIfWhite w_1287 rfl ⟨Nat.le_of_ble_eq_true rfl, Nat.le_of_ble_eq_true rfl⟩ ⟨Nat.le_of_ble_eq_true rfl, Nat.le_of_ble_eq_true rfl⟩ (Nat.le_of_ble_eq_true rfl) dX12_blackens_106 (fun μ106 e9 => c_X12_greysIfWhite _ _ μ106 e9) h (fun μ106 h => ?_) rfl
          refine xx_iincn C 112 rfl 2 (by decide) dX12_blackens_109 rfl h (fun n109 h => ?_)
          refine xx_lv (lv1 := [(2, .int (iI n109)), (0, .ref (ad 0)), (1, .int (iI v7))]) rfl ?_
          refine xx_goto C 90 dX12_blackens_112 (by decide) ?_
          refine xx_sub [1, 2, 0] rfl ?_
          exact K90 n109 μ106 h
    refine xx_sub [1, 2, 0] rfl ?_
    exact L90 _ _ _ h
  · have L22 : ∀ (fu22 : Nat) (x2_22 : Int) (μ22 : mu_T), f_X12_blackens_L22 J61 fu22 x2_22 μ22 = some μr → wx_ G X 9 ad (ceM G ad) μ22 0 0 22 [(0, .ref (ad 0)), (1, .int (iI v7)), (2, .int (iI x2_22))] [] := by
      intro fu22
      induction fu22 with
      | zero => intro x2_22 μ22 h; exact nn_ h
      | succ fu22 K22 =>
        intro x2_22 μ22 h
        rw [f_X12_blackens_L22] at h
        generalize f_X12_blackens_L22 J61 fu22 = R22 at K22 h
        refine xx_iload_n C 23 rfl 2 dX12_blackens_22 rfl rfl ?_
        refine xx_aload_n C 24 rfl 0 dX12_blackens_23 rfl rfl ?_
        refine xx_getr (fi := 0) C 27 rfl (by decide) (ceM_0 _ _ _) rfl in_X12 (by decide) rfl w_1179 dX12_blackens_24 ?_
        refine xx_bipush C 29 rfl dX12_blackens_27 (by decide) ?_
        refine xx_iaload C 30 rfl (by decide) (fun _ => rfl) (by decide) dX12_blackens_29 h (fun v29 h => ?_)
        refine xx_icmp_ge (tgt := 61) C 33 rfl dX12_blackens_30 (by decide) h (fun h => ?_) (fun h => ?_)
        · refine xx_sub [0, 1] rfl ?_
          exact K61 μ22 h
        · refine xx_aload_n C 34 rfl 0 dX12_blackens_33 rfl rfl ?_
          refine xx_getr (fi := 0) C 37 rfl (by decide) (ceM_0 _ _ _) rfl in_X12 (by decide) rfl w_1179 dX12_blackens_34 ?_
          refine xx_sipush C 40 rfl dX12_blackens_37 (by decide) ?_
          refine xx_iload_n C 41 rfl 2 dX12_blackens_40 rfl rfl ?_
          refine xx_iadd C 42 rfl dX12_blackens_41 ?_
          refine xx_aload_n C 43 rfl 0 dX12_blackens_42 rfl rfl ?_
          refine xx_getr (fi := 0) C 46 rfl (by decide) (ceM_0 _ _ _) rfl in_X12 (by decide) rfl w_1179 dX12_blackens_43 ?_
          refine xx_sipush C 49 rfl dX12_blackens_46 (by decide) ?_
          refine xx_iload_n C 50 rfl 2 dX12_blackens_49 rfl rfl ?_
          refine xx_iadd C 51 rfl dX12_blackens_50 ?_
          refine xx_iconst C 52 rfl dX12_blackens_51 ?_
          refine xx_iadd C 53 rfl dX12_blackens_52 ?_
          refine xx_iaload C 54 rfl (by decide) (fun _ => rfl) (by decide) dX12_blackens_53 h (fun v53 h => ?_)
          refine xx_iastore C 55 rfl (by decide) (fun _ => rfl) (by decide) dX12_blackens_54 h (fun μ54 h => ?_)
          refine xx_iincn C 58 rfl 2 (by decide) dX12_blackens_55 rfl h (fun n55 h => ?_)
          refine xx_lv (lv1 := [(2, .int (iI n55)), (0, .ref (ad 0)), (1, .int (iI v7))]) rfl ?_
          refine xx_goto C 22 dX12_blackens_58 (by decide) ?_
          refine xx_sub [1, 2, 0] rfl ?_
          exact K22 n55 μ54 h
    refine xx_sub [2, 1, 0] rfl ?_
    exact L22 _ _ _ h

def f_X12_becomeDue_L4  : Nat → Int → Int → mu_T → Option (Int × mu_T)
  | 0, _, _, _ => none
  | fu4 + 1, x1_4, x2_4, μ4 => lt_ x2_4 24
      (rd_ μ4 1 293 (17 + x2_4) (fun v18 => jn_ (φ := Int → mu_T → Option (Int × mu_T)) (fun x1_95 μ95 => nm_ (x2_4 + 1) (fun n95 => (f_X12_becomeDue_L4 fu4) x1_95 n95 μ95))
      (fun J95 => eq_ v18 0
      (J95 x1_4 μ4)
      (rd_ μ4 1 293 (41 + x2_4) (fun v30 => eq_ v30 0
      (rd_ μ4 1 293 (65 + x2_4) (fun v42 => eq_ v42 1
      (wr_ μ4 1 293 (65 + x2_4) 2 (fun μ59 => rd_ μ59 1 293 9 (fun v73 => wr_ μ59 1 293 (257 + v73) x2_4 (fun μ76 => rd_ μ76 1 293 9 (fun v84 => wr_ μ76 1 293 9 (v84 + 1) (fun μ87 => bd_ (f_X12_greys μ87 x2_4) (fun μ90 => J95 1 μ90)))))))
      (J95 x1_4 μ4)))
      (J95 x1_4 μ4))))))
      (rz_ x1_4 μ4)
def f_X12_becomeDue (μ : mu_T)  : Option (Int × mu_T) :=
  f_X12_becomeDue_L4 20000 0 0 μ
set_option maxHeartbeats 4000000 in
set_option maxRecDepth 100000 in
theorem c_X12_becomeDue {G : gp_} {ad : Nat → Nat} (μ : mu_T)  (a : Int) (μr : mu_T) (h : f_X12_becomeDue μ  = some (a, μr)) : mi_ yX12_becomeDue cX12_becomeDue 3 (some .boolean) ({ frames := 1, cells := 0, slots := 0, locals := 21 } : Room) G 9 ad (ceM G ad) [.ref (ad 0)] μ a μr := by
  refine mi_in (own := "UrnHeapModel") (lv := [(0, .ref (ad 0))]) (by decide) rfl rfl (Nat.le_of_ble_eq_true rfl) (fun X C E => ?_)
  unfold f_X12_becomeDue at h
  refine xx_iconst C 1 rfl dX12_becomeDue_0 ?_
  refine xx_istore_n (lv1 := [(1, .int (iI 0)), (0, .ref (ad 0))]) C 2 rfl (by decide) dX12_becomeDue_1 rfl rfl ?_
  refine xx_iconst C 3 rfl dX12_becomeDue_2 ?_
  refine xx_istore_n (lv1 := [(2, .int (iI 0)), (1, .int (iI 0)), (0, .ref (ad 0))]) C 4 rfl (by decide) dX12_becomeDue_3 rfl rfl ?_
  have L4 : ∀ (fu4 : Nat) (x1_4 : Int) (x2_4 : Int) (μ4 : mu_T), f_X12_becomeDue_L4 fu4 x1_4 x2_4 μ4 = some (a, μr) → wx_ G X 9 ad (ceM G ad) μ4 0 0 4 [(0, .ref (ad 0)), (1, .int (iI x1_4)), (2, .int (iI x2_4))] [] := by
    intro fu4
    induction fu4 with
    | zero => intro x1_4 x2_4 μ4 h; exact nn_ h
    | succ fu4 K4 =>
      intro x1_4 x2_4 μ4 h
      rw [f_X12_becomeDue_L4] at h
      generalize f_X12_becomeDue_L4 fu4 = R4 at K4 h
      refine xx_iload_n C 5 rfl 2 dX12_becomeDue_4 rfl rfl ?_
      refine xx_bipush C 7 rfl dX12_becomeDue_5 (by decide) ?_
      refine xx_icmp_ge (tgt := 101) C 10 rfl dX12_becomeDue_7 (by decide) h (fun h => ?_) (fun h => ?_)
      · refine xx_iload_n C 102 rfl 1 dX12_becomeDue_101 rfl rfl ?_
        exact xx_zretz C E rfl ⟨Nat.le_of_ble_eq_true rfl, Nat.le_of_ble_eq_true rfl⟩ dX12_becomeDue_102 h
      · refine xx_aload_n C 11 rfl 0 dX12_becomeDue_10 rfl rfl ?_
        refine xx_getr (fi := 0) C 14 rfl (by decide) (ceM_0 _ _ _) rfl in_X12 (by decide) rfl w_1179 dX12_becomeDue_11 ?_
        refine xx_bipush C 16 rfl dX12_becomeDue_14 (by decide) ?_
        refine xx_iload_n C 17 rfl 2 dX12_becomeDue_16 rfl rfl ?_
        refine xx_iadd C 18 rfl dX12_becomeDue_17 ?_
        refine xx_iaload C 19 rfl (by decide) (fun _ => rfl) (by decide) dX12_becomeDue_18 h (fun v18 h => ?_)
        refine jn_r (fun J => ∀ (x1_95 : Int) (μ95 : mu_T), J x1_95 μ95 = some (a, μr) → wx_ G X 9 ad (ceM G ad) μ95 0 0 95 [(0, .ref (ad 0)), (1, .int (iI x1_95)), (2, .int (iI x2_4))] []) h (fun x1_95 μ95 h => ?_) (fun J95 K95 h => ?_)
        · refine xx_iincn C 98 rfl 2 (by decide) dX12_becomeDue_95 rfl h (fun n95 h => ?_)
          refine xx_lv (lv1 := [(2, .int (iI n95)), (0, .ref (ad 0)), (1, .int (iI x1_95))]) rfl ?_
          refine xx_goto C 4 dX12_becomeDue_98 (by decide) ?_
          refine xx_sub [1, 2, 0] rfl ?_
          exact K4 x1_95 n95 μ95 h
        · refine xx_if_eq (tgt := 95) C 22 rfl dX12_becomeDue_19 (by decide) h (fun h => ?_) (fun h => ?_)
          · exact K95 x1_4 μ4 h
          · refine xx_aload_n C 23 rfl 0 dX12_becomeDue_22 rfl rfl ?_
            refine xx_getr (fi := 0) C 26 rfl (by decide) (ceM_0 _ _ _) rfl in_X12 (by decide) rfl w_1179 dX12_becomeDue_23 ?_
            refine xx_bipush C 28 rfl dX12_becomeDue_26 (by decide) ?_
            refine xx_iload_n C 29 rfl 2 dX12_becomeDue_28 rfl rfl ?_
            refine xx_iadd C 30 rfl dX12_becomeDue_29 ?_
            refine xx_iaload C 31 rfl (by decide) (fun _ => rfl) (by decide) dX12_becomeDue_30 h (fun v30 h => ?_)
            refine xx_if_ne (tgt := 95) C 34 rfl dX12_becomeDue_31 (by decide) h (fun h => ?_) (fun h => ?_)
            · exact K95 x1_4 μ4 h
            · refine xx_aload_n C 35 rfl 0 dX12_becomeDue_34 rfl rfl ?_
              refine xx_getr (fi := 0) C 38 rfl (by decide) (ceM_0 _ _ _) rfl in_X12 (by decide) rfl w_1179 dX12_becomeDue_35 ?_
              refine xx_bipush C 40 rfl dX12_becomeDue_38 (by decide) ?_
              refine xx_iload_n C 41 rfl 2 dX12_becomeDue_40 rfl rfl ?_
              refine xx_iadd C 42 rfl dX12_becomeDue_41 ?_
              refine xx_iaload C 43 rfl (by decide) (fun _ => rfl) (by decide) dX12_becomeDue_42 h (fun v42 h => ?_)
              refine xx_iconst C 44 rfl dX12_becomeDue_43 ?_
              refine xx_icmp_eq (tgt := 50) C 47 rfl dX12_becomeDue_44 (by decide) h (fun h => ?_) (fun h => ?_)
              · refine xx_aload_n C 51 rfl 0 dX12_becomeDue_50 rfl rfl ?_
                refine xx_getr (fi := 0) C 54 rfl (by decide) (ceM_0 _ _ _) rfl in_X12 (by decide) rfl w_1179 dX12_becomeDue_51 ?_
                refine xx_bipush C 56 rfl dX12_becomeDue_54 (by decide) ?_
                refine xx_iload_n C 57 rfl 2 dX12_becomeDue_56 rfl rfl ?_
                refine xx_iadd C 58 rfl dX12_becomeDue_57 ?_
                refine xx_iconst C 59 rfl dX12_becomeDue_58 ?_
                refine xx_iastore C 60 rfl (by decide) (fun _ => rfl) (by decide) dX12_becomeDue_59 h (fun μ59 h => ?_)
                refine xx_aload_n C 61 rfl 0 dX12_becomeDue_60 rfl rfl ?_
                refine xx_getr (fi := 0) C 64 rfl (by decide) (ceM_0 _ _ _) rfl in_X12 (by decide) rfl w_1179 dX12_becomeDue_61 ?_
                refine xx_sipush C 67 rfl dX12_becomeDue_64 (by decide) ?_
                refine xx_aload_n C 68 rfl 0 dX12_becomeDue_67 rfl rfl ?_
                refine xx_getr (fi := 0) C 71 rfl (by decide) (ceM_0 _ _ _) rfl in_X12 (by decide) rfl w_1179 dX12_becomeDue_68 ?_
                refine xx_bipush C 73 rfl dX12_becomeDue_71 (by decide) ?_
                refine xx_iaload C 74 rfl (by decide) (fun _ => rfl) (by decide) dX12_becomeDue_73 h (fun v73 h => ?_)
                refine xx_iadd C 75 rfl dX12_becomeDue_74 ?_
                refine xx_iload_n C 76 rfl 2 dX12_becomeDue_75 rfl rfl ?_
                refine xx_iastore C 77 rfl (by decide) (fun _ => rfl) (by decide) dX12_becomeDue_76 h (fun μ76 h => ?_)
                refine xx_aload_n C 78 rfl 0 dX12_becomeDue_77 rfl rfl ?_
                refine xx_getr (fi := 0) C 81 rfl (by decide) (ceM_0 _ _ _) rfl in_X12 (by decide) rfl w_1179 dX12_becomeDue_78 ?_
                refine xx_bipush C 83 rfl dX12_becomeDue_81 (by decide) ?_
                refine xx_dup2 C 84 rfl dX12_becomeDue_83 rfl rfl ?_
                refine xx_iaload C 85 rfl (by decide) (fun _ => rfl) (by decide) dX12_becomeDue_84 h (fun v84 h => ?_)
                refine xx_iconst C 86 rfl dX12_becomeDue_85 ?_
                refine xx_iadd C 87 rfl dX12_becomeDue_86 ?_
                refine xx_iastore C 88 rfl (by decide) (fun _ => rfl) (by decide) dX12_becomeDue_87 h (fun μ87 h => ?_)
                refine xx_aload_n C 89 rfl 0 dX12_becomeDue_88 rfl rfl ?_
                refine xx_iload_n C 90 rfl 2 dX12_becomeDue_89 rfl rfl ?_
                refine xx_cVv (As := [.int (iI x2_4)]) (st := []) (o := 0) C 93 rfl (by decide) (ceM_0 _ _ _) rfl rfl ca_X12_greys cv_X12_greys w_1291 rfl ⟨Nat.le_of_ble_eq_true rfl, Nat.le_of_ble_eq_true rfl⟩ ⟨Nat.le_of_ble_eq_true rfl, Nat.le_of_ble_eq_true rfl⟩ (Nat.le_of_ble_eq_true rfl) dX12_becomeDue_90 (fun μ90 e9 => c_X12_greys _ _ μ90 e9) h (fun μ90 h => ?_) rfl
                refine xx_iconst C 94 rfl dX12_becomeDue_93 ?_
                refine xx_istore_n (lv1 := [(1, .int (iI 1)), (0, .ref (ad 0)), (2, .int (iI x2_4))]) C 95 rfl (by decide) dX12_becomeDue_94 rfl rfl ?_
                refine xx_sub [1, 0, 2] rfl ?_
                exact K95 1 μ90 h
              · refine xx_goto C 95 dX12_becomeDue_47 (by decide) ?_
                exact K95 x1_4 μ4 h
  refine xx_sub [2, 1, 0] rfl ?_
  exact L4 _ _ _ _ h

def f_X12_cutsWeak_L2 (J67 : mu_T → Option mu_T) : Nat → Int → mu_T → Option mu_T
  | 0, _, _ => none
  | fu2 + 1, x1_2, μ2 => lt_ x1_2 24
      (rd_ μ2 1 293 (113 + x1_2) (fun v16 => jn_ (φ := mu_T → Option mu_T) (fun μ61 => nm_ (x1_2 + 1) (fun n61 => (f_X12_cutsWeak_L2 J67 fu2) n61 μ61))
      (fun J61 => eq_ v16 (-15)
      (J61 μ2)
      (rd_ μ2 1 293 (41 + v16) (fun v32 => eq_ v32 0
      (wr_ μ2 1 293 (113 + x1_2) (-15) (fun μ49 => rd_ μ49 1 293 6 (fun v57 => wr_ μ49 1 293 6 (v57 + 1) (fun μ60 => J61 μ60))))
      (J61 μ2))))))
      (J67 μ2)
def f_X12_cutsWeak (μ : mu_T)  : Option mu_T :=
  jn_ (φ := mu_T → Option mu_T) (fun μ67 => wr_ μ67 1 293 0 2 (fun μ73 => wr_ μ73 1 293 1 0 (fun μ80 => some μ80)))
      (fun J67 => f_X12_cutsWeak_L2 J67 20000 0 μ)
set_option maxHeartbeats 4000000 in
set_option maxRecDepth 100000 in
theorem c_X12_cutsWeak {G : gp_} {ad : Nat → Nat} (μ : mu_T)  (μr : mu_T) (h : f_X12_cutsWeak μ  = some μr) : mv_ yX12_cutsWeak cX12_cutsWeak 3 ({ frames := 0, cells := 0, slots := 0, locals := 0 } : Room) G 9 ad (ceM G ad) [.ref (ad 0)] μ μr := by
  refine mv_in (own := "UrnHeapModel") (lv := [(0, .ref (ad 0))]) (by decide) rfl rfl (Nat.le_of_ble_eq_true rfl) (fun X C E => ?_)
  unfold f_X12_cutsWeak at h
  refine xx_iconst C 1 rfl dX12_cutsWeak_0 ?_
  refine xx_istore_n (lv1 := [(1, .int (iI 0)), (0, .ref (ad 0))]) C 2 rfl (by decide) dX12_cutsWeak_1 rfl rfl ?_
  refine jn_r (fun J => ∀ (μ67 : mu_T), J μ67 = some μr → wx_ G X 9 ad (ceM G ad) μ67 0 0 67 [(0, .ref (ad 0))] []) h (fun μ67 h => ?_) (fun J67 K67 h => ?_)
  · refine xx_aload_n C 68 rfl 0 dX12_cutsWeak_67 rfl rfl ?_
    refine xx_getr (fi := 0) C 71 rfl (by decide) (ceM_0 _ _ _) rfl in_X12 (by decide) rfl w_1179 dX12_cutsWeak_68 ?_
    refine xx_iconst C 72 rfl dX12_cutsWeak_71 ?_
    refine xx_iconst C 73 rfl dX12_cutsWeak_72 ?_
    refine xx_iastore C 74 rfl (by decide) (fun _ => rfl) (by decide) dX12_cutsWeak_73 h (fun μ73 h => ?_)
    refine xx_aload_n C 75 rfl 0 dX12_cutsWeak_74 rfl rfl ?_
    refine xx_getr (fi := 0) C 78 rfl (by decide) (ceM_0 _ _ _) rfl in_X12 (by decide) rfl w_1179 dX12_cutsWeak_75 ?_
    refine xx_iconst C 79 rfl dX12_cutsWeak_78 ?_
    refine xx_iconst C 80 rfl dX12_cutsWeak_79 ?_
    refine xx_iastore C 81 rfl (by decide) (fun _ => rfl) (by decide) dX12_cutsWeak_80 h (fun μ80 h => ?_)
    exact xx_vret C E rfl ⟨Nat.le_of_ble_eq_true rfl, Nat.le_of_ble_eq_true rfl⟩ dX12_cutsWeak_81 h
  · have L2 : ∀ (fu2 : Nat) (x1_2 : Int) (μ2 : mu_T), f_X12_cutsWeak_L2 J67 fu2 x1_2 μ2 = some μr → wx_ G X 9 ad (ceM G ad) μ2 0 0 2 [(0, .ref (ad 0)), (1, .int (iI x1_2))] [] := by
      intro fu2
      induction fu2 with
      | zero => intro x1_2 μ2 h; exact nn_ h
      | succ fu2 K2 =>
        intro x1_2 μ2 h
        rw [f_X12_cutsWeak_L2] at h
        generalize f_X12_cutsWeak_L2 J67 fu2 = R2 at K2 h
        refine xx_iload_n C 3 rfl 1 dX12_cutsWeak_2 rfl rfl ?_
        refine xx_bipush C 5 rfl dX12_cutsWeak_3 (by decide) ?_
        refine xx_icmp_ge (tgt := 67) C 8 rfl dX12_cutsWeak_5 (by decide) h (fun h => ?_) (fun h => ?_)
        · refine xx_sub [0] rfl ?_
          exact K67 μ2 h
        · refine xx_aload_n C 9 rfl 0 dX12_cutsWeak_8 rfl rfl ?_
          refine xx_getr (fi := 0) C 12 rfl (by decide) (ceM_0 _ _ _) rfl in_X12 (by decide) rfl w_1179 dX12_cutsWeak_9 ?_
          refine xx_bipush C 14 rfl dX12_cutsWeak_12 (by decide) ?_
          refine xx_iload_n C 15 rfl 1 dX12_cutsWeak_14 rfl rfl ?_
          refine xx_iadd C 16 rfl dX12_cutsWeak_15 ?_
          refine xx_iaload C 17 rfl (by decide) (fun _ => rfl) (by decide) dX12_cutsWeak_16 h (fun v16 h => ?_)
          refine xx_istore_n (lv1 := [(2, .int (iI v16)), (0, .ref (ad 0)), (1, .int (iI x1_2))]) C 18 rfl (by decide) dX12_cutsWeak_17 rfl rfl ?_
          refine xx_iload_n C 19 rfl 0 dX12_cutsWeak_18 rfl rfl ?_
          refine xx_bipush C 21 rfl dX12_cutsWeak_19 (by decide) ?_
          refine jn_r (fun J => ∀ (μ61 : mu_T), J μ61 = some μr → wx_ G X 9 ad (ceM G ad) μ61 0 0 61 [(0, .ref (ad 0)), (1, .int (iI x1_2))] []) h (fun μ61 h => ?_) (fun J61 K61 h => ?_)
          · refine xx_iincn C 64 rfl 1 (by decide) dX12_cutsWeak_61 rfl h (fun n61 h => ?_)
            refine xx_lv (lv1 := [(1, .int (iI n61)), (0, .ref (ad 0))]) rfl ?_
            refine xx_goto C 2 dX12_cutsWeak_64 (by decide) ?_
            refine xx_sub [1, 0] rfl ?_
            exact K2 n61 μ61 h
          · refine xx_icmp_eq (tgt := 61) C 24 rfl dX12_cutsWeak_21 (by decide) h (fun h => ?_) (fun h => ?_)
            · refine xx_sub [1, 2] rfl ?_
              exact K61 μ2 h
            · refine xx_aload_n C 25 rfl 1 dX12_cutsWeak_24 rfl rfl ?_
              refine xx_getr (fi := 0) C 28 rfl (by decide) (ceM_0 _ _ _) rfl in_X12 (by decide) rfl w_1179 dX12_cutsWeak_25 ?_
              refine xx_bipush C 30 rfl dX12_cutsWeak_28 (by decide) ?_
              refine xx_iload_n C 31 rfl 0 dX12_cutsWeak_30 rfl rfl ?_
              refine xx_iadd C 32 rfl dX12_cutsWeak_31 ?_
              refine xx_iaload C 33 rfl (by decide) (fun _ => rfl) (by decide) dX12_cutsWeak_32 h (fun v32 h => ?_)
              refine xx_if_eq (tgt := 39) C 36 rfl dX12_cutsWeak_33 (by decide) h (fun h => ?_) (fun h => ?_)
              · refine xx_aload_n C 40 rfl 1 dX12_cutsWeak_39 rfl rfl ?_
                refine xx_getr (fi := 0) C 43 rfl (by decide) (ceM_0 _ _ _) rfl in_X12 (by decide) rfl w_1179 dX12_cutsWeak_40 ?_
                refine xx_bipush C 45 rfl dX12_cutsWeak_43 (by decide) ?_
                refine xx_iload_n C 46 rfl 2 dX12_cutsWeak_45 rfl rfl ?_
                refine xx_iadd C 47 rfl dX12_cutsWeak_46 ?_
                refine xx_bipush C 49 rfl dX12_cutsWeak_47 (by decide) ?_
                refine xx_iastore C 50 rfl (by decide) (fun _ => rfl) (by decide) dX12_cutsWeak_49 h (fun μ49 h => ?_)
                refine xx_aload_n C 51 rfl 1 dX12_cutsWeak_50 rfl rfl ?_
                refine xx_getr (fi := 0) C 54 rfl (by decide) (ceM_0 _ _ _) rfl in_X12 (by decide) rfl w_1179 dX12_cutsWeak_51 ?_
                refine xx_bipush C 56 rfl dX12_cutsWeak_54 (by decide) ?_
                refine xx_dup2 C 57 rfl dX12_cutsWeak_56 rfl rfl ?_
                refine xx_iaload C 58 rfl (by decide) (fun _ => rfl) (by decide) dX12_cutsWeak_57 h (fun v57 h => ?_)
                refine xx_iconst C 59 rfl dX12_cutsWeak_58 ?_
                refine xx_iadd C 60 rfl dX12_cutsWeak_59 ?_
                refine xx_iastore C 61 rfl (by decide) (fun _ => rfl) (by decide) dX12_cutsWeak_60 h (fun μ60 h => ?_)
                refine xx_sub [1, 2] rfl ?_
                exact K61 μ60 h
              · refine xx_goto C 61 dX12_cutsWeak_36 (by decide) ?_
                refine xx_sub [1, 2] rfl ?_
                exact K61 μ2 h
    refine xx_sub [1, 0] rfl ?_
    exact L2 _ _ _ h

def f_X12_frees_L85 (J117 : mu_T → Option mu_T) : Nat → Int → mu_T → Option mu_T
  | 0, _, _ => none
  | fu85 + 1, x2_85, μ85 => lt_ 0 x2_85
      (rd_ μ85 1 293 ((281 + x2_85) - 1) (fun v109 => wr_ μ85 1 293 (281 + x2_85) v109 (fun μ110 => nm_ (x2_85 + (-1)) (fun n111 => (f_X12_frees_L85 J117 fu85) n111 μ110))))
      (J117 μ85)
def f_X12_frees_L39 (J76 : mu_T → Option mu_T) (a1 : Int) (x2_7 : Int) : Nat → Int → mu_T → Option mu_T
  | 0, _, _ => none
  | fu39 + 1, x3_39, μ39 => lt_ x3_39 4
      (bd_ (f_X12_at μ39 x2_7 x3_39) (fun v50 => rd_ μ39 1 293 v50 (fun v53 => jn_ (φ := mu_T → Option mu_T) (fun μ70 => nm_ (x3_39 + 1) (fun n70 => (f_X12_frees_L39 J76 a1 x2_7 fu39) n70 μ70))
      (fun J70 => eq_ v53 a1
      (bd_ (f_X12_at μ39 x2_7 x3_39) (fun v64 => wr_ μ39 1 293 v64 (-15) (fun μ69 => J70 μ69)))
      (J70 μ39)))))
      (J76 μ39)
def f_X12_frees_L7 (J82 : mu_T → Option mu_T) (a1 : Int) : Nat → Int → mu_T → Option mu_T
  | 0, _, _ => none
  | fu7 + 1, x2_7, μ7 => lt_ x2_7 24
      (rd_ μ7 1 293 (113 + x2_7) (fun v21 => jn_ (φ := mu_T → Option mu_T) (fun μ37 => jn_ (φ := mu_T → Option mu_T) (fun μ76 => nm_ (x2_7 + 1) (fun n76 => (f_X12_frees_L7 J82 a1 fu7) n76 μ76))
      (fun J76 => f_X12_frees_L39 J76 a1 x2_7 20000 0 μ37))
      (fun J37 => eq_ v21 a1
      (wr_ μ7 1 293 (113 + x2_7) (-15) (fun μ36 => J37 μ36))
      (J37 μ7))))
      (J82 μ7)
def f_X12_frees (μ : mu_T) (a1 : Int) : Option mu_T :=
  bd_ (f_X12_empties μ a1) (fun μ2 => jn_ (φ := mu_T → Option mu_T) (fun μ82 => jn_ (φ := mu_T → Option mu_T) (fun μ117 => wr_ μ117 1 293 281 a1 (fun μ125 => rd_ μ125 1 293 10 (fun v133 => rd_ μ125 1 293 10 (fun v140 => jn_ (φ := Int → Option mu_T) (fun s0_151 => wr_ μ125 1 293 10 (v133 + s0_151) (fun μ152 => rd_ μ152 1 293 4 (fun v159 => wr_ μ152 1 293 4 (v159 + 1) (fun μ162 => some μ162))))
      (fun J151 => lt_ v140 12
      (J151 1)
      (J151 0))))))
      (fun J117 => f_X12_frees_L85 J117 20000 11 μ82))
      (fun J82 => f_X12_frees_L7 J82 a1 20000 0 μ2))
set_option maxHeartbeats 4000000 in
set_option maxRecDepth 100000 in
theorem c_X12_frees {G : gp_} {ad : Nat → Nat} (μ : mu_T) (a1 : Int) (μr : mu_T) (h : f_X12_frees μ a1 = some μr) : mv_ yX12_frees cX12_frees 4 ({ frames := 2, cells := 0, slots := 0, locals := 43 } : Room) G 9 ad (ceM G ad) [.ref (ad 0), .int (iI a1)] μ μr := by
  refine mv_in (own := "UrnHeapModel") (lv := [(0, .ref (ad 0)), (1, .int (iI a1))]) (by decide) rfl rfl (Nat.le_of_ble_eq_true rfl) (fun X C E => ?_)
  unfold f_X12_frees at h
  refine xx_aload_n C 1 rfl 0 dX12_frees_0 rfl rfl ?_
  refine xx_iload_n C 2 rfl 1 dX12_frees_1 rfl rfl ?_
  refine xx_cVv (As := [.int (iI a1)]) (st := []) (o := 0) C 5 rfl (by decide) (ceM_0 _ _ _) rfl rfl ca_X12_empties cv_X12_empties w_1172 rfl ⟨Nat.le_of_ble_eq_true rfl, Nat.le_of_ble_eq_true rfl⟩ ⟨Nat.le_of_ble_eq_true rfl, Nat.le_of_ble_eq_true rfl⟩ (Nat.le_of_ble_eq_true rfl) dX12_frees_2 (fun μ2 e9 => c_X12_empties _ _ μ2 e9) h (fun μ2 h => ?_) rfl
  refine xx_iconst C 6 rfl dX12_frees_5 ?_
  refine xx_istore_n (lv1 := [(2, .int (iI 0)), (0, .ref (ad 0)), (1, .int (iI a1))]) C 7 rfl (by decide) dX12_frees_6 rfl rfl ?_
  refine jn_r (fun J => ∀ (μ82 : mu_T), J μ82 = some μr → wx_ G X 9 ad (ceM G ad) μ82 0 0 82 [(0, .ref (ad 0)), (1, .int (iI a1))] []) h (fun μ82 h => ?_) (fun J82 K82 h => ?_)
  · refine xx_bipush C 84 rfl dX12_frees_82 (by decide) ?_
    refine xx_istore_n (lv1 := [(2, .int (iI 11)), (0, .ref (ad 0)), (1, .int (iI a1))]) C 85 rfl (by decide) dX12_frees_84 rfl rfl ?_
    refine jn_r (fun J => ∀ (μ117 : mu_T), J μ117 = some μr → wx_ G X 9 ad (ceM G ad) μ117 0 0 117 [(0, .ref (ad 0)), (1, .int (iI a1))] []) h (fun μ117 h => ?_) (fun J117 K117 h => ?_)
    · refine xx_aload_n C 118 rfl 0 dX12_frees_117 rfl rfl ?_
      refine xx_getr (fi := 0) C 121 rfl (by decide) (ceM_0 _ _ _) rfl in_X12 (by decide) rfl w_1179 dX12_frees_118 ?_
      refine xx_sipush C 124 rfl dX12_frees_121 (by decide) ?_
      refine xx_iload_n C 125 rfl 1 dX12_frees_124 rfl rfl ?_
      refine xx_iastore C 126 rfl (by decide) (fun _ => rfl) (by decide) dX12_frees_125 h (fun μ125 h => ?_)
      refine xx_aload_n C 127 rfl 0 dX12_frees_126 rfl rfl ?_
      refine xx_getr (fi := 0) C 130 rfl (by decide) (ceM_0 _ _ _) rfl in_X12 (by decide) rfl w_1179 dX12_frees_127 ?_
      refine xx_bipush C 132 rfl dX12_frees_130 (by decide) ?_
      refine xx_dup2 C 133 rfl dX12_frees_132 rfl rfl ?_
      refine xx_iaload C 134 rfl (by decide) (fun _ => rfl) (by decide) dX12_frees_133 h (fun v133 h => ?_)
      refine xx_aload_n C 135 rfl 0 dX12_frees_134 rfl rfl ?_
      refine xx_getr (fi := 0) C 138 rfl (by decide) (ceM_0 _ _ _) rfl in_X12 (by decide) rfl w_1179 dX12_frees_135 ?_
      refine xx_bipush C 140 rfl dX12_frees_138 (by decide) ?_
      refine xx_iaload C 141 rfl (by decide) (fun _ => rfl) (by decide) dX12_frees_140 h (fun v140 h => ?_)
      refine xx_bipush C 143 rfl dX12_frees_141 (by decide) ?_
      refine jn_r (fun J => ∀ (s0_151 : Int), J s0_151 = some μr → wx_ G X 9 ad (ceM G ad) μ125 0 0 151 [(0, .ref (ad 0))] [.int (iI s0_151), .int (iI v133), .int (iI 10), .ref (ad 1)]) h (fun s0_151 h => ?_) (fun J151 K151 h => ?_)
      · refine xx_iadd C 152 rfl dX12_frees_151 ?_
        refine xx_iastore C 153 rfl (by decide) (fun _ => rfl) (by decide) dX12_frees_152 h (fun μ152 h => ?_)
        refine xx_aload_n C 154 rfl 0 dX12_frees_153 rfl rfl ?_
        refine xx_getr (fi := 0) C 157 rfl (by decide) (ceM_0 _ _ _) rfl in_X12 (by decide) rfl w_1179 dX12_frees_154 ?_
        refine xx_iconst C 158 rfl dX12_frees_157 ?_
        refine xx_dup2 C 159 rfl dX12_frees_158 rfl rfl ?_
        refine xx_iaload C 160 rfl (by decide) (fun _ => rfl) (by decide) dX12_frees_159 h (fun v159 h => ?_)
        refine xx_iconst C 161 rfl dX12_frees_160 ?_
        refine xx_iadd C 162 rfl dX12_frees_161 ?_
        refine xx_iastore C 163 rfl (by decide) (fun _ => rfl) (by decide) dX12_frees_162 h (fun μ162 h => ?_)
        exact xx_vret C E rfl ⟨Nat.le_of_ble_eq_true rfl, Nat.le_of_ble_eq_true rfl⟩ dX12_frees_163 h
      · refine xx_icmp_ge (tgt := 150) C 146 rfl dX12_frees_143 (by decide) h (fun h => ?_) (fun h => ?_)
        · refine xx_iconst C 151 rfl dX12_frees_150 ?_
          refine xx_sub [0] rfl ?_
          exact K151 0 h
        · refine xx_iconst C 147 rfl dX12_frees_146 ?_
          refine xx_goto C 151 dX12_frees_147 (by decide) ?_
          refine xx_sub [0] rfl ?_
          exact K151 1 h
    · have L85 : ∀ (fu85 : Nat) (x2_85 : Int) (μ85 : mu_T), f_X12_frees_L85 J117 fu85 x2_85 μ85 = some μr → wx_ G X 9 ad (ceM G ad) μ85 0 0 85 [(0, .ref (ad 0)), (1, .int (iI a1)), (2, .int (iI x2_85))] [] := by
        intro fu85
        induction fu85 with
        | zero => intro x2_85 μ85 h; exact nn_ h
        | succ fu85 K85 =>
          intro x2_85 μ85 h
          rw [f_X12_frees_L85] at h
          generalize f_X12_frees_L85 J117 fu85 = R85 at K85 h
          refine xx_iload_n C 86 rfl 2 dX12_frees_85 rfl rfl ?_
          refine xx_if_le (tgt := 117) C 89 rfl dX12_frees_86 (by decide) h (fun h => ?_) (fun h => ?_)
          · refine xx_sub [0, 1] rfl ?_
            exact K117 μ85 h
          · refine xx_aload_n C 90 rfl 0 dX12_frees_89 rfl rfl ?_
            refine xx_getr (fi := 0) C 93 rfl (by decide) (ceM_0 _ _ _) rfl in_X12 (by decide) rfl w_1179 dX12_frees_90 ?_
            refine xx_sipush C 96 rfl dX12_frees_93 (by decide) ?_
            refine xx_iload_n C 97 rfl 2 dX12_frees_96 rfl rfl ?_
            refine xx_iadd C 98 rfl dX12_frees_97 ?_
            refine xx_aload_n C 99 rfl 0 dX12_frees_98 rfl rfl ?_
            refine xx_getr (fi := 0) C 102 rfl (by decide) (ceM_0 _ _ _) rfl in_X12 (by decide) rfl w_1179 dX12_frees_99 ?_
            refine xx_sipush C 105 rfl dX12_frees_102 (by decide) ?_
            refine xx_iload_n C 106 rfl 2 dX12_frees_105 rfl rfl ?_
            refine xx_iadd C 107 rfl dX12_frees_106 ?_
            refine xx_iconst C 108 rfl dX12_frees_107 ?_
            refine xx_isub C 109 rfl dX12_frees_108 ?_
            refine xx_iaload C 110 rfl (by decide) (fun _ => rfl) (by decide) dX12_frees_109 h (fun v109 h => ?_)
            refine xx_iastore C 111 rfl (by decide) (fun _ => rfl) (by decide) dX12_frees_110 h (fun μ110 h => ?_)
            refine xx_iincn C 114 rfl 2 (by decide) dX12_frees_111 rfl h (fun n111 h => ?_)
            refine xx_lv (lv1 := [(2, .int (iI n111)), (0, .ref (ad 0)), (1, .int (iI a1))]) rfl ?_
            refine xx_goto C 85 dX12_frees_114 (by decide) ?_
            refine xx_sub [1, 2, 0] rfl ?_
            exact K85 n111 μ110 h
      refine xx_sub [1, 2, 0] rfl ?_
      exact L85 _ _ _ h
  · have L7 : ∀ (fu7 : Nat) (x2_7 : Int) (μ7 : mu_T), f_X12_frees_L7 J82 a1 fu7 x2_7 μ7 = some μr → wx_ G X 9 ad (ceM G ad) μ7 0 0 7 [(0, .ref (ad 0)), (1, .int (iI a1)), (2, .int (iI x2_7))] [] := by
      intro fu7
      induction fu7 with
      | zero => intro x2_7 μ7 h; exact nn_ h
      | succ fu7 K7 =>
        intro x2_7 μ7 h
        rw [f_X12_frees_L7] at h
        generalize f_X12_frees_L7 J82 a1 fu7 = R7 at K7 h
        refine xx_iload_n C 8 rfl 2 dX12_frees_7 rfl rfl ?_
        refine xx_bipush C 10 rfl dX12_frees_8 (by decide) ?_
        refine xx_icmp_ge (tgt := 82) C 13 rfl dX12_frees_10 (by decide) h (fun h => ?_) (fun h => ?_)
        · refine xx_sub [0, 1] rfl ?_
          exact K82 μ7 h
        · refine xx_aload_n C 14 rfl 0 dX12_frees_13 rfl rfl ?_
          refine xx_getr (fi := 0) C 17 rfl (by decide) (ceM_0 _ _ _) rfl in_X12 (by decide) rfl w_1179 dX12_frees_14 ?_
          refine xx_bipush C 19 rfl dX12_frees_17 (by decide) ?_
          refine xx_iload_n C 20 rfl 2 dX12_frees_19 rfl rfl ?_
          refine xx_iadd C 21 rfl dX12_frees_20 ?_
          refine xx_iaload C 22 rfl (by decide) (fun _ => rfl) (by decide) dX12_frees_21 h (fun v21 h => ?_)
          refine xx_iload_n C 23 rfl 1 dX12_frees_22 rfl rfl ?_
          refine jn_r (fun J => ∀ (μ37 : mu_T), J μ37 = some μr → wx_ G X 9 ad (ceM G ad) μ37 0 0 37 [(0, .ref (ad 0)), (1, .int (iI a1)), (2, .int (iI x2_7))] []) h (fun μ37 h => ?_) (fun J37 K37 h => ?_)
          · refine xx_iconst C 38 rfl dX12_frees_37 ?_
            refine xx_istore_n (lv1 := [(3, .int (iI 0)), (0, .ref (ad 0)), (1, .int (iI a1)), (2, .int (iI x2_7))]) C 39 rfl (by decide) dX12_frees_38 rfl rfl ?_
            refine jn_r (fun J => ∀ (μ76 : mu_T), J μ76 = some μr → wx_ G X 9 ad (ceM G ad) μ76 0 0 76 [(0, .ref (ad 0)), (1, .int (iI a1)), (2, .int (iI x2_7))] []) h (fun μ76 h => ?_) (fun J76 K76 h => ?_)
            · refine xx_iincn C 79 rfl 2 (by decide) dX12_frees_76 rfl h (fun n76 h => ?_)
              refine xx_lv (lv1 := [(2, .int (iI n76)), (0, .ref (ad 0)), (1, .int (iI a1))]) rfl ?_
              refine xx_goto C 7 dX12_frees_79 (by decide) ?_
              refine xx_sub [1, 2, 0] rfl ?_
              exact K7 n76 μ76 h
            · have L39 : ∀ (fu39 : Nat) (x3_39 : Int) (μ39 : mu_T), f_X12_frees_L39 J76 a1 x2_7 fu39 x3_39 μ39 = some μr → wx_ G X 9 ad (ceM G ad) μ39 0 0 39 [(0, .ref (ad 0)), (1, .int (iI a1)), (2, .int (iI x2_7)), (3, .int (iI x3_39))] [] := by
                intro fu39
                induction fu39 with
                | zero => intro x3_39 μ39 h; exact nn_ h
                | succ fu39 K39 =>
                  intro x3_39 μ39 h
                  rw [f_X12_frees_L39] at h
                  generalize f_X12_frees_L39 J76 a1 x2_7 fu39 = R39 at K39 h
                  refine xx_iload_n C 40 rfl 3 dX12_frees_39 rfl rfl ?_
                  refine xx_iconst C 41 rfl dX12_frees_40 ?_
                  refine xx_icmp_ge (tgt := 76) C 44 rfl dX12_frees_41 (by decide) h (fun h => ?_) (fun h => ?_)
                  · refine xx_sub [0, 1, 2] rfl ?_
                    exact K76 μ39 h
                  · refine xx_aload_n C 45 rfl 0 dX12_frees_44 rfl rfl ?_
                    refine xx_getr (fi := 0) C 48 rfl (by decide) (ceM_0 _ _ _) rfl in_X12 (by decide) rfl w_1179 dX12_frees_45 ?_
                    refine xx_iload_n C 49 rfl 2 dX12_frees_48 rfl rfl ?_
                    refine xx_iload_n C 50 rfl 3 dX12_frees_49 rfl rfl ?_
                    refine xx_cSip (As := [.int (iI x2_7), .int (iI x3_39)]) (st := [.ref (ad 1)]) C 53 rfl  ca_X12_at cs_X12_at w_1176 rfl ⟨Nat.le_of_ble_eq_true rfl, Nat.le_of_ble_eq_true rfl⟩ ⟨Nat.le_of_ble_eq_true rfl, Nat.le_of_ble_eq_true rfl⟩ (Nat.le_of_ble_eq_true rfl) dX12_frees_50 (fun v50 e9 => c_X12_at _ _ _ v50 e9) h (fun v50 h => ?_) rfl
                    refine xx_iaload C 54 rfl (by decide) (fun _ => rfl) (by decide) dX12_frees_53 h (fun v53 h => ?_)
                    refine xx_iload_n C 55 rfl 1 dX12_frees_54 rfl rfl ?_
                    refine jn_r (fun J => ∀ (μ70 : mu_T), J μ70 = some μr → wx_ G X 9 ad (ceM G ad) μ70 0 0 70 [(0, .ref (ad 0)), (1, .int (iI a1)), (2, .int (iI x2_7)), (3, .int (iI x3_39))] []) h (fun μ70 h => ?_) (fun J70 K70 h => ?_)
                    · refine xx_iincn C 73 rfl 3 (by decide) dX12_frees_70 rfl h (fun n70 h => ?_)
                      refine xx_lv (lv1 := [(3, .int (iI n70)), (0, .ref (ad 0)), (1, .int (iI a1)), (2, .int (iI x2_7))]) rfl ?_
                      refine xx_goto C 39 dX12_frees_73 (by decide) ?_
                      refine xx_sub [1, 2, 3, 0] rfl ?_
                      exact K39 n70 μ70 h
                    · refine xx_icmp_ne (tgt := 70) C 58 rfl dX12_frees_55 (by decide) h (fun h => ?_) (fun h => ?_)
                      · exact K70 μ39 h
                      · refine xx_aload_n C 59 rfl 0 dX12_frees_58 rfl rfl ?_
                        refine xx_getr (fi := 0) C 62 rfl (by decide) (ceM_0 _ _ _) rfl in_X12 (by decide) rfl w_1179 dX12_frees_59 ?_
                        refine xx_iload_n C 63 rfl 2 dX12_frees_62 rfl rfl ?_
                        refine xx_iload_n C 64 rfl 3 dX12_frees_63 rfl rfl ?_
                        refine xx_cSip (As := [.int (iI x2_7), .int (iI x3_39)]) (st := [.ref (ad 1)]) C 67 rfl  ca_X12_at cs_X12_at w_1176 rfl ⟨Nat.le_of_ble_eq_true rfl, Nat.le_of_ble_eq_true rfl⟩ ⟨Nat.le_of_ble_eq_true rfl, Nat.le_of_ble_eq_true rfl⟩ (Nat.le_of_ble_eq_true rfl) dX12_frees_64 (fun v64 e9 => c_X12_at _ _ _ v64 e9) h (fun v64 h => ?_) rfl
                        refine xx_bipush C 69 rfl dX12_frees_67 (by decide) ?_
                        refine xx_iastore C 70 rfl (by decide) (fun _ => rfl) (by decide) dX12_frees_69 h (fun μ69 h => ?_)
                        exact K70 μ69 h
              refine xx_sub [1, 2, 3, 0] rfl ?_
              exact L39 _ _ _ h
          · refine xx_icmp_ne (tgt := 37) C 26 rfl dX12_frees_23 (by decide) h (fun h => ?_) (fun h => ?_)
            · exact K37 μ7 h
            · refine xx_aload_n C 27 rfl 0 dX12_frees_26 rfl rfl ?_
              refine xx_getr (fi := 0) C 30 rfl (by decide) (ceM_0 _ _ _) rfl in_X12 (by decide) rfl w_1179 dX12_frees_27 ?_
              refine xx_bipush C 32 rfl dX12_frees_30 (by decide) ?_
              refine xx_iload_n C 33 rfl 2 dX12_frees_32 rfl rfl ?_
              refine xx_iadd C 34 rfl dX12_frees_33 ?_
              refine xx_bipush C 36 rfl dX12_frees_34 (by decide) ?_
              refine xx_iastore C 37 rfl (by decide) (fun _ => rfl) (by decide) dX12_frees_36 h (fun μ36 h => ?_)
              exact K37 μ36 h
    refine xx_sub [1, 2, 0] rfl ?_
    exact L7 _ _ _ h

