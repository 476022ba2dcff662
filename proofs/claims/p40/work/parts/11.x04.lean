theorem dX7_heavierThan_0 : decode cX7_heavierThan 0 = .ok (.iconst 0, 1) := by decide +kernel
theorem dX7_heavierThan_1 : decode cX7_heavierThan 1 = .ok (.istore_n 2, 1) := by decide +kernel
theorem dX7_heavierThan_2 : decode cX7_heavierThan 2 = .ok (.aload_n 0, 1) := by decide +kernel
theorem dX7_heavierThan_3 : decode cX7_heavierThan 3 = .ok (.getfield 9, 3) := by decide +kernel
theorem dX7_heavierThan_6 : decode cX7_heavierThan 6 = .ok (.astore_n 3, 1) := by decide +kernel
theorem dX7_heavierThan_7 : decode cX7_heavierThan 7 = .ok (.aload_n 3, 1) := by decide +kernel
theorem dX7_heavierThan_8 : decode cX7_heavierThan 8 = .ok (.arraylength, 1) := by decide +kernel
theorem dX7_heavierThan_9 : decode cX7_heavierThan 9 = .ok (.istore 4, 2) := by decide +kernel
theorem dX7_heavierThan_11 : decode cX7_heavierThan 11 = .ok (.iconst 0, 1) := by decide +kernel
theorem dX7_heavierThan_12 : decode cX7_heavierThan 12 = .ok (.istore 5, 2) := by decide +kernel
theorem dX7_heavierThan_14 : decode cX7_heavierThan 14 = .ok (.iload 5, 2) := by decide +kernel
theorem dX7_heavierThan_16 : decode cX7_heavierThan 16 = .ok (.iload 4, 2) := by decide +kernel
theorem dX7_heavierThan_18 : decode cX7_heavierThan 18 = .ok (.if_icmp .ge 24, 3) := by decide +kernel
theorem dX7_heavierThan_21 : decode cX7_heavierThan 21 = .ok (.aload_n 3, 1) := by decide +kernel
theorem dX7_heavierThan_22 : decode cX7_heavierThan 22 = .ok (.iload 5, 2) := by decide +kernel
theorem dX7_heavierThan_24 : decode cX7_heavierThan 24 = .ok (.iaload, 1) := by decide +kernel
theorem dX7_heavierThan_25 : decode cX7_heavierThan 25 = .ok (.istore 6, 2) := by decide +kernel
theorem dX7_heavierThan_27 : decode cX7_heavierThan 27 = .ok (.iload 6, 2) := by decide +kernel
theorem dX7_heavierThan_29 : decode cX7_heavierThan 29 = .ok (.iload_n 1, 1) := by decide +kernel
theorem dX7_heavierThan_30 : decode cX7_heavierThan 30 = .ok (.if_icmp .le 6, 3) := by decide +kernel
theorem dX7_heavierThan_33 : decode cX7_heavierThan 33 = .ok (.iinc 2 1, 3) := by decide +kernel
theorem dX7_heavierThan_36 : decode cX7_heavierThan 36 = .ok (.iinc 5 1, 3) := by decide +kernel
theorem dX7_heavierThan_39 : decode cX7_heavierThan 39 = .ok (.goto (-25), 3) := by decide +kernel
theorem dX7_heavierThan_42 : decode cX7_heavierThan 42 = .ok (.iload_n 2, 1) := by decide +kernel
theorem dX7_heavierThan_43 : decode cX7_heavierThan 43 = .ok (.ireturn, 1) := by decide +kernel
theorem dX7_urnAtRank_0 : decode cX7_urnAtRank 0 = .ok (.aload_n 0, 1) := by decide +kernel
theorem dX7_urnAtRank_1 : decode cX7_urnAtRank 1 = .ok (.invokevirtual 62, 3) := by decide +kernel
theorem dX7_urnAtRank_4 : decode cX7_urnAtRank 4 = .ok (.iconst 0, 1) := by decide +kernel
theorem dX7_urnAtRank_5 : decode cX7_urnAtRank 5 = .ok (.istore_n 2, 1) := by decide +kernel
theorem dX7_urnAtRank_6 : decode cX7_urnAtRank 6 = .ok (.iload_n 2, 1) := by decide +kernel
theorem dX7_urnAtRank_7 : decode cX7_urnAtRank 7 = .ok (.bipush 24, 2) := by decide +kernel
theorem dX7_urnAtRank_9 : decode cX7_urnAtRank 9 = .ok (.if_icmp .ge 36, 3) := by decide +kernel
theorem dX7_urnAtRank_12 : decode cX7_urnAtRank 12 = .ok (.aload_n 0, 1) := by decide +kernel
theorem dX7_urnAtRank_13 : decode cX7_urnAtRank 13 = .ok (.getfield 15, 3) := by decide +kernel
theorem dX7_urnAtRank_16 : decode cX7_urnAtRank 16 = .ok (.iload_n 2, 1) := by decide +kernel
theorem dX7_urnAtRank_17 : decode cX7_urnAtRank 17 = .ok (.invokevirtual 58, 3) := by decide +kernel
theorem dX7_urnAtRank_20 : decode cX7_urnAtRank 20 = .ok (.ifCond .eq 19, 3) := by decide +kernel
theorem dX7_urnAtRank_23 : decode cX7_urnAtRank 23 = .ok (.aload_n 0, 1) := by decide +kernel
theorem dX7_urnAtRank_24 : decode cX7_urnAtRank 24 = .ok (.aload_n 0, 1) := by decide +kernel
theorem dX7_urnAtRank_25 : decode cX7_urnAtRank 25 = .ok (.getfield 9, 3) := by decide +kernel
theorem dX7_urnAtRank_28 : decode cX7_urnAtRank 28 = .ok (.iload_n 2, 1) := by decide +kernel
theorem dX7_urnAtRank_29 : decode cX7_urnAtRank 29 = .ok (.iaload, 1) := by decide +kernel
theorem dX7_urnAtRank_30 : decode cX7_urnAtRank 30 = .ok (.invokevirtual 65, 3) := by decide +kernel
theorem dX7_urnAtRank_33 : decode cX7_urnAtRank 33 = .ok (.iload_n 1, 1) := by decide +kernel
theorem dX7_urnAtRank_34 : decode cX7_urnAtRank 34 = .ok (.if_icmp .ne 5, 3) := by decide +kernel
theorem dX7_urnAtRank_37 : decode cX7_urnAtRank 37 = .ok (.iload_n 2, 1) := by decide +kernel
theorem dX7_urnAtRank_38 : decode cX7_urnAtRank 38 = .ok (.ireturn, 1) := by decide +kernel
theorem dX7_urnAtRank_39 : decode cX7_urnAtRank 39 = .ok (.iinc 2 1, 3) := by decide +kernel
theorem dX7_urnAtRank_42 : decode cX7_urnAtRank 42 = .ok (.goto (-36), 3) := by decide +kernel
theorem dX7_urnAtRank_45 : decode cX7_urnAtRank 45 = .ok (.bipush (-11), 2) := by decide +kernel
theorem dX7_urnAtRank_47 : decode cX7_urnAtRank 47 = .ok (.ireturn, 1) := by decide +kernel
theorem dX9_takeFirst_0 : decode cX9_takeFirst 0 = .ok (.aload_n 0, 1) := by decide +kernel
theorem dX9_takeFirst_1 : decode cX9_takeFirst 1 = .ok (.getfield 15, 3) := by decide +kernel
theorem dX9_takeFirst_4 : decode cX9_takeFirst 4 = .ok (.ifCond .gt 6, 3) := by decide +kernel
theorem dX9_takeFirst_7 : decode cX9_takeFirst 7 = .ok (.bipush (-15), 2) := by decide +kernel
theorem dX9_takeFirst_9 : decode cX9_takeFirst 9 = .ok (.ireturn, 1) := by decide +kernel
theorem dX9_takeFirst_10 : decode cX9_takeFirst 10 = .ok (.aload_n 0, 1) := by decide +kernel
theorem dX9_takeFirst_11 : decode cX9_takeFirst 11 = .ok (.getfield 9, 3) := by decide +kernel
theorem dX9_takeFirst_14 : decode cX9_takeFirst 14 = .ok (.iconst 0, 1) := by decide +kernel
theorem dX9_takeFirst_15 : decode cX9_takeFirst 15 = .ok (.iaload, 1) := by decide +kernel
theorem dX9_takeFirst_16 : decode cX9_takeFirst 16 = .ok (.istore_n 1, 1) := by decide +kernel
theorem dX9_takeFirst_17 : decode cX9_takeFirst 17 = .ok (.aload_n 0, 1) := by decide +kernel
theorem dX9_takeFirst_18 : decode cX9_takeFirst 18 = .ok (.dup, 1) := by decide +kernel
theorem dX9_takeFirst_19 : decode cX9_takeFirst 19 = .ok (.getfield 15, 3) := by decide +kernel
theorem dX9_takeFirst_22 : decode cX9_takeFirst 22 = .ok (.iconst 1, 1) := by decide +kernel
theorem dX9_takeFirst_23 : decode cX9_takeFirst 23 = .ok (.isub, 1) := by decide +kernel
theorem dX9_takeFirst_24 : decode cX9_takeFirst 24 = .ok (.putfield 15, 3) := by decide +kernel
theorem dX9_takeFirst_27 : decode cX9_takeFirst 27 = .ok (.aload_n 0, 1) := by decide +kernel
theorem dX9_takeFirst_28 : decode cX9_takeFirst 28 = .ok (.getfield 9, 3) := by decide +kernel
theorem dX9_takeFirst_31 : decode cX9_takeFirst 31 = .ok (.iconst 1, 1) := by decide +kernel
theorem dX9_takeFirst_32 : decode cX9_takeFirst 32 = .ok (.aload_n 0, 1) := by decide +kernel
theorem dX9_takeFirst_33 : decode cX9_takeFirst 33 = .ok (.getfield 9, 3) := by decide +kernel
theorem dX9_takeFirst_36 : decode cX9_takeFirst 36 = .ok (.iconst 0, 1) := by decide +kernel
theorem dX9_takeFirst_37 : decode cX9_takeFirst 37 = .ok (.aload_n 0, 1) := by decide +kernel
theorem dX9_takeFirst_38 : decode cX9_takeFirst 38 = .ok (.getfield 15, 3) := by decide +kernel
theorem dX9_takeFirst_41 : decode cX9_takeFirst 41 = .ok (.invokestatic 19, 3) := by decide +kernel
theorem dX9_takeFirst_44 : decode cX9_takeFirst 44 = .ok (.iload_n 1, 1) := by decide +kernel
theorem dX9_takeFirst_45 : decode cX9_takeFirst 45 = .ok (.ireturn, 1) := by decide +kernel
theorem dX9_at_0 : decode cX9_at 0 = .ok (.iload_n 1, 1) := by decide +kernel
theorem dX9_at_1 : decode cX9_at 1 = .ok (.ifCond .lt 29, 3) := by decide +kernel
theorem dX9_at_4 : decode cX9_at 4 = .ok (.iload_n 1, 1) := by decide +kernel
theorem dX9_at_5 : decode cX9_at 5 = .ok (.aload_n 0, 1) := by decide +kernel
theorem dX9_at_6 : decode cX9_at 6 = .ok (.getfield 15, 3) := by decide +kernel
theorem dX9_at_9 : decode cX9_at 9 = .ok (.if_icmp .ge 21, 3) := by decide +kernel
theorem dX9_at_12 : decode cX9_at 12 = .ok (.iload_n 1, 1) := by decide +kernel
theorem dX9_at_13 : decode cX9_at 13 = .ok (.aload_n 0, 1) := by decide +kernel
theorem dX9_at_14 : decode cX9_at 14 = .ok (.getfield 9, 3) := by decide +kernel
theorem dX9_at_17 : decode cX9_at 17 = .ok (.arraylength, 1) := by decide +kernel
theorem dX9_at_18 : decode cX9_at 18 = .ok (.if_icmp .ge 12, 3) := by decide +kernel
theorem dX9_at_21 : decode cX9_at 21 = .ok (.aload_n 0, 1) := by decide +kernel
theorem dX9_at_22 : decode cX9_at 22 = .ok (.getfield 9, 3) := by decide +kernel
theorem dX9_at_25 : decode cX9_at 25 = .ok (.iload_n 1, 1) := by decide +kernel
theorem dX9_at_26 : decode cX9_at 26 = .ok (.iaload, 1) := by decide +kernel
theorem dX9_at_27 : decode cX9_at 27 = .ok (.goto 5, 3) := by decide +kernel
theorem dX9_at_30 : decode cX9_at 30 = .ok (.bipush (-11), 2) := by decide +kernel
theorem dX9_at_32 : decode cX9_at 32 = .ok (.ireturn, 1) := by decide +kernel
theorem dX10_markRoots_0 : decode cX10_markRoots 0 = .ok (.aload_n 0, 1) := by decide +kernel
theorem dX10_markRoots_1 : decode cX10_markRoots 1 = .ok (.getfield 9, 3) := by decide +kernel
theorem dX10_markRoots_4 : decode cX10_markRoots 4 = .ok (.iconst 1, 1) := by decide +kernel
theorem dX10_markRoots_5 : decode cX10_markRoots 5 = .ok (.putfield 19, 3) := by decide +kernel
theorem dX10_markRoots_8 : decode cX10_markRoots 8 = .ok (.iconst 0, 1) := by decide +kernel
theorem dX10_markRoots_9 : decode cX10_markRoots 9 = .ok (.istore_n 1, 1) := by decide +kernel
theorem dX10_markRoots_10 : decode cX10_markRoots 10 = .ok (.iload_n 1, 1) := by decide +kernel
theorem dX10_markRoots_11 : decode cX10_markRoots 11 = .ok (.bipush 6, 2) := by decide +kernel
theorem dX10_markRoots_13 : decode cX10_markRoots 13 = .ok (.if_icmp .ge 25, 3) := by decide +kernel
theorem dX10_markRoots_16 : decode cX10_markRoots 16 = .ok (.aload_n 0, 1) := by decide +kernel
theorem dX10_markRoots_17 : decode cX10_markRoots 17 = .ok (.getfield 9, 3) := by decide +kernel
theorem dX10_markRoots_20 : decode cX10_markRoots 20 = .ok (.aload_n 0, 1) := by decide +kernel
theorem dX10_markRoots_21 : decode cX10_markRoots 21 = .ok (.getfield 9, 3) := by decide +kernel
theorem dX10_markRoots_24 : decode cX10_markRoots 24 = .ok (.getfield 71, 3) := by decide +kernel
theorem dX10_markRoots_27 : decode cX10_markRoots 27 = .ok (.iload_n 1, 1) := by decide +kernel
theorem dX10_markRoots_28 : decode cX10_markRoots 28 = .ok (.iaload, 1) := by decide +kernel
theorem dX10_markRoots_29 : decode cX10_markRoots 29 = .ok (.invokevirtual 74, 3) := by decide +kernel
theorem dX10_markRoots_32 : decode cX10_markRoots 32 = .ok (.iinc 1 1, 3) := by decide +kernel
theorem dX10_markRoots_35 : decode cX10_markRoots 35 = .ok (.goto (-25), 3) := by decide +kernel
theorem dX10_markRoots_38 : decode cX10_markRoots 38 = .ok (.iconst 0, 1) := by decide +kernel
theorem dX10_markRoots_39 : decode cX10_markRoots 39 = .ok (.istore_n 1, 1) := by decide +kernel
theorem dX10_markRoots_40 : decode cX10_markRoots 40 = .ok (.iload_n 1, 1) := by decide +kernel
theorem dX10_markRoots_41 : decode cX10_markRoots 41 = .ok (.aload_n 0, 1) := by decide +kernel
theorem dX10_markRoots_42 : decode cX10_markRoots 42 = .ok (.getfield 9, 3) := by decide +kernel
theorem dX10_markRoots_45 : decode cX10_markRoots 45 = .ok (.getfield 53, 3) := by decide +kernel
theorem dX10_markRoots_48 : decode cX10_markRoots 48 = .ok (.getfield 38, 3) := by decide +kernel
theorem dX10_markRoots_51 : decode cX10_markRoots 51 = .ok (.if_icmp .ge 27, 3) := by decide +kernel
theorem dX10_markRoots_54 : decode cX10_markRoots 54 = .ok (.aload_n 0, 1) := by decide +kernel
theorem dX10_markRoots_55 : decode cX10_markRoots 55 = .ok (.getfield 9, 3) := by decide +kernel
theorem dX10_markRoots_58 : decode cX10_markRoots 58 = .ok (.aload_n 0, 1) := by decide +kernel
theorem dX10_markRoots_59 : decode cX10_markRoots 59 = .ok (.getfield 9, 3) := by decide +kernel
theorem dX10_markRoots_62 : decode cX10_markRoots 62 = .ok (.getfield 53, 3) := by decide +kernel
theorem dX10_markRoots_65 : decode cX10_markRoots 65 = .ok (.iload_n 1, 1) := by decide +kernel
theorem dX10_markRoots_66 : decode cX10_markRoots 66 = .ok (.invokevirtual 78, 3) := by decide +kernel
theorem dX10_markRoots_69 : decode cX10_markRoots 69 = .ok (.invokevirtual 74, 3) := by decide +kernel
theorem dX10_markRoots_72 : decode cX10_markRoots 72 = .ok (.iinc 1 1, 3) := by decide +kernel
theorem dX10_markRoots_75 : decode cX10_markRoots 75 = .ok (.goto (-35), 3) := by decide +kernel
theorem dX10_markRoots_78 : decode cX10_markRoots 78 = .ok (.return_, 1) := by decide +kernel
theorem dX10_beginRound_0 : decode cX10_beginRound 0 = .ok (.aload_n 0, 1) := by decide +kernel
theorem dX10_beginRound_1 : decode cX10_beginRound 1 = .ok (.getfield 9, 3) := by decide +kernel
theorem dX10_beginRound_4 : decode cX10_beginRound 4 = .ok (.getfield 19, 3) := by decide +kernel
theorem dX10_beginRound_7 : decode cX10_beginRound 7 = .ok (.ifCond .eq 19, 3) := by decide +kernel
theorem dX10_beginRound_10 : decode cX10_beginRound 10 = .ok (.aload_n 0, 1) := by decide +kernel
theorem dX10_beginRound_11 : decode cX10_beginRound 11 = .ok (.getfield 15, 3) := by decide +kernel
theorem dX10_beginRound_14 : decode cX10_beginRound 14 = .ok (.iconst 4, 1) := by decide +kernel
theorem dX10_beginRound_15 : decode cX10_beginRound 15 = .ok (.aload_n 0, 1) := by decide +kernel
theorem dX10_beginRound_16 : decode cX10_beginRound 16 = .ok (.getfield 9, 3) := by decide +kernel
theorem dX10_beginRound_19 : decode cX10_beginRound 19 = .ok (.getfield 19, 3) := by decide +kernel
theorem dX10_beginRound_22 : decode cX10_beginRound 22 = .ok (.invokevirtual 25, 3) := by decide +kernel
theorem dX10_beginRound_25 : decode cX10_beginRound 25 = .ok (.ireturn, 1) := by decide +kernel
theorem dX10_beginRound_26 : decode cX10_beginRound 26 = .ok (.aload_n 0, 1) := by decide +kernel
theorem dX10_beginRound_27 : decode cX10_beginRound 27 = .ok (.invokevirtual 31, 3) := by decide +kernel
theorem dX10_beginRound_30 : decode cX10_beginRound 30 = .ok (.aload_n 0, 1) := by decide +kernel
theorem dX10_beginRound_31 : decode cX10_beginRound 31 = .ok (.getfield 9, 3) := by decide +kernel
theorem dX10_beginRound_34 : decode cX10_beginRound 34 = .ok (.getfield 34, 3) := by decide +kernel
theorem dX10_beginRound_37 : decode cX10_beginRound 37 = .ok (.getfield 38, 3) := by decide +kernel
theorem dX10_beginRound_40 : decode cX10_beginRound 40 = .ok (.ireturn, 1) := by decide +kernel
theorem dX10_makeRitesDue_0 : decode cX10_makeRitesDue 0 = .ok (.iconst 0, 1) := by decide +kernel
theorem dX10_makeRitesDue_1 : decode cX10_makeRitesDue 1 = .ok (.istore_n 1, 1) := by decide +kernel
theorem dX10_makeRitesDue_2 : decode cX10_makeRitesDue 2 = .ok (.iconst 0, 1) := by decide +kernel
theorem dX10_makeRitesDue_3 : decode cX10_makeRitesDue 3 = .ok (.istore_n 2, 1) := by decide +kernel
theorem dX10_makeRitesDue_4 : decode cX10_makeRitesDue 4 = .ok (.iload_n 2, 1) := by decide +kernel
theorem dX10_makeRitesDue_5 : decode cX10_makeRitesDue 5 = .ok (.bipush 24, 2) := by decide +kernel
theorem dX10_makeRitesDue_7 : decode cX10_makeRitesDue 7 = .ok (.if_icmp .ge 64, 3) := by decide +kernel
theorem dX10_makeRitesDue_10 : decode cX10_makeRitesDue 10 = .ok (.aload_n 0, 1) := by decide +kernel
theorem dX10_makeRitesDue_11 : decode cX10_makeRitesDue 11 = .ok (.getfield 9, 3) := by decide +kernel
theorem dX10_makeRitesDue_14 : decode cX10_makeRitesDue 14 = .ok (.iload_n 2, 1) := by decide +kernel
theorem dX10_makeRitesDue_15 : decode cX10_makeRitesDue 15 = .ok (.invokevirtual 103, 3) := by decide +kernel
theorem dX10_makeRitesDue_18 : decode cX10_makeRitesDue 18 = .ok (.ifCond .eq 47, 3) := by decide +kernel
theorem dX10_makeRitesDue_21 : decode cX10_makeRitesDue 21 = .ok (.aload_n 0, 1) := by decide +kernel
theorem dX10_makeRitesDue_22 : decode cX10_makeRitesDue 22 = .ok (.getfield 9, 3) := by decide +kernel
theorem dX10_makeRitesDue_25 : decode cX10_makeRitesDue 25 = .ok (.getfield 67, 3) := by decide +kernel
theorem dX10_makeRitesDue_28 : decode cX10_makeRitesDue 28 = .ok (.iload_n 2, 1) := by decide +kernel
theorem dX10_makeRitesDue_29 : decode cX10_makeRitesDue 29 = .ok (.iaload, 1) := by decide +kernel
theorem dX10_makeRitesDue_30 : decode cX10_makeRitesDue 30 = .ok (.iconst 1, 1) := by decide +kernel
theorem dX10_makeRitesDue_31 : decode cX10_makeRitesDue 31 = .ok (.if_icmp .ne 34, 3) := by decide +kernel
theorem dX10_makeRitesDue_34 : decode cX10_makeRitesDue 34 = .ok (.aload_n 0, 1) := by decide +kernel
theorem dX10_makeRitesDue_35 : decode cX10_makeRitesDue 35 = .ok (.getfield 9, 3) := by decide +kernel
theorem dX10_makeRitesDue_38 : decode cX10_makeRitesDue 38 = .ok (.iload_n 2, 1) := by decide +kernel
theorem dX10_makeRitesDue_39 : decode cX10_makeRitesDue 39 = .ok (.invokevirtual 74, 3) := by decide +kernel
theorem dX10_makeRitesDue_42 : decode cX10_makeRitesDue 42 = .ok (.aload_n 0, 1) := by decide +kernel
theorem dX10_makeRitesDue_43 : decode cX10_makeRitesDue 43 = .ok (.getfield 9, 3) := by decide +kernel
theorem dX10_makeRitesDue_46 : decode cX10_makeRitesDue 46 = .ok (.getfield 67, 3) := by decide +kernel
theorem dX10_makeRitesDue_49 : decode cX10_makeRitesDue 49 = .ok (.iload_n 2, 1) := by decide +kernel
theorem dX10_makeRitesDue_50 : decode cX10_makeRitesDue 50 = .ok (.iconst 2, 1) := by decide +kernel
theorem dX10_makeRitesDue_51 : decode cX10_makeRitesDue 51 = .ok (.iastore, 1) := by decide +kernel
theorem dX10_makeRitesDue_52 : decode cX10_makeRitesDue 52 = .ok (.aload_n 0, 1) := by decide +kernel
theorem dX10_makeRitesDue_53 : decode cX10_makeRitesDue 53 = .ok (.getfield 9, 3) := by decide +kernel
theorem dX10_makeRitesDue_56 : decode cX10_makeRitesDue 56 = .ok (.getfield 53, 3) := by decide +kernel
theorem dX10_makeRitesDue_59 : decode cX10_makeRitesDue 59 = .ok (.iload_n 2, 1) := by decide +kernel
theorem dX10_makeRitesDue_60 : decode cX10_makeRitesDue 60 = .ok (.invokevirtual 106, 3) := by decide +kernel
theorem dX10_makeRitesDue_63 : decode cX10_makeRitesDue 63 = .ok (.iconst 1, 1) := by decide +kernel
theorem dX10_makeRitesDue_64 : decode cX10_makeRitesDue 64 = .ok (.istore_n 1, 1) := by decide +kernel
theorem dX10_makeRitesDue_65 : decode cX10_makeRitesDue 65 = .ok (.iinc 2 1, 3) := by decide +kernel
theorem dX10_makeRitesDue_68 : decode cX10_makeRitesDue 68 = .ok (.goto (-64), 3) := by decide +kernel
theorem dX10_makeRitesDue_71 : decode cX10_makeRitesDue 71 = .ok (.iload_n 1, 1) := by decide +kernel
theorem dX10_makeRitesDue_72 : decode cX10_makeRitesDue 72 = .ok (.ireturn, 1) := by decide +kernel
theorem dX10_beginSweep_0 : decode cX10_beginSweep 0 = .ok (.iconst 0, 1) := by decide +kernel
theorem dX10_beginSweep_1 : decode cX10_beginSweep 1 = .ok (.istore_n 1, 1) := by decide +kernel
theorem dX10_beginSweep_2 : decode cX10_beginSweep 2 = .ok (.iload_n 1, 1) := by decide +kernel
theorem dX10_beginSweep_3 : decode cX10_beginSweep 3 = .ok (.bipush 24, 2) := by decide +kernel
theorem dX10_beginSweep_5 : decode cX10_beginSweep 5 = .ok (.if_icmp .ge 52, 3) := by decide +kernel
theorem dX10_beginSweep_8 : decode cX10_beginSweep 8 = .ok (.aload_n 0, 1) := by decide +kernel
theorem dX10_beginSweep_9 : decode cX10_beginSweep 9 = .ok (.getfield 9, 3) := by decide +kernel
theorem dX10_beginSweep_12 : decode cX10_beginSweep 12 = .ok (.aload_n 0, 1) := by decide +kernel
theorem dX10_beginSweep_13 : decode cX10_beginSweep 13 = .ok (.getfield 9, 3) := by decide +kernel
theorem dX10_beginSweep_16 : decode cX10_beginSweep 16 = .ok (.getfield 109, 3) := by decide +kernel
theorem dX10_beginSweep_19 : decode cX10_beginSweep 19 = .ok (.iload_n 1, 1) := by decide +kernel
theorem dX10_beginSweep_20 : decode cX10_beginSweep 20 = .ok (.iaload, 1) := by decide +kernel
theorem dX10_beginSweep_21 : decode cX10_beginSweep 21 = .ok (.invokevirtual 103, 3) := by decide +kernel
theorem dX10_beginSweep_24 : decode cX10_beginSweep 24 = .ok (.ifCond .eq 27, 3) := by decide +kernel
theorem dX10_beginSweep_27 : decode cX10_beginSweep 27 = .ok (.aload_n 0, 1) := by decide +kernel
theorem dX10_beginSweep_28 : decode cX10_beginSweep 28 = .ok (.getfield 9, 3) := by decide +kernel
theorem dX10_beginSweep_31 : decode cX10_beginSweep 31 = .ok (.getfield 109, 3) := by decide +kernel
theorem dX10_beginSweep_34 : decode cX10_beginSweep 34 = .ok (.iload_n 1, 1) := by decide +kernel
theorem dX10_beginSweep_35 : decode cX10_beginSweep 35 = .ok (.bipush (-15), 2) := by decide +kernel
theorem dX10_beginSweep_37 : decode cX10_beginSweep 37 = .ok (.iastore, 1) := by decide +kernel
theorem dX10_beginSweep_38 : decode cX10_beginSweep 38 = .ok (.aload_n 0, 1) := by decide +kernel
theorem dX10_beginSweep_39 : decode cX10_beginSweep 39 = .ok (.getfield 9, 3) := by decide +kernel
theorem dX10_beginSweep_42 : decode cX10_beginSweep 42 = .ok (.dup, 1) := by decide +kernel
theorem dX10_beginSweep_43 : decode cX10_beginSweep 43 = .ok (.getfield 112, 3) := by decide +kernel
theorem dX10_beginSweep_46 : decode cX10_beginSweep 46 = .ok (.iconst 1, 1) := by decide +kernel
theorem dX10_beginSweep_47 : decode cX10_beginSweep 47 = .ok (.iadd, 1) := by decide +kernel
theorem dX10_beginSweep_48 : decode cX10_beginSweep 48 = .ok (.putfield 112, 3) := by decide +kernel
theorem dX10_beginSweep_51 : decode cX10_beginSweep 51 = .ok (.iinc 1 1, 3) := by decide +kernel
theorem dX10_beginSweep_54 : decode cX10_beginSweep 54 = .ok (.goto (-52), 3) := by decide +kernel
theorem dX10_beginSweep_57 : decode cX10_beginSweep 57 = .ok (.aload_n 0, 1) := by decide +kernel
theorem dX10_beginSweep_58 : decode cX10_beginSweep 58 = .ok (.getfield 9, 3) := by decide +kernel
theorem dX10_beginSweep_61 : decode cX10_beginSweep 61 = .ok (.iconst 2, 1) := by decide +kernel
theorem dX10_beginSweep_62 : decode cX10_beginSweep 62 = .ok (.putfield 19, 3) := by decide +kernel
theorem dX10_beginSweep_65 : decode cX10_beginSweep 65 = .ok (.aload_n 0, 1) := by decide +kernel
theorem dX10_beginSweep_66 : decode cX10_beginSweep 66 = .ok (.getfield 9, 3) := by decide +kernel
theorem dX10_beginSweep_69 : decode cX10_beginSweep 69 = .ok (.iconst 0, 1) := by decide +kernel
theorem dX10_beginSweep_70 : decode cX10_beginSweep 70 = .ok (.putfield 115, 3) := by decide +kernel
theorem dX10_beginSweep_73 : decode cX10_beginSweep 73 = .ok (.return_, 1) := by decide +kernel
theorem dX10_blackenFirst_0 : decode cX10_blackenFirst 0 = .ok (.aload_n 0, 1) := by decide +kernel
theorem dX10_blackenFirst_1 : decode cX10_blackenFirst 1 = .ok (.getfield 9, 3) := by decide +kernel
theorem dX10_blackenFirst_4 : decode cX10_blackenFirst 4 = .ok (.getfield 34, 3) := by decide +kernel
theorem dX10_blackenFirst_7 : decode cX10_blackenFirst 7 = .ok (.invokevirtual 56, 3) := by decide +kernel
theorem dX10_blackenFirst_10 : decode cX10_blackenFirst 10 = .ok (.istore_n 1, 1) := by decide +kernel
theorem dX10_blackenFirst_11 : decode cX10_blackenFirst 11 = .ok (.iload_n 1, 1) := by decide +kernel
theorem dX10_blackenFirst_12 : decode cX10_blackenFirst 12 = .ok (.invokestatic 60, 3) := by decide +kernel
theorem dX10_blackenFirst_15 : decode cX10_blackenFirst 15 = .ok (.ifCond .ne 4, 3) := by decide +kernel
theorem dX10_blackenFirst_18 : decode cX10_blackenFirst 18 = .ok (.return_, 1) := by decide +kernel
theorem dX10_blackenFirst_19 : decode cX10_blackenFirst 19 = .ok (.aload_n 0, 1) := by decide +kernel
theorem dX10_blackenFirst_20 : decode cX10_blackenFirst 20 = .ok (.getfield 9, 3) := by decide +kernel
theorem dX10_blackenFirst_23 : decode cX10_blackenFirst 23 = .ok (.getfield 97, 3) := by decide +kernel
theorem dX10_blackenFirst_26 : decode cX10_blackenFirst 26 = .ok (.iload_n 1, 1) := by decide +kernel
theorem dX10_blackenFirst_27 : decode cX10_blackenFirst 27 = .ok (.iconst 2, 1) := by decide +kernel
theorem dX10_blackenFirst_28 : decode cX10_blackenFirst 28 = .ok (.iastore, 1) := by decide +kernel
theorem dX10_blackenFirst_29 : decode cX10_blackenFirst 29 = .ok (.iconst 0, 1) := by decide +kernel
theorem dX10_blackenFirst_30 : decode cX10_blackenFirst 30 = .ok (.istore_n 2, 1) := by decide +kernel
theorem dX10_blackenFirst_31 : decode cX10_blackenFirst 31 = .ok (.iload_n 2, 1) := by decide +kernel
theorem dX10_blackenFirst_32 : decode cX10_blackenFirst 32 = .ok (.iconst 4, 1) := by decide +kernel
theorem dX10_blackenFirst_33 : decode cX10_blackenFirst 33 = .ok (.if_icmp .ge 25, 3) := by decide +kernel
theorem dX10_blackenFirst_36 : decode cX10_blackenFirst 36 = .ok (.aload_n 0, 1) := by decide +kernel
theorem dX10_blackenFirst_37 : decode cX10_blackenFirst 37 = .ok (.getfield 9, 3) := by decide +kernel
theorem dX10_blackenFirst_40 : decode cX10_blackenFirst 40 = .ok (.aload_n 0, 1) := by decide +kernel
theorem dX10_blackenFirst_41 : decode cX10_blackenFirst 41 = .ok (.getfield 9, 3) := by decide +kernel
theorem dX10_blackenFirst_44 : decode cX10_blackenFirst 44 = .ok (.iload_n 1, 1) := by decide +kernel
theorem dX10_blackenFirst_45 : decode cX10_blackenFirst 45 = .ok (.iload_n 2, 1) := by decide +kernel
theorem dX10_blackenFirst_46 : decode cX10_blackenFirst 46 = .ok (.invokevirtual 100, 3) := by decide +kernel
theorem dX10_blackenFirst_49 : decode cX10_blackenFirst 49 = .ok (.invokevirtual 74, 3) := by decide +kernel
theorem dX10_blackenFirst_52 : decode cX10_blackenFirst 52 = .ok (.iinc 2 1, 3) := by decide +kernel
theorem dX10_blackenFirst_55 : decode cX10_blackenFirst 55 = .ok (.goto (-24), 3) := by decide +kernel
theorem dX10_blackenFirst_58 : decode cX10_blackenFirst 58 = .ok (.return_, 1) := by decide +kernel
theorem dX10_sweepNext_0 : decode cX10_sweepNext 0 = .ok (.aload_n 0, 1) := by decide +kernel
theorem dX10_sweepNext_1 : decode cX10_sweepNext 1 = .ok (.getfield 9, 3) := by decide +kernel
theorem dX10_sweepNext_4 : decode cX10_sweepNext 4 = .ok (.getfield 115, 3) := by decide +kernel
theorem dX10_sweepNext_7 : decode cX10_sweepNext 7 = .ok (.istore_n 1, 1) := by decide +kernel
theorem dX10_sweepNext_8 : decode cX10_sweepNext 8 = .ok (.aload_n 0, 1) := by decide +kernel
theorem dX10_sweepNext_9 : decode cX10_sweepNext 9 = .ok (.getfield 9, 3) := by decide +kernel
theorem dX10_sweepNext_12 : decode cX10_sweepNext 12 = .ok (.iload_n 1, 1) := by decide +kernel
theorem dX10_sweepNext_13 : decode cX10_sweepNext 13 = .ok (.invokevirtual 103, 3) := by decide +kernel
theorem dX10_sweepNext_16 : decode cX10_sweepNext 16 = .ok (.ifCond .eq 14, 3) := by decide +kernel
theorem dX10_sweepNext_19 : decode cX10_sweepNext 19 = .ok (.aload_n 0, 1) := by decide +kernel
theorem dX10_sweepNext_20 : decode cX10_sweepNext 20 = .ok (.getfield 9, 3) := by decide +kernel
theorem dX10_sweepNext_23 : decode cX10_sweepNext 23 = .ok (.iload_n 1, 1) := by decide +kernel
theorem dX10_sweepNext_24 : decode cX10_sweepNext 24 = .ok (.invokevirtual 118, 3) := by decide +kernel
theorem dX10_sweepNext_27 : decode cX10_sweepNext 27 = .ok (.goto 24, 3) := by decide +kernel
theorem dX10_sweepNext_30 : decode cX10_sweepNext 30 = .ok (.aload_n 0, 1) := by decide +kernel
theorem dX10_sweepNext_31 : decode cX10_sweepNext 31 = .ok (.getfield 9, 3) := by decide +kernel
theorem dX10_sweepNext_34 : decode cX10_sweepNext 34 = .ok (.iload_n 1, 1) := by decide +kernel
theorem dX10_sweepNext_35 : decode cX10_sweepNext 35 = .ok (.invokevirtual 121, 3) := by decide +kernel
theorem dX10_sweepNext_38 : decode cX10_sweepNext 38 = .ok (.ifCond .eq 13, 3) := by decide +kernel
theorem dX10_sweepNext_41 : decode cX10_sweepNext 41 = .ok (.aload_n 0, 1) := by decide +kernel
theorem dX10_sweepNext_42 : decode cX10_sweepNext 42 = .ok (.getfield 9, 3) := by decide +kernel
theorem dX10_sweepNext_45 : decode cX10_sweepNext 45 = .ok (.getfield 97, 3) := by decide +kernel
theorem dX10_sweepNext_48 : decode cX10_sweepNext 48 = .ok (.iload_n 1, 1) := by decide +kernel
theorem dX10_sweepNext_49 : decode cX10_sweepNext 49 = .ok (.iconst 0, 1) := by decide +kernel
theorem dX10_sweepNext_50 : decode cX10_sweepNext 50 = .ok (.iastore, 1) := by decide +kernel
theorem dX10_sweepNext_51 : decode cX10_sweepNext 51 = .ok (.aload_n 0, 1) := by decide +kernel
theorem dX10_sweepNext_52 : decode cX10_sweepNext 52 = .ok (.getfield 9, 3) := by decide +kernel
theorem dX10_sweepNext_55 : decode cX10_sweepNext 55 = .ok (.iload_n 1, 1) := by decide +kernel
theorem dX10_sweepNext_56 : decode cX10_sweepNext 56 = .ok (.iconst 1, 1) := by decide +kernel
theorem dX10_sweepNext_57 : decode cX10_sweepNext 57 = .ok (.iadd, 1) := by decide +kernel
theorem dX10_sweepNext_58 : decode cX10_sweepNext 58 = .ok (.putfield 115, 3) := by decide +kernel
theorem dX10_sweepNext_61 : decode cX10_sweepNext 61 = .ok (.aload_n 0, 1) := by decide +kernel
theorem dX10_sweepNext_62 : decode cX10_sweepNext 62 = .ok (.getfield 9, 3) := by decide +kernel
theorem dX10_sweepNext_65 : decode cX10_sweepNext 65 = .ok (.getfield 115, 3) := by decide +kernel
theorem dX10_sweepNext_68 : decode cX10_sweepNext 68 = .ok (.bipush 24, 2) := by decide +kernel
theorem dX10_sweepNext_70 : decode cX10_sweepNext 70 = .ok (.if_icmp .lt 32, 3) := by decide +kernel
theorem dX10_sweepNext_73 : decode cX10_sweepNext 73 = .ok (.aload_n 0, 1) := by decide +kernel
theorem dX10_sweepNext_74 : decode cX10_sweepNext 74 = .ok (.getfield 9, 3) := by decide +kernel
theorem dX10_sweepNext_77 : decode cX10_sweepNext 77 = .ok (.iconst 0, 1) := by decide +kernel
theorem dX10_sweepNext_78 : decode cX10_sweepNext 78 = .ok (.putfield 115, 3) := by decide +kernel
theorem dX10_sweepNext_81 : decode cX10_sweepNext 81 = .ok (.aload_n 0, 1) := by decide +kernel
theorem dX10_sweepNext_82 : decode cX10_sweepNext 82 = .ok (.getfield 9, 3) := by decide +kernel
theorem dX10_sweepNext_85 : decode cX10_sweepNext 85 = .ok (.iconst 0, 1) := by decide +kernel
theorem dX10_sweepNext_86 : decode cX10_sweepNext 86 = .ok (.putfield 19, 3) := by decide +kernel
theorem dX10_sweepNext_89 : decode cX10_sweepNext 89 = .ok (.aload_n 0, 1) := by decide +kernel
theorem dX10_sweepNext_90 : decode cX10_sweepNext 90 = .ok (.getfield 9, 3) := by decide +kernel
theorem dX10_sweepNext_93 : decode cX10_sweepNext 93 = .ok (.dup, 1) := by decide +kernel
theorem dX10_sweepNext_94 : decode cX10_sweepNext 94 = .ok (.getfield 43, 3) := by decide +kernel
theorem dX10_sweepNext_97 : decode cX10_sweepNext 97 = .ok (.iconst 1, 1) := by decide +kernel
theorem dX10_sweepNext_98 : decode cX10_sweepNext 98 = .ok (.iadd, 1) := by decide +kernel
theorem dX10_sweepNext_99 : decode cX10_sweepNext 99 = .ok (.putfield 43, 3) := by decide +kernel
theorem dX10_sweepNext_102 : decode cX10_sweepNext 102 = .ok (.return_, 1) := by decide +kernel
theorem dX10_doPartsUntilOver_0 : decode cX10_doPartsUntilOver 0 = .ok (.iconst 0, 1) := by decide +kernel
theorem dX10_doPartsUntilOver_1 : decode cX10_doPartsUntilOver 1 = .ok (.istore_n 2, 1) := by decide +kernel
theorem dX10_doPartsUntilOver_2 : decode cX10_doPartsUntilOver 2 = .ok (.iload_n 2, 1) := by decide +kernel
theorem dX10_doPartsUntilOver_3 : decode cX10_doPartsUntilOver 3 = .ok (.iload_n 1, 1) := by decide +kernel
theorem dX10_doPartsUntilOver_4 : decode cX10_doPartsUntilOver 4 = .ok (.if_icmp .ge 81, 3) := by decide +kernel
theorem dX10_doPartsUntilOver_7 : decode cX10_doPartsUntilOver 7 = .ok (.aload_n 0, 1) := by decide +kernel
theorem dX10_doPartsUntilOver_8 : decode cX10_doPartsUntilOver 8 = .ok (.getfield 9, 3) := by decide +kernel
theorem dX10_doPartsUntilOver_11 : decode cX10_doPartsUntilOver 11 = .ok (.getfield 19, 3) := by decide +kernel
theorem dX10_doPartsUntilOver_14 : decode cX10_doPartsUntilOver 14 = .ok (.ifCond .eq 71, 3) := by decide +kernel
theorem dX10_doPartsUntilOver_17 : decode cX10_doPartsUntilOver 17 = .ok (.aload_n 0, 1) := by decide +kernel
theorem dX10_doPartsUntilOver_18 : decode cX10_doPartsUntilOver 18 = .ok (.getfield 9, 3) := by decide +kernel
theorem dX10_doPartsUntilOver_21 : decode cX10_doPartsUntilOver 21 = .ok (.getfield 19, 3) := by decide +kernel
theorem dX10_doPartsUntilOver_24 : decode cX10_doPartsUntilOver 24 = .ok (.iconst 2, 1) := by decide +kernel
theorem dX10_doPartsUntilOver_25 : decode cX10_doPartsUntilOver 25 = .ok (.if_icmp .ne 10, 3) := by decide +kernel
theorem dX10_doPartsUntilOver_28 : decode cX10_doPartsUntilOver 28 = .ok (.aload_n 0, 1) := by decide +kernel
theorem dX10_doPartsUntilOver_29 : decode cX10_doPartsUntilOver 29 = .ok (.invokevirtual 81, 3) := by decide +kernel
theorem dX10_doPartsUntilOver_32 : decode cX10_doPartsUntilOver 32 = .ok (.goto 34, 3) := by decide +kernel
theorem dX10_doPartsUntilOver_35 : decode cX10_doPartsUntilOver 35 = .ok (.aload_n 0, 1) := by decide +kernel
theorem dX10_doPartsUntilOver_36 : decode cX10_doPartsUntilOver 36 = .ok (.getfield 9, 3) := by decide +kernel
theorem dX10_doPartsUntilOver_39 : decode cX10_doPartsUntilOver 39 = .ok (.getfield 34, 3) := by decide +kernel
theorem dX10_doPartsUntilOver_42 : decode cX10_doPartsUntilOver 42 = .ok (.getfield 38, 3) := by decide +kernel
theorem dX10_doPartsUntilOver_45 : decode cX10_doPartsUntilOver 45 = .ok (.ifCond .le 10, 3) := by decide +kernel
theorem dX10_doPartsUntilOver_48 : decode cX10_doPartsUntilOver 48 = .ok (.aload_n 0, 1) := by decide +kernel
theorem dX10_doPartsUntilOver_49 : decode cX10_doPartsUntilOver 49 = .ok (.invokevirtual 84, 3) := by decide +kernel
theorem dX10_doPartsUntilOver_52 : decode cX10_doPartsUntilOver 52 = .ok (.goto 14, 3) := by decide +kernel
theorem dX10_doPartsUntilOver_55 : decode cX10_doPartsUntilOver 55 = .ok (.aload_n 0, 1) := by decide +kernel
theorem dX10_doPartsUntilOver_56 : decode cX10_doPartsUntilOver 56 = .ok (.invokevirtual 87, 3) := by decide +kernel
theorem dX10_doPartsUntilOver_59 : decode cX10_doPartsUntilOver 59 = .ok (.ifCond .ne 7, 3) := by decide +kernel
theorem dX10_doPartsUntilOver_62 : decode cX10_doPartsUntilOver 62 = .ok (.aload_n 0, 1) := by decide +kernel
theorem dX10_doPartsUntilOver_63 : decode cX10_doPartsUntilOver 63 = .ok (.invokevirtual 91, 3) := by decide +kernel
theorem dX10_doPartsUntilOver_66 : decode cX10_doPartsUntilOver 66 = .ok (.aload_n 0, 1) := by decide +kernel
theorem dX10_doPartsUntilOver_67 : decode cX10_doPartsUntilOver 67 = .ok (.getfield 9, 3) := by decide +kernel
theorem dX10_doPartsUntilOver_70 : decode cX10_doPartsUntilOver 70 = .ok (.dup, 1) := by decide +kernel
theorem dX10_doPartsUntilOver_71 : decode cX10_doPartsUntilOver 71 = .ok (.getfield 94, 3) := by decide +kernel
theorem dX10_doPartsUntilOver_74 : decode cX10_doPartsUntilOver 74 = .ok (.iconst 1, 1) := by decide +kernel
theorem dX10_doPartsUntilOver_75 : decode cX10_doPartsUntilOver 75 = .ok (.iadd, 1) := by decide +kernel
theorem dX10_doPartsUntilOver_76 : decode cX10_doPartsUntilOver 76 = .ok (.putfield 94, 3) := by decide +kernel
theorem dX10_doPartsUntilOver_79 : decode cX10_doPartsUntilOver 79 = .ok (.iinc 2 1, 3) := by decide +kernel
theorem dX10_doPartsUntilOver_82 : decode cX10_doPartsUntilOver 82 = .ok (.goto (-80), 3) := by decide +kernel
theorem dX10_doPartsUntilOver_85 : decode cX10_doPartsUntilOver 85 = .ok (.iload_n 2, 1) := by decide +kernel
theorem dX10_doPartsUntilOver_86 : decode cX10_doPartsUntilOver 86 = .ok (.ireturn, 1) := by decide +kernel
theorem dX10_doParts_0 : decode cX10_doParts 0 = .ok (.iload_n 1, 1) := by decide +kernel
theorem dX10_doParts_1 : decode cX10_doParts 1 = .ok (.iconst 1, 1) := by decide +kernel
theorem dX10_doParts_2 : decode cX10_doParts 2 = .ok (.if_icmp .lt 9, 3) := by decide +kernel
theorem dX10_doParts_5 : decode cX10_doParts 5 = .ok (.iload_n 1, 1) := by decide +kernel
theorem dX10_doParts_6 : decode cX10_doParts 6 = .ok (.bipush 99, 2) := by decide +kernel
theorem dX10_doParts_8 : decode cX10_doParts 8 = .ok (.if_icmp .le 6, 3) := by decide +kernel
theorem dX10_doParts_11 : decode cX10_doParts 11 = .ok (.bipush (-12), 2) := by decide +kernel
theorem dX10_doParts_13 : decode cX10_doParts 13 = .ok (.ireturn, 1) := by decide +kernel
theorem dX10_doParts_14 : decode cX10_doParts 14 = .ok (.aload_n 0, 1) := by decide +kernel
theorem dX10_doParts_15 : decode cX10_doParts 15 = .ok (.getfield 9, 3) := by decide +kernel
theorem dX10_doParts_18 : decode cX10_doParts 18 = .ok (.getfield 19, 3) := by decide +kernel
theorem dX10_doParts_21 : decode cX10_doParts 21 = .ok (.ifCond .ne 19, 3) := by decide +kernel
theorem dX10_doParts_24 : decode cX10_doParts 24 = .ok (.aload_n 0, 1) := by decide +kernel
theorem dX10_doParts_25 : decode cX10_doParts 25 = .ok (.getfield 15, 3) := by decide +kernel
theorem dX10_doParts_28 : decode cX10_doParts 28 = .ok (.iconst 5, 1) := by decide +kernel
theorem dX10_doParts_29 : decode cX10_doParts 29 = .ok (.aload_n 0, 1) := by decide +kernel
theorem dX10_doParts_30 : decode cX10_doParts 30 = .ok (.getfield 9, 3) := by decide +kernel
theorem dX10_doParts_33 : decode cX10_doParts 33 = .ok (.getfield 43, 3) := by decide +kernel
theorem dX10_doParts_36 : decode cX10_doParts 36 = .ok (.invokevirtual 25, 3) := by decide +kernel
theorem dX10_doParts_39 : decode cX10_doParts 39 = .ok (.ireturn, 1) := by decide +kernel
theorem dX10_doParts_40 : decode cX10_doParts 40 = .ok (.aload_n 0, 1) := by decide +kernel
theorem dX10_doParts_41 : decode cX10_doParts 41 = .ok (.iload_n 1, 1) := by decide +kernel
theorem dX10_doParts_42 : decode cX10_doParts 42 = .ok (.invokevirtual 46, 3) := by decide +kernel
theorem dX10_doParts_45 : decode cX10_doParts 45 = .ok (.ireturn, 1) := by decide +kernel
theorem dX10_endRound_0 : decode cX10_endRound 0 = .ok (.aload_n 0, 1) := by decide +kernel
theorem dX10_endRound_1 : decode cX10_endRound 1 = .ok (.getfield 9, 3) := by decide +kernel
theorem dX10_endRound_4 : decode cX10_endRound 4 = .ok (.getfield 19, 3) := by decide +kernel
theorem dX10_endRound_7 : decode cX10_endRound 7 = .ok (.ifCond .ne 7, 3) := by decide +kernel
theorem dX10_endRound_10 : decode cX10_endRound 10 = .ok (.aload_n 0, 1) := by decide +kernel
theorem dX10_endRound_11 : decode cX10_endRound 11 = .ok (.invokevirtual 31, 3) := by decide +kernel
theorem dX10_endRound_14 : decode cX10_endRound 14 = .ok (.aload_n 0, 1) := by decide +kernel
theorem dX10_endRound_15 : decode cX10_endRound 15 = .ok (.getfield 9, 3) := by decide +kernel
theorem dX10_endRound_18 : decode cX10_endRound 18 = .ok (.getfield 50, 3) := by decide +kernel
theorem dX10_endRound_21 : decode cX10_endRound 21 = .ok (.istore_n 1, 1) := by decide +kernel
theorem dX10_endRound_22 : decode cX10_endRound 22 = .ok (.aload_n 0, 1) := by decide +kernel
theorem dX10_endRound_23 : decode cX10_endRound 23 = .ok (.bipush 99, 2) := by decide +kernel
theorem dX10_endRound_25 : decode cX10_endRound 25 = .ok (.invokevirtual 46, 3) := by decide +kernel
theorem dX10_endRound_28 : decode cX10_endRound 28 = .ok (.pop, 1) := by decide +kernel
theorem dX10_endRound_29 : decode cX10_endRound 29 = .ok (.aload_n 0, 1) := by decide +kernel
theorem dX10_endRound_30 : decode cX10_endRound 30 = .ok (.getfield 9, 3) := by decide +kernel
theorem dX10_endRound_33 : decode cX10_endRound 33 = .ok (.getfield 50, 3) := by decide +kernel
theorem dX10_endRound_36 : decode cX10_endRound 36 = .ok (.iload_n 1, 1) := by decide +kernel
theorem dX10_endRound_37 : decode cX10_endRound 37 = .ok (.isub, 1) := by decide +kernel
theorem dX10_endRound_38 : decode cX10_endRound 38 = .ok (.ireturn, 1) := by decide +kernel
theorem dX10_doRite_0 : decode cX10_doRite 0 = .ok (.aload_n 0, 1) := by decide +kernel
theorem dX10_doRite_1 : decode cX10_doRite 1 = .ok (.getfield 9, 3) := by decide +kernel
theorem dX10_doRite_4 : decode cX10_doRite 4 = .ok (.getfield 53, 3) := by decide +kernel
theorem dX10_doRite_7 : decode cX10_doRite 7 = .ok (.invokevirtual 56, 3) := by decide +kernel
theorem dX10_doRite_10 : decode cX10_doRite 10 = .ok (.istore_n 1, 1) := by decide +kernel
theorem dX10_doRite_11 : decode cX10_doRite 11 = .ok (.iload_n 1, 1) := by decide +kernel
theorem dX10_doRite_12 : decode cX10_doRite 12 = .ok (.invokestatic 60, 3) := by decide +kernel
theorem dX10_doRite_15 : decode cX10_doRite 15 = .ok (.ifCond .ne 20, 3) := by decide +kernel
theorem dX10_doRite_18 : decode cX10_doRite 18 = .ok (.aload_n 0, 1) := by decide +kernel
theorem dX10_doRite_19 : decode cX10_doRite 19 = .ok (.getfield 15, 3) := by decide +kernel
theorem dX10_doRite_22 : decode cX10_doRite 22 = .ok (.bipush 6, 2) := by decide +kernel
theorem dX10_doRite_24 : decode cX10_doRite 24 = .ok (.aload_n 0, 1) := by decide +kernel
theorem dX10_doRite_25 : decode cX10_doRite 25 = .ok (.getfield 9, 3) := by decide +kernel
theorem dX10_doRite_28 : decode cX10_doRite 28 = .ok (.getfield 64, 3) := by decide +kernel
theorem dX10_doRite_31 : decode cX10_doRite 31 = .ok (.invokevirtual 25, 3) := by decide +kernel
theorem dX10_doRite_34 : decode cX10_doRite 34 = .ok (.ireturn, 1) := by decide +kernel
theorem dX10_doRite_35 : decode cX10_doRite 35 = .ok (.aload_n 0, 1) := by decide +kernel
theorem dX10_doRite_36 : decode cX10_doRite 36 = .ok (.getfield 9, 3) := by decide +kernel
theorem dX10_doRite_39 : decode cX10_doRite 39 = .ok (.getfield 67, 3) := by decide +kernel
theorem dX10_doRite_42 : decode cX10_doRite 42 = .ok (.iload_n 1, 1) := by decide +kernel
theorem dX10_doRite_43 : decode cX10_doRite 43 = .ok (.iconst 0, 1) := by decide +kernel
theorem dX10_doRite_44 : decode cX10_doRite 44 = .ok (.iastore, 1) := by decide +kernel
theorem dX10_doRite_45 : decode cX10_doRite 45 = .ok (.aload_n 0, 1) := by decide +kernel
theorem dX10_doRite_46 : decode cX10_doRite 46 = .ok (.getfield 9, 3) := by decide +kernel
theorem dX10_doRite_49 : decode cX10_doRite 49 = .ok (.dup, 1) := by decide +kernel
theorem dX10_doRite_50 : decode cX10_doRite 50 = .ok (.getfield 64, 3) := by decide +kernel
theorem dX10_doRite_53 : decode cX10_doRite 53 = .ok (.iconst 1, 1) := by decide +kernel
theorem dX10_doRite_54 : decode cX10_doRite 54 = .ok (.iadd, 1) := by decide +kernel
theorem dX10_doRite_55 : decode cX10_doRite 55 = .ok (.putfield 64, 3) := by decide +kernel
theorem dX10_doRite_58 : decode cX10_doRite 58 = .ok (.iload_n 1, 1) := by decide +kernel
theorem dX10_doRite_59 : decode cX10_doRite 59 = .ok (.ireturn, 1) := by decide +kernel
theorem dX11_urn_0 : decode cX11_urn 0 = .ok (.aload_n 0, 1) := by decide +kernel
theorem dX11_urn_1 : decode cX11_urn 1 = .ok (.getfield 51, 3) := by decide +kernel
theorem dX11_urn_4 : decode cX11_urn 4 = .ok (.invokevirtual 69, 3) := by decide +kernel
theorem dX11_urn_7 : decode cX11_urn 7 = .ok (.aload_n 0, 1) := by decide +kernel
theorem dX11_urn_8 : decode cX11_urn 8 = .ok (.getfield 51, 3) := by decide +kernel
theorem dX11_urn_11 : decode cX11_urn 11 = .ok (.aload_n 0, 1) := by decide +kernel
theorem dX11_urn_12 : decode cX11_urn 12 = .ok (.getfield 28, 3) := by decide +kernel
theorem dX11_urn_15 : decode cX11_urn 15 = .ok (.iload_n 1, 1) := by decide +kernel
theorem dX11_urn_16 : decode cX11_urn 16 = .ok (.invokevirtual 72, 3) := by decide +kernel
theorem dX11_urn_19 : decode cX11_urn 19 = .ok (.invokevirtual 76, 3) := by decide +kernel
theorem dX11_urn_22 : decode cX11_urn 22 = .ok (.ireturn, 1) := by decide +kernel
def f_X7_heavierThan_L14 (a1 : Int) (μ : mu_T) : Nat → Int → Int → Option Int
  | 0, _, _ => none
  | fu14 + 1, x2_14, x5_14 => lt_ x5_14 24
      (rd_ μ 137 24 x5_14 (fun v24 => jn_ (φ := Int → Option Int) (fun x2_36 => nm_ (x5_14 + 1) (fun n36 => (f_X7_heavierThan_L14 a1 μ fu14) x2_36 n36))
      (fun J36 => lt_ a1 v24
      (nm_ (x2_14 + 1) (fun n33 => J36 n33))
      (J36 x2_14))))
      (some x2_14)
def f_X7_heavierThan (μ : mu_T) (a1 : Int) : Option Int :=
  f_X7_heavierThan_L14 a1 μ 20000 0 0
set_option maxHeartbeats 4000000 in
set_option maxRecDepth 100000 in
theorem c_X7_heavierThan {G : gp_} {ad : Nat → Nat} (μ : mu_T) (a1 : Int) (a : Int) (h : f_X7_heavierThan μ a1 = some a) : mi_ yX7_heavierThan cX7_heavierThan 7 (some .int) ({ frames := 0, cells := 0, slots := 0, locals := 0 } : Room) G 151 ad (ceX G ad) [.ref (ad 136), .int (iI a1)] μ a μ := by
  refine mi_in (own := "UrnHeap$Paths") (lv := [(0, .ref (ad 136)), (1, .int (iI a1))]) (by decide) rfl rfl (Nat.le_of_ble_eq_true rfl) (fun X C E => ?_)
  unfold f_X7_heavierThan at h
  refine xx_iconst C 1 rfl dX7_heavierThan_0 ?_
  refine xx_istore_n (lv1 := [(2, .int (iI 0)), (0, .ref (ad 136)), (1, .int (iI a1))]) C 2 rfl (by decide) dX7_heavierThan_1 rfl rfl ?_
  refine xx_aload_n C 3 rfl 1 dX7_heavierThan_2 rfl rfl ?_
  refine xx_getr (fi := 1) C 6 rfl (by decide) (ceX_136 _ _ _) rfl in_X7 (by decide) rfl w_222 dX7_heavierThan_3 ?_
  refine xx_astore_n (lv1 := [(3, .ref (ad 137)), (2, .int (iI 0)), (0, .ref (ad 136)), (1, .int (iI a1))]) C 7 rfl (by decide) dX7_heavierThan_6 rfl rfl ?_
  refine xx_aload_n C 8 rfl 0 dX7_heavierThan_7 rfl rfl ?_
  refine xx_alen (nA := 24) C 9 rfl (by decide) (fun row => ceX_137 _ _ row) dX7_heavierThan_8 ?_
  refine xx_istore (lv1 := [(4, .int (iI 24)), (3, .ref (ad 137)), (2, .int (iI 0)), (0, .ref (ad 136)), (1, .int (iI a1))]) C 11 rfl (by decide) dX7_heavierThan_9 rfl ?_
  refine xx_iconst C 12 rfl dX7_heavierThan_11 ?_
  refine xx_istore (lv1 := [(5, .int (iI 0)), (4, .int (iI 24)), (3, .ref (ad 137)), (2, .int (iI 0)), (0, .ref (ad 136)), (1, .int (iI a1))]) C 14 rfl (by decide) dX7_heavierThan_12 rfl ?_
  have L14 : ∀ (fu14 : Nat) (x2_14 : Int) (x5_14 : Int), f_X7_heavierThan_L14 a1 μ fu14 x2_14 x5_14 = some a → wx_ G X 151 ad (ceX G ad) μ 0 0 14 [(1, .int (iI a1)), (2, .int (iI x2_14)), (3, .ref (ad 137)), (4, .int (iI 24)), (5, .int (iI x5_14))] [] := by
    intro fu14
    induction fu14 with
    | zero => intro x2_14 x5_14 h; exact nn_ h
    | succ fu14 K14 =>
      intro x2_14 x5_14 h
      rw [f_X7_heavierThan_L14] at h
      generalize f_X7_heavierThan_L14 a1 μ fu14 = R14 at K14 h
      refine xx_iload C 16 rfl 4 dX7_heavierThan_14 rfl ?_
      refine xx_iload C 18 rfl 3 dX7_heavierThan_16 rfl ?_
      refine xx_icmp_ge (tgt := 42) C 21 rfl dX7_heavierThan_18 (by decide) h (fun h => ?_) (fun h => ?_)
      · refine xx_iload_n C 43 rfl 1 dX7_heavierThan_42 rfl rfl ?_
        exact xx_iretp C E rfl ⟨Nat.le_of_ble_eq_true rfl, Nat.le_of_ble_eq_true rfl⟩ dX7_heavierThan_43 h
      · refine xx_aload_n C 22 rfl 2 dX7_heavierThan_21 rfl rfl ?_
        refine xx_iload C 24 rfl 4 dX7_heavierThan_22 rfl ?_
        refine xx_iaload C 25 rfl (by decide) (fun row => ceX_137 _ _ row) (by decide) dX7_heavierThan_24 h (fun v24 h => ?_)
        refine xx_istore (lv1 := [(6, .int (iI v24)), (1, .int (iI a1)), (2, .int (iI x2_14)), (3, .ref (ad 137)), (4, .int (iI 24)), (5, .int (iI x5_14))]) C 27 rfl (by decide) dX7_heavierThan_25 rfl ?_
        refine xx_iload C 29 rfl 0 dX7_heavierThan_27 rfl ?_
        refine xx_iload_n C 30 rfl 1 dX7_heavierThan_29 rfl rfl ?_
        refine jn_r (fun J => ∀ (x2_36 : Int), J x2_36 = some a → wx_ G X 151 ad (ceX G ad) μ 0 0 36 [(1, .int (iI a1)), (2, .int (iI x2_36)), (3, .ref (ad 137)), (4, .int (iI 24)), (5, .int (iI x5_14))] []) h (fun x2_36 h => ?_) (fun J36 K36 h => ?_)
        · refine xx_iincn C 39 rfl 4 (by decide) dX7_heavierThan_36 rfl h (fun n36 h => ?_)
          refine xx_lv (lv1 := [(5, .int (iI n36)), (1, .int (iI a1)), (2, .int (iI x2_36)), (3, .ref (ad 137)), (4, .int (iI 24))]) rfl ?_
          refine xx_goto C 14 dX7_heavierThan_39 (by decide) ?_
          refine xx_sub [1, 2, 3, 4, 0] rfl ?_
          exact K14 x2_36 n36 h
        · refine xx_icmp_le (tgt := 36) C 33 rfl dX7_heavierThan_30 (by decide) h (fun h => ?_) (fun h => ?_)
          · refine xx_sub [1, 2, 3, 4, 5] rfl ?_
            exact K36 x2_14 h
          · refine xx_iincn C 36 rfl 2 (by decide) dX7_heavierThan_33 rfl h (fun n33 h => ?_)
            refine xx_lv (lv1 := [(2, .int (iI n33)), (6, .int (iI v24)), (1, .int (iI a1)), (3, .ref (ad 137)), (4, .int (iI 24)), (5, .int (iI x5_14))]) rfl ?_
            refine xx_sub [2, 0, 3, 4, 5] rfl ?_
            exact K36 n33 h
  refine xx_sub [5, 3, 2, 1, 0] rfl ?_
  exact L14 _ _ _ h

def f_X7_urnAtRank_L6 (a1 : Int) (μ1 : mu_T) : Nat → Int → Option (Int × mu_T)
  | 0, _ => none
  | fu6 + 1, x2_6 => lt_ x2_6 24
      (bd_ (f_X2_hasUrn μ1 x2_6) (fun v17 => jn_ (φ := Unit → Option (Int × mu_T)) (fun _ => nm_ (x2_6 + 1) (fun n39 => (f_X7_urnAtRank_L6 a1 μ1 fu6) n39))
      (fun J39 => eq_ v17 0
      (J39 ())
      (rd_ μ1 137 24 x2_6 (fun v29 => bd_ (f_X7_heavierThan μ1 v29) (fun v30 => eq_ v30 a1
      (some (x2_6, μ1))
      (J39 ())))))))
      (some ((-11), μ1))
def f_X7_urnAtRank (μ : mu_T) (a1 : Int) : Option (Int × mu_T) :=
  bd_ (f_X7_weighAll μ) (fun μ1 => f_X7_urnAtRank_L6 a1 μ1 20000 0)
set_option maxHeartbeats 4000000 in
set_option maxRecDepth 100000 in
theorem c_X7_urnAtRank {G : gp_} {ad : Nat → Nat} (μ : mu_T) (a1 : Int) (a : Int) (μr : mu_T) (h : f_X7_urnAtRank μ a1 = some (a, μr)) : mi_ yX7_urnAtRank cX7_urnAtRank 3 (some .int) ({ frames := 4, cells := 0, slots := 0, locals := 88 } : Room) G 151 ad (ceX G ad) [.ref (ad 136), .int (iI a1)] μ a μr := by
  refine mi_in (own := "UrnHeap$Paths") (lv := [(0, .ref (ad 136)), (1, .int (iI a1))]) (by decide) rfl rfl (Nat.le_of_ble_eq_true rfl) (fun X C E => ?_)
  unfold f_X7_urnAtRank at h
  refine xx_aload_n C 1 rfl 0 dX7_urnAtRank_0 rfl rfl ?_
  refine xx_cVv (As := []) (st := []) (o := 136) C 4 rfl (by decide) (ceX_136 _ _ _) rfl rfl ca_X7_weighAll cv_X7_weighAll w_1084 rfl ⟨Nat.le_of_ble_eq_true rfl, Nat.le_of_ble_eq_true rfl⟩ ⟨Nat.le_of_ble_eq_true rfl, Nat.le_of_ble_eq_true rfl⟩ (Nat.le_of_ble_eq_true rfl) dX7_urnAtRank_1 (fun μ1 e9 => c_X7_weighAll _ μ1 e9) h (fun μ1 h => ?_) rfl
  refine xx_iconst C 5 rfl dX7_urnAtRank_4 ?_
  refine xx_istore_n (lv1 := [(2, .int (iI 0)), (0, .ref (ad 136)), (1, .int (iI a1))]) C 6 rfl (by decide) dX7_urnAtRank_5 rfl rfl ?_
  have L6 : ∀ (fu6 : Nat) (x2_6 : Int), f_X7_urnAtRank_L6 a1 μ1 fu6 x2_6 = some (a, μr) → wx_ G X 151 ad (ceX G ad) μ1 0 0 6 [(0, .ref (ad 136)), (1, .int (iI a1)), (2, .int (iI x2_6))] [] := by
    intro fu6
    induction fu6 with
    | zero => intro x2_6 h; exact nn_ h
    | succ fu6 K6 =>
      intro x2_6 h
      rw [f_X7_urnAtRank_L6] at h
      generalize f_X7_urnAtRank_L6 a1 μ1 fu6 = R6 at K6 h
      refine xx_iload_n C 7 rfl 2 dX7_urnAtRank_6 rfl rfl ?_
      refine xx_bipush C 9 rfl dX7_urnAtRank_7 (by decide) ?_
      refine xx_icmp_ge (tgt := 45) C 12 rfl dX7_urnAtRank_9 (by decide) h (fun h => ?_) (fun h => ?_)
      · refine xx_bipush C 47 rfl dX7_urnAtRank_45 (by decide) ?_
        exact xx_iret C E rfl ⟨Nat.le_of_ble_eq_true rfl, Nat.le_of_ble_eq_true rfl⟩ dX7_urnAtRank_47 h
      · refine xx_aload_n C 13 rfl 0 dX7_urnAtRank_12 rfl rfl ?_
        refine xx_getr (fi := 0) C 16 rfl (by decide) (ceX_136 _ _ _) rfl in_X7 (by decide) rfl w_221 dX7_urnAtRank_13 ?_
        refine xx_iload_n C 17 rfl 2 dX7_urnAtRank_16 rfl rfl ?_
        refine xx_cVip (As := [.int (iI x2_6)]) (st := []) (o := 0) C 20 rfl (by decide) (ceX_0 _ _ _) rfl rfl ca_X2_hasUrn cv_X2_hasUrn w_1028 rfl ⟨Nat.le_of_ble_eq_true rfl, Nat.le_of_ble_eq_true rfl⟩ ⟨Nat.le_of_ble_eq_true rfl, Nat.le_of_ble_eq_true rfl⟩ (Nat.le_of_ble_eq_true rfl) dX7_urnAtRank_17 (fun v17 e9 => c_X2_hasUrn _ _ v17 e9) h (fun v17 h => ?_) rfl
        refine jn_r (fun J => ∀ (_u : Unit), J _u = some (a, μr) → wx_ G X 151 ad (ceX G ad) μ1 0 0 39 [(0, .ref (ad 136)), (1, .int (iI a1)), (2, .int (iI x2_6))] []) h (fun _ h => ?_) (fun J39 K39 h => ?_)
        · refine xx_iincn C 42 rfl 2 (by decide) dX7_urnAtRank_39 rfl h (fun n39 h => ?_)
          refine xx_lv (lv1 := [(2, .int (iI n39)), (0, .ref (ad 136)), (1, .int (iI a1))]) rfl ?_
          refine xx_goto C 6 dX7_urnAtRank_42 (by decide) ?_
          refine xx_sub [1, 2, 0] rfl ?_
          exact K6 n39 h
        · refine xx_if_eq (tgt := 39) C 23 rfl dX7_urnAtRank_20 (by decide) h (fun h => ?_) (fun h => ?_)
          · exact K39 () h
          · refine xx_aload_n C 24 rfl 0 dX7_urnAtRank_23 rfl rfl ?_
            refine xx_aload_n C 25 rfl 0 dX7_urnAtRank_24 rfl rfl ?_
            refine xx_getr (fi := 1) C 28 rfl (by decide) (ceX_136 _ _ _) rfl in_X7 (by decide) rfl w_222 dX7_urnAtRank_25 ?_
            refine xx_iload_n C 29 rfl 2 dX7_urnAtRank_28 rfl rfl ?_
            refine xx_iaload C 30 rfl (by decide) (fun row => ceX_137 _ _ row) (by decide) dX7_urnAtRank_29 h (fun v29 h => ?_)
            refine xx_cVip (As := [.int (iI v29)]) (st := []) (o := 136) C 33 rfl (by decide) (ceX_136 _ _ _) rfl rfl ca_X7_heavierThan cv_X7_heavierThan w_1090 rfl ⟨Nat.le_of_ble_eq_true rfl, Nat.le_of_ble_eq_true rfl⟩ ⟨Nat.le_of_ble_eq_true rfl, Nat.le_of_ble_eq_true rfl⟩ (Nat.le_of_ble_eq_true rfl) dX7_urnAtRank_30 (fun v30 e9 => c_X7_heavierThan _ _ v30 e9) h (fun v30 h => ?_) rfl
            refine xx_iload_n C 34 rfl 1 dX7_urnAtRank_33 rfl rfl ?_
            refine xx_icmp_ne (tgt := 39) C 37 rfl dX7_urnAtRank_34 (by decide) h (fun h => ?_) (fun h => ?_)
            · exact K39 () h
            · refine xx_iload_n C 38 rfl 2 dX7_urnAtRank_37 rfl rfl ?_
              exact xx_iret C E rfl ⟨Nat.le_of_ble_eq_true rfl, Nat.le_of_ble_eq_true rfl⟩ dX7_urnAtRank_38 h
  refine xx_sub [1, 2, 0] rfl ?_
  exact L6 _ _ h

def f_X9_takeFirst (μ : mu_T)  : Option (Int × mu_T) :=
  nm_ (μ 8 1) (fun v1 => lt_ 0 v1
      (rd_ μ 9 24 0 (fun v15 => nm_ (μ 8 1) (fun v19 => wf_ μ 8 1 (v19 - 1) (fun μ24 => nm_ (μ24 8 1) (fun v38 => ac_ μ24 9 24 1 9 24 0 v38 (fun μ41 => some (v15, μ41)))))))
      (some ((-15), μ)))
set_option maxHeartbeats 4000000 in
set_option maxRecDepth 100000 in
theorem c_X9_takeFirst {G : gp_} {ad : Nat → Nat} (μ : mu_T)  (a : Int) (μr : mu_T) (h : f_X9_takeFirst μ  = some (a, μr)) : mi_ yX9_takeFirst cX9_takeFirst 2 (some .int) ({ frames := 1, cells := 0, slots := 0, locals := 18 } : Room) G 151 ad (ceX G ad) [.ref (ad 8)] μ a μr := by
  refine mi_in (own := "UrnHeap$Row") (lv := [(0, .ref (ad 8))]) (by decide) rfl rfl (Nat.le_of_ble_eq_true rfl) (fun X C E => ?_)
  unfold f_X9_takeFirst at h
  refine xx_aload_n C 1 rfl 0 dX9_takeFirst_0 rfl rfl ?_
  refine xx_geti (fi := 1) (j := 1) C 4 rfl (by decide) (ceX_8 _ _ _) rfl in_X9 (by decide) rfl w_71 dX9_takeFirst_1 h (fun v1 h => ?_)
  refine xx_if_gt (tgt := 10) C 7 rfl dX9_takeFirst_4 (by decide) h (fun h => ?_) (fun h => ?_)
  · refine xx_aload_n C 11 rfl 0 dX9_takeFirst_10 rfl rfl ?_
    refine xx_getr (fi := 0) C 14 rfl (by decide) (ceX_8 _ _ _) rfl in_X9 (by decide) rfl w_70 dX9_takeFirst_11 ?_
    refine xx_iconst C 15 rfl dX9_takeFirst_14 ?_
    refine xx_iaload C 16 rfl (by decide) (fun row => ceX_9 _ _ row) (by decide) dX9_takeFirst_15 h (fun v15 h => ?_)
    refine xx_istore_n (lv1 := [(1, .int (iI v15)), (0, .ref (ad 8))]) C 17 rfl (by decide) dX9_takeFirst_16 rfl rfl ?_
    refine xx_aload_n C 18 rfl 1 dX9_takeFirst_17 rfl rfl ?_
    refine xx_dup C 19 rfl dX9_takeFirst_18 rfl ?_
    refine xx_geti (fi := 1) (j := 1) C 22 rfl (by decide) (ceX_8 _ _ _) rfl in_X9 (by decide) rfl w_71 dX9_takeFirst_19 h (fun v19 h => ?_)
    refine xx_iconst C 23 rfl dX9_takeFirst_22 ?_
    refine xx_isub C 24 rfl dX9_takeFirst_23 ?_
    refine xx_puti (fi := 1) (j := 1) C 27 rfl (by decide) (ceX_8 _ _ _) (puX_8_1 _ _ _ _) rfl in_X9 tyX9 tyX9_ok nmX9 (by decide) (Nat.le_of_ble_eq_true rfl) ⟨rfl, rfl⟩ w_71 dX9_takeFirst_24 h (fun μ24 h => ?_)
    refine xx_aload_n C 28 rfl 1 dX9_takeFirst_27 rfl rfl ?_
    refine xx_getr (fi := 0) C 31 rfl (by decide) (ceX_8 _ _ _) rfl in_X9 (by decide) rfl w_70 dX9_takeFirst_28 ?_
    refine xx_iconst C 32 rfl dX9_takeFirst_31 ?_
    refine xx_aload_n C 33 rfl 1 dX9_takeFirst_32 rfl rfl ?_
    refine xx_getr (fi := 0) C 36 rfl (by decide) (ceX_8 _ _ _) rfl in_X9 (by decide) rfl w_70 dX9_takeFirst_33 ?_
    refine xx_iconst C 37 rfl dX9_takeFirst_36 ?_
    refine xx_aload_n C 38 rfl 1 dX9_takeFirst_37 rfl rfl ?_
    refine xx_geti (fi := 1) (j := 1) C 41 rfl (by decide) (ceX_8 _ _ _) rfl in_X9 (by decide) rfl w_71 dX9_takeFirst_38 h (fun v38 h => ?_)
    refine xx_acopy C 44 rfl (by decide) (fun row => ceX_9 _ _ row) (by decide) (fun row => ceX_9 _ _ row) (by decide) ⟨w_426, w_421, w_420, w_40⟩ ⟨Nat.le_of_ble_eq_true rfl, Nat.le_of_ble_eq_true rfl⟩ dX9_takeFirst_41 h (fun μ41 h => ?_)
    refine xx_iload_n C 45 rfl 0 dX9_takeFirst_44 rfl rfl ?_
    exact xx_iret C E rfl ⟨Nat.le_of_ble_eq_true rfl, Nat.le_of_ble_eq_true rfl⟩ dX9_takeFirst_45 h
  · refine xx_bipush C 9 rfl dX9_takeFirst_7 (by decide) ?_
    exact xx_iret C E rfl ⟨Nat.le_of_ble_eq_true rfl, Nat.le_of_ble_eq_true rfl⟩ dX9_takeFirst_9 h

def f_X9_at (μ : mu_T) (a1 : Int) : Option Int :=
  lt_ a1 0
      (some (-11))
      (nm_ (μ 8 1) (fun v6 => lt_ a1 v6
      (lt_ a1 24
      (rd_ μ 9 24 a1 (fun v26 => some v26))
      (some (-11)))
      (some (-11))))
set_option maxHeartbeats 4000000 in
set_option maxRecDepth 100000 in
theorem c_X9_at {G : gp_} {ad : Nat → Nat} (μ : mu_T) (a1 : Int) (a : Int) (h : f_X9_at μ a1 = some a) : mi_ yX9_at cX9_at 2 (some .int) ({ frames := 0, cells := 0, slots := 0, locals := 0 } : Room) G 151 ad (ceX G ad) [.ref (ad 8), .int (iI a1)] μ a μ := by
  refine mi_in (own := "UrnHeap$Row") (lv := [(0, .ref (ad 8)), (1, .int (iI a1))]) (by decide) rfl rfl (Nat.le_of_ble_eq_true rfl) (fun X C E => ?_)
  unfold f_X9_at at h
  refine xx_iload_n C 1 rfl 1 dX9_at_0 rfl rfl ?_
  refine xx_if_lt (tgt := 30) C 4 rfl dX9_at_1 (by decide) h (fun h => ?_) (fun h => ?_)
  · refine xx_bipush C 32 rfl dX9_at_30 (by decide) ?_
    exact xx_iretp C E rfl ⟨Nat.le_of_ble_eq_true rfl, Nat.le_of_ble_eq_true rfl⟩ dX9_at_32 h
  · refine xx_iload_n C 5 rfl 1 dX9_at_4 rfl rfl ?_
    refine xx_aload_n C 6 rfl 0 dX9_at_5 rfl rfl ?_
    refine xx_geti (fi := 1) (j := 1) C 9 rfl (by decide) (ceX_8 _ _ _) rfl in_X9 (by decide) rfl w_71 dX9_at_6 h (fun v6 h => ?_)
    refine xx_icmp_ge (tgt := 30) C 12 rfl dX9_at_9 (by decide) h (fun h => ?_) (fun h => ?_)
    · refine xx_bipush C 32 rfl dX9_at_30 (by decide) ?_
      exact xx_iretp C E rfl ⟨Nat.le_of_ble_eq_true rfl, Nat.le_of_ble_eq_true rfl⟩ dX9_at_32 h
    · refine xx_iload_n C 13 rfl 1 dX9_at_12 rfl rfl ?_
      refine xx_aload_n C 14 rfl 0 dX9_at_13 rfl rfl ?_
      refine xx_getr (fi := 0) C 17 rfl (by decide) (ceX_8 _ _ _) rfl in_X9 (by decide) rfl w_70 dX9_at_14 ?_
      refine xx_alen (nA := 24) C 18 rfl (by decide) (fun row => ceX_9 _ _ row) dX9_at_17 ?_
      refine xx_icmp_ge (tgt := 30) C 21 rfl dX9_at_18 (by decide) h (fun h => ?_) (fun h => ?_)
      · refine xx_bipush C 32 rfl dX9_at_30 (by decide) ?_
        exact xx_iretp C E rfl ⟨Nat.le_of_ble_eq_true rfl, Nat.le_of_ble_eq_true rfl⟩ dX9_at_32 h
      · refine xx_aload_n C 22 rfl 0 dX9_at_21 rfl rfl ?_
        refine xx_getr (fi := 0) C 25 rfl (by decide) (ceX_8 _ _ _) rfl in_X9 (by decide) rfl w_70 dX9_at_22 ?_
        refine xx_iload_n C 26 rfl 1 dX9_at_25 rfl rfl ?_
        refine xx_iaload C 27 rfl (by decide) (fun row => ceX_9 _ _ row) (by decide) dX9_at_26 h (fun v26 h => ?_)
        refine xx_goto C 32 dX9_at_27 (by decide) ?_
        exact xx_iretp C E rfl ⟨Nat.le_of_ble_eq_true rfl, Nat.le_of_ble_eq_true rfl⟩ dX9_at_32 h

def f_X9_at_o10 (μ : mu_T) (a1 : Int) : Option Int :=
  lt_ a1 0
      (some (-11))
      (nm_ (μ 10 1) (fun v6 => lt_ a1 v6
      (lt_ a1 24
      (rd_ μ 11 24 a1 (fun v26 => some v26))
      (some (-11)))
      (some (-11))))
set_option maxHeartbeats 4000000 in
set_option maxRecDepth 100000 in
theorem c_X9_at_o10 {G : gp_} {ad : Nat → Nat} (μ : mu_T) (a1 : Int) (a : Int) (h : f_X9_at_o10 μ a1 = some a) : mi_ yX9_at cX9_at 2 (some .int) ({ frames := 0, cells := 0, slots := 0, locals := 0 } : Room) G 151 ad (ceX G ad) [.ref (ad 10), .int (iI a1)] μ a μ := by
  refine mi_in (own := "UrnHeap$Row") (lv := [(0, .ref (ad 10)), (1, .int (iI a1))]) (by decide) rfl rfl (Nat.le_of_ble_eq_true rfl) (fun X C E => ?_)
  unfold f_X9_at_o10 at h
  refine xx_iload_n C 1 rfl 1 dX9_at_0 rfl rfl ?_
  refine xx_if_lt (tgt := 30) C 4 rfl dX9_at_1 (by decide) h (fun h => ?_) (fun h => ?_)
  · refine xx_bipush C 32 rfl dX9_at_30 (by decide) ?_
    exact xx_iretp C E rfl ⟨Nat.le_of_ble_eq_true rfl, Nat.le_of_ble_eq_true rfl⟩ dX9_at_32 h
  · refine xx_iload_n C 5 rfl 1 dX9_at_4 rfl rfl ?_
    refine xx_aload_n C 6 rfl 0 dX9_at_5 rfl rfl ?_
    refine xx_geti (fi := 1) (j := 1) C 9 rfl (by decide) (ceX_10 _ _ _) rfl in_X9 (by decide) rfl w_71 dX9_at_6 h (fun v6 h => ?_)
    refine xx_icmp_ge (tgt := 30) C 12 rfl dX9_at_9 (by decide) h (fun h => ?_) (fun h => ?_)
    · refine xx_bipush C 32 rfl dX9_at_30 (by decide) ?_
      exact xx_iretp C E rfl ⟨Nat.le_of_ble_eq_true rfl, Nat.le_of_ble_eq_true rfl⟩ dX9_at_32 h
    · refine xx_iload_n C 13 rfl 1 dX9_at_12 rfl rfl ?_
      refine xx_aload_n C 14 rfl 0 dX9_at_13 rfl rfl ?_
      refine xx_getr (fi := 0) C 17 rfl (by decide) (ceX_10 _ _ _) rfl in_X9 (by decide) rfl w_70 dX9_at_14 ?_
      refine xx_alen (nA := 24) C 18 rfl (by decide) (fun row => ceX_11 _ _ row) dX9_at_17 ?_
      refine xx_icmp_ge (tgt := 30) C 21 rfl dX9_at_18 (by decide) h (fun h => ?_) (fun h => ?_)
      · refine xx_bipush C 32 rfl dX9_at_30 (by decide) ?_
        exact xx_iretp C E rfl ⟨Nat.le_of_ble_eq_true rfl, Nat.le_of_ble_eq_true rfl⟩ dX9_at_32 h
      · refine xx_aload_n C 22 rfl 0 dX9_at_21 rfl rfl ?_
        refine xx_getr (fi := 0) C 25 rfl (by decide) (ceX_10 _ _ _) rfl in_X9 (by decide) rfl w_70 dX9_at_22 ?_
        refine xx_iload_n C 26 rfl 1 dX9_at_25 rfl rfl ?_
        refine xx_iaload C 27 rfl (by decide) (fun row => ceX_11 _ _ row) (by decide) dX9_at_26 h (fun v26 h => ?_)
        refine xx_goto C 32 dX9_at_27 (by decide) ?_
        exact xx_iretp C E rfl ⟨Nat.le_of_ble_eq_true rfl, Nat.le_of_ble_eq_true rfl⟩ dX9_at_32 h

def f_X10_markRoots_L40  : Nat → Int → mu_T → Option mu_T
  | 0, _, _ => none
  | fu40 + 1, x1_40, μ40 => nm_ (μ40 10 1) (fun v48 => lt_ x1_40 v48
      (bd_ (f_X9_at_o10 μ40 x1_40) (fun v66 => bd_ (f_X2_makeGrey μ40 v66) (fun μ69 => nm_ (x1_40 + 1) (fun n72 => (f_X10_markRoots_L40 fu40) n72 μ69))))
      (some μ40))
def f_X10_markRoots_L10 (J38 : mu_T → Option mu_T) : Nat → Int → mu_T → Option mu_T
  | 0, _, _ => none
  | fu10 + 1, x1_10, μ10 => lt_ x1_10 6
      (rd_ μ10 6 6 x1_10 (fun v28 => bd_ (f_X2_makeGrey μ10 v28) (fun μ29 => nm_ (x1_10 + 1) (fun n32 => (f_X10_markRoots_L10 J38 fu10) n32 μ29))))
      (J38 μ10)
def f_X10_markRoots (μ : mu_T)  : Option mu_T :=
  wf_ μ 0 9 1 (fun μ5 => jn_ (φ := mu_T → Option mu_T) (fun μ38 => f_X10_markRoots_L40 20000 0 μ38)
      (fun J38 => f_X10_markRoots_L10 J38 20000 0 μ5))
set_option maxHeartbeats 4000000 in
set_option maxRecDepth 100000 in
theorem c_X10_markRoots {G : gp_} {ad : Nat → Nat} (μ : mu_T)  (μr : mu_T) (h : f_X10_markRoots μ  = some μr) : mv_ yX10_markRoots cX10_markRoots 2 ({ frames := 2, cells := 0, slots := 0, locals := 42 } : Room) G 151 ad (ceX G ad) [.ref (ad 135)] μ μr := by
  refine mv_in (own := "UrnHeap$Sexton") (lv := [(0, .ref (ad 135))]) (by decide) rfl rfl (Nat.le_of_ble_eq_true rfl) (fun X C E => ?_)
  unfold f_X10_markRoots at h
  refine xx_aload_n C 1 rfl 0 dX10_markRoots_0 rfl rfl ?_
  refine xx_getr (fi := 0) C 4 rfl (by decide) (ceX_135 _ _ _) rfl in_X10 (by decide) rfl w_208 dX10_markRoots_1 ?_
  refine xx_iconst C 5 rfl dX10_markRoots_4 ?_
  refine xx_puti (fi := 9) (j := 9) C 8 rfl (by decide) (ceX_0 _ _ _) (puX_0_9 _ _ _ _) rfl in_X2 tyX2 tyX2_ok nmX2 (by decide) (Nat.le_of_ble_eq_true rfl) ⟨rfl, rfl⟩ w_115 dX10_markRoots_5 h (fun μ5 h => ?_)
  refine xx_iconst C 9 rfl dX10_markRoots_8 ?_
  refine xx_istore_n (lv1 := [(1, .int (iI 0)), (0, .ref (ad 135))]) C 10 rfl (by decide) dX10_markRoots_9 rfl rfl ?_
  refine jn_r (fun J => ∀ (μ38 : mu_T), J μ38 = some μr → wx_ G X 151 ad (ceX G ad) μ38 0 0 38 [(0, .ref (ad 135))] []) h (fun μ38 h => ?_) (fun J38 K38 h => ?_)
  · refine xx_iconst C 39 rfl dX10_markRoots_38 ?_
    refine xx_istore_n (lv1 := [(1, .int (iI 0)), (0, .ref (ad 135))]) C 40 rfl (by decide) dX10_markRoots_39 rfl rfl ?_
    have L40 : ∀ (fu40 : Nat) (x1_40 : Int) (μ40 : mu_T), f_X10_markRoots_L40 fu40 x1_40 μ40 = some μr → wx_ G X 151 ad (ceX G ad) μ40 0 0 40 [(0, .ref (ad 135)), (1, .int (iI x1_40))] [] := by
      intro fu40
      induction fu40 with
      | zero => intro x1_40 μ40 h; exact nn_ h
      | succ fu40 K40 =>
        intro x1_40 μ40 h
        rw [f_X10_markRoots_L40] at h
        generalize f_X10_markRoots_L40 fu40 = R40 at K40 h
        refine xx_iload_n C 41 rfl 1 dX10_markRoots_40 rfl rfl ?_
        refine xx_aload_n C 42 rfl 0 dX10_markRoots_41 rfl rfl ?_
        refine xx_getr (fi := 0) C 45 rfl (by decide) (ceX_135 _ _ _) rfl in_X10 (by decide) rfl w_208 dX10_markRoots_42 ?_
        refine xx_getr (fi := 8) C 48 rfl (by decide) (ceX_0 _ _ _) rfl in_X2 (by decide) rfl w_112 dX10_markRoots_45 ?_
        refine xx_geti (fi := 1) (j := 1) C 51 rfl (by decide) (ceX_10 _ _ _) rfl in_X9 (by decide) rfl w_72 dX10_markRoots_48 h (fun v48 h => ?_)
        refine xx_icmp_ge (tgt := 78) C 54 rfl dX10_markRoots_51 (by decide) h (fun h => ?_) (fun h => ?_)
        · exact xx_vret C E rfl ⟨Nat.le_of_ble_eq_true rfl, Nat.le_of_ble_eq_true rfl⟩ dX10_markRoots_78 h
        · refine xx_aload_n C 55 rfl 0 dX10_markRoots_54 rfl rfl ?_
          refine xx_getr (fi := 0) C 58 rfl (by decide) (ceX_135 _ _ _) rfl in_X10 (by decide) rfl w_208 dX10_markRoots_55 ?_
          refine xx_aload_n C 59 rfl 0 dX10_markRoots_58 rfl rfl ?_
          refine xx_getr (fi := 0) C 62 rfl (by decide) (ceX_135 _ _ _) rfl in_X10 (by decide) rfl w_208 dX10_markRoots_59 ?_
          refine xx_getr (fi := 8) C 65 rfl (by decide) (ceX_0 _ _ _) rfl in_X2 (by decide) rfl w_112 dX10_markRoots_62 ?_
          refine xx_iload_n C 66 rfl 1 dX10_markRoots_65 rfl rfl ?_
          refine xx_cVip (As := [.int (iI x1_40)]) (st := [.ref (ad 0)]) (o := 10) C 69 rfl (by decide) (ceX_10 _ _ _) rfl rfl ca_X9_at cv_X9_at w_549 rfl ⟨Nat.le_of_ble_eq_true rfl, Nat.le_of_ble_eq_true rfl⟩ ⟨Nat.le_of_ble_eq_true rfl, Nat.le_of_ble_eq_true rfl⟩ (Nat.le_of_ble_eq_true rfl) dX10_markRoots_66 (fun v66 e9 => c_X9_at_o10 _ _ v66 e9) h (fun v66 h => ?_) rfl
          refine xx_cVv (As := [.int (iI v66)]) (st := []) (o := 0) C 72 rfl (by decide) (ceX_0 _ _ _) rfl rfl ca_X2_makeGrey cv_X2_makeGrey w_548 rfl ⟨Nat.le_of_ble_eq_true rfl, Nat.le_of_ble_eq_true rfl⟩ ⟨Nat.le_of_ble_eq_true rfl, Nat.le_of_ble_eq_true rfl⟩ (Nat.le_of_ble_eq_true rfl) dX10_markRoots_69 (fun μ69 e9 => c_X2_makeGrey _ _ μ69 e9) h (fun μ69 h => ?_) rfl
          refine xx_iincn C 75 rfl 1 (by decide) dX10_markRoots_72 rfl h (fun n72 h => ?_)
          refine xx_lv (lv1 := [(1, .int (iI n72)), (0, .ref (ad 135))]) rfl ?_
          refine xx_goto C 40 dX10_markRoots_75 (by decide) ?_
          refine xx_sub [1, 0] rfl ?_
          exact K40 n72 μ69 h
    refine xx_sub [1, 0] rfl ?_
    exact L40 _ _ _ h
  · have L10 : ∀ (fu10 : Nat) (x1_10 : Int) (μ10 : mu_T), f_X10_markRoots_L10 J38 fu10 x1_10 μ10 = some μr → wx_ G X 151 ad (ceX G ad) μ10 0 0 10 [(0, .ref (ad 135)), (1, .int (iI x1_10))] [] := by
      intro fu10
      induction fu10 with
      | zero => intro x1_10 μ10 h; exact nn_ h
      | succ fu10 K10 =>
        intro x1_10 μ10 h
        rw [f_X10_markRoots_L10] at h
        generalize f_X10_markRoots_L10 J38 fu10 = R10 at K10 h
        refine xx_iload_n C 11 rfl 1 dX10_markRoots_10 rfl rfl ?_
        refine xx_bipush C 13 rfl dX10_markRoots_11 (by decide) ?_
        refine xx_icmp_ge (tgt := 38) C 16 rfl dX10_markRoots_13 (by decide) h (fun h => ?_) (fun h => ?_)
        · refine xx_sub [0] rfl ?_
          exact K38 μ10 h
        · refine xx_aload_n C 17 rfl 0 dX10_markRoots_16 rfl rfl ?_
          refine xx_getr (fi := 0) C 20 rfl (by decide) (ceX_135 _ _ _) rfl in_X10 (by decide) rfl w_208 dX10_markRoots_17 ?_
          refine xx_aload_n C 21 rfl 0 dX10_markRoots_20 rfl rfl ?_
          refine xx_getr (fi := 0) C 24 rfl (by decide) (ceX_135 _ _ _) rfl in_X10 (by decide) rfl w_208 dX10_markRoots_21 ?_
          refine xx_getr (fi := 5) C 27 rfl (by decide) (ceX_0 _ _ _) rfl in_X2 (by decide) rfl w_104 dX10_markRoots_24 ?_
          refine xx_iload_n C 28 rfl 1 dX10_markRoots_27 rfl rfl ?_
          refine xx_iaload C 29 rfl (by decide) (fun row => ceX_6 _ _ row) (by decide) dX10_markRoots_28 h (fun v28 h => ?_)
          refine xx_cVv (As := [.int (iI v28)]) (st := []) (o := 0) C 32 rfl (by decide) (ceX_0 _ _ _) rfl rfl ca_X2_makeGrey cv_X2_makeGrey w_548 rfl ⟨Nat.le_of_ble_eq_true rfl, Nat.le_of_ble_eq_true rfl⟩ ⟨Nat.le_of_ble_eq_true rfl, Nat.le_of_ble_eq_true rfl⟩ (Nat.le_of_ble_eq_true rfl) dX10_markRoots_29 (fun μ29 e9 => c_X2_makeGrey _ _ μ29 e9) h (fun μ29 h => ?_) rfl
          refine xx_iincn C 35 rfl 1 (by decide) dX10_markRoots_32 rfl h (fun n32 h => ?_)
          refine xx_lv (lv1 := [(1, .int (iI n32)), (0, .ref (ad 135))]) rfl ?_
          refine xx_goto C 10 dX10_markRoots_35 (by decide) ?_
          refine xx_sub [1, 0] rfl ?_
          exact K10 n32 μ29 h
    refine xx_sub [1, 0] rfl ?_
    exact L10 _ _ _ h

def f_X10_beginRound (μ : mu_T)  : Option (Int × mu_T) :=
  nm_ (μ 0 9) (fun v4 => eq_ v4 0
      (bd_ (f_X10_markRoots μ) (fun μ27 => nm_ (μ27 8 1) (fun v37 => some (v37, μ27))))
      (nm_ (μ 0 9) (fun v19 => bp_ (f_X8_refuse μ 4 v19) (fun v22 μ22 => some (v22, μ22)))))
set_option maxHeartbeats 4000000 in
set_option maxRecDepth 100000 in
theorem c_X10_beginRound {G : gp_} {ad : Nat → Nat} (μ : mu_T)  (a : Int) (μr : mu_T) (h : f_X10_beginRound μ  = some (a, μr)) : mi_ yX10_beginRound cX10_beginRound 1 (some .int) ({ frames := 3, cells := 0, slots := 0, locals := 63 } : Room) G 151 ad (ceX G ad) [.ref (ad 135)] μ a μr := by
  refine mi_in (own := "UrnHeap$Sexton") (lv := [(0, .ref (ad 135))]) (by decide) rfl rfl (Nat.le_of_ble_eq_true rfl) (fun X C E => ?_)
  unfold f_X10_beginRound at h
  refine xx_aload_n C 1 rfl 0 dX10_beginRound_0 rfl rfl ?_
  refine xx_getr (fi := 0) C 4 rfl (by decide) (ceX_135 _ _ _) rfl in_X10 (by decide) rfl w_208 dX10_beginRound_1 ?_
  refine xx_geti (fi := 9) (j := 9) C 7 rfl (by decide) (ceX_0 _ _ _) rfl in_X2 (by decide) rfl w_115 dX10_beginRound_4 h (fun v4 h => ?_)
  refine xx_if_eq (tgt := 26) C 10 rfl dX10_beginRound_7 (by decide) h (fun h => ?_) (fun h => ?_)
  · refine xx_aload_n C 27 rfl 0 dX10_beginRound_26 rfl rfl ?_
    refine xx_cVv (As := []) (st := []) (o := 135) C 30 rfl (by decide) (ceX_135 _ _ _) rfl rfl ca_X10_markRoots cv_X10_markRoots w_544 rfl ⟨Nat.le_of_ble_eq_true rfl, Nat.le_of_ble_eq_true rfl⟩ ⟨Nat.le_of_ble_eq_true rfl, Nat.le_of_ble_eq_true rfl⟩ (Nat.le_of_ble_eq_true rfl) dX10_beginRound_27 (fun μ27 e9 => c_X10_markRoots _ μ27 e9) h (fun μ27 h => ?_) rfl
    refine xx_aload_n C 31 rfl 0 dX10_beginRound_30 rfl rfl ?_
    refine xx_getr (fi := 0) C 34 rfl (by decide) (ceX_135 _ _ _) rfl in_X10 (by decide) rfl w_208 dX10_beginRound_31 ?_
    refine xx_getr (fi := 7) C 37 rfl (by decide) (ceX_0 _ _ _) rfl in_X2 (by decide) rfl w_109 dX10_beginRound_34 ?_
    refine xx_geti (fi := 1) (j := 1) C 40 rfl (by decide) (ceX_8 _ _ _) rfl in_X9 (by decide) rfl w_72 dX10_beginRound_37 h (fun v37 h => ?_)
    exact xx_iret C E rfl ⟨Nat.le_of_ble_eq_true rfl, Nat.le_of_ble_eq_true rfl⟩ dX10_beginRound_40 h
  · refine xx_aload_n C 11 rfl 0 dX10_beginRound_10 rfl rfl ?_
    refine xx_getr (fi := 1) C 14 rfl (by decide) (ceX_135 _ _ _) rfl in_X10 (by decide) rfl w_209 dX10_beginRound_11 ?_
    refine xx_iconst C 15 rfl dX10_beginRound_14 ?_
    refine xx_aload_n C 16 rfl 0 dX10_beginRound_15 rfl rfl ?_
    refine xx_getr (fi := 0) C 19 rfl (by decide) (ceX_135 _ _ _) rfl in_X10 (by decide) rfl w_208 dX10_beginRound_16 ?_
    refine xx_geti (fi := 9) (j := 9) C 22 rfl (by decide) (ceX_0 _ _ _) rfl in_X2 (by decide) rfl w_115 dX10_beginRound_19 h (fun v19 h => ?_)
    refine xx_cVi (As := [.int (iI 4), .int (iI v19)]) (st := []) (o := 133) C 25 rfl (by decide) (ceX_133 _ _ _) rfl rfl ca_X8_refuse cv_X8_refuse w_543 rfl ⟨Nat.le_of_ble_eq_true rfl, Nat.le_of_ble_eq_true rfl⟩ ⟨Nat.le_of_ble_eq_true rfl, Nat.le_of_ble_eq_true rfl⟩ (Nat.le_of_ble_eq_true rfl) dX10_beginRound_22 (fun v22 μ22 e9 => c_X8_refuse _ _ _ v22 μ22 e9) h (fun v22 μ22 h => ?_) rfl
    exact xx_iret C E rfl ⟨Nat.le_of_ble_eq_true rfl, Nat.le_of_ble_eq_true rfl⟩ dX10_beginRound_25 h

def f_X9_addLast_o10 (μ : mu_T) (a1 : Int) : Option mu_T :=
  nm_ (μ 10 1) (fun v1 => lt_ v1 24
      (nm_ (μ 10 1) (fun v17 => wr_ μ 11 24 v17 a1 (fun μ21 => nm_ (μ21 10 1) (fun v24 => wf_ μ21 10 1 (v24 + 1) (fun μ29 => some μ29)))))
      (some μ))
set_option maxHeartbeats 4000000 in
set_option maxRecDepth 100000 in
theorem c_X9_addLast_o10 {G : gp_} {ad : Nat → Nat} (μ : mu_T) (a1 : Int) (μr : mu_T) (h : f_X9_addLast_o10 μ a1 = some μr) : mv_ yX9_addLast cX9_addLast 2 ({ frames := 0, cells := 0, slots := 0, locals := 0 } : Room) G 151 ad (ceX G ad) [.ref (ad 10), .int (iI a1)] μ μr := by
  refine mv_in (own := "UrnHeap$Row") (lv := [(0, .ref (ad 10)), (1, .int (iI a1))]) (by decide) rfl rfl (Nat.le_of_ble_eq_true rfl) (fun X C E => ?_)
  unfold f_X9_addLast_o10 at h
  refine xx_aload_n C 1 rfl 0 dX9_addLast_0 rfl rfl ?_
  refine xx_geti (fi := 1) (j := 1) C 4 rfl (by decide) (ceX_10 _ _ _) rfl in_X9 (by decide) rfl w_71 dX9_addLast_1 h (fun v1 h => ?_)
  refine xx_aload_n C 5 rfl 0 dX9_addLast_4 rfl rfl ?_
  refine xx_getr (fi := 0) C 8 rfl (by decide) (ceX_10 _ _ _) rfl in_X9 (by decide) rfl w_70 dX9_addLast_5 ?_
  refine xx_alen (nA := 24) C 9 rfl (by decide) (fun row => ceX_11 _ _ row) dX9_addLast_8 ?_
  refine xx_icmp_ge (tgt := 32) C 12 rfl dX9_addLast_9 (by decide) h (fun h => ?_) (fun h => ?_)
  · exact xx_vret C E rfl ⟨Nat.le_of_ble_eq_true rfl, Nat.le_of_ble_eq_true rfl⟩ dX9_addLast_32 h
  · refine xx_aload_n C 13 rfl 0 dX9_addLast_12 rfl rfl ?_
    refine xx_getr (fi := 0) C 16 rfl (by decide) (ceX_10 _ _ _) rfl in_X9 (by decide) rfl w_70 dX9_addLast_13 ?_
    refine xx_aload_n C 17 rfl 0 dX9_addLast_16 rfl rfl ?_
    refine xx_geti (fi := 1) (j := 1) C 20 rfl (by decide) (ceX_10 _ _ _) rfl in_X9 (by decide) rfl w_71 dX9_addLast_17 h (fun v17 h => ?_)
    refine xx_iload_n C 21 rfl 1 dX9_addLast_20 rfl rfl ?_
    refine xx_iastore C 22 rfl (by decide) (fun row => ceX_11 _ _ row) (by decide) dX9_addLast_21 h (fun μ21 h => ?_)
    refine xx_aload_n C 23 rfl 0 dX9_addLast_22 rfl rfl ?_
    refine xx_dup C 24 rfl dX9_addLast_23 rfl ?_
    refine xx_geti (fi := 1) (j := 1) C 27 rfl (by decide) (ceX_10 _ _ _) rfl in_X9 (by decide) rfl w_71 dX9_addLast_24 h (fun v24 h => ?_)
    refine xx_iconst C 28 rfl dX9_addLast_27 ?_
    refine xx_iadd C 29 rfl dX9_addLast_28 ?_
    refine xx_puti (fi := 1) (j := 1) C 32 rfl (by decide) (ceX_10 _ _ _) (puX_10_1 _ _ _ _) rfl in_X9 tyX9 tyX9_ok nmX9 (by decide) (Nat.le_of_ble_eq_true rfl) ⟨rfl, rfl⟩ w_71 dX9_addLast_29 h (fun μ29 h => ?_)
    exact xx_vret C E rfl ⟨Nat.le_of_ble_eq_true rfl, Nat.le_of_ble_eq_true rfl⟩ dX9_addLast_32 h

def f_X10_makeRitesDue_L4  : Nat → Int → Int → mu_T → Option (Int × mu_T)
  | 0, _, _, _ => none
  | fu4 + 1, x1_4, x2_4, μ4 => lt_ x2_4 24
      (bd_ (f_X2_isWhite μ4 x2_4) (fun v15 => jn_ (φ := Int → mu_T → Option (Int × mu_T)) (fun x1_65 μ65 => nm_ (x2_4 + 1) (fun n65 => (f_X10_makeRitesDue_L4 fu4) x1_65 n65 μ65))
      (fun J65 => eq_ v15 0
      (J65 x1_4 μ4)
      (rd_ μ4 3 24 x2_4 (fun v29 => eq_ v29 1
      (bd_ (f_X2_makeGrey μ4 x2_4) (fun μ39 => wr_ μ39 3 24 x2_4 2 (fun μ51 => bd_ (f_X9_addLast_o10 μ51 x2_4) (fun μ60 => J65 1 μ60))))
      (J65 x1_4 μ4))))))
      (rz_ x1_4 μ4)
def f_X10_makeRitesDue (μ : mu_T)  : Option (Int × mu_T) :=
  f_X10_makeRitesDue_L4 20000 0 0 μ
set_option maxHeartbeats 4000000 in
set_option maxRecDepth 100000 in
theorem c_X10_makeRitesDue {G : gp_} {ad : Nat → Nat} (μ : mu_T)  (a : Int) (μr : mu_T) (h : f_X10_makeRitesDue μ  = some (a, μr)) : mi_ yX10_makeRitesDue cX10_makeRitesDue 3 (some .boolean) ({ frames := 2, cells := 0, slots := 0, locals := 42 } : Room) G 151 ad (ceX G ad) [.ref (ad 135)] μ a μr := by
  refine mi_in (own := "UrnHeap$Sexton") (lv := [(0, .ref (ad 135))]) (by decide) rfl rfl (Nat.le_of_ble_eq_true rfl) (fun X C E => ?_)
  unfold f_X10_makeRitesDue at h
  refine xx_iconst C 1 rfl dX10_makeRitesDue_0 ?_
  refine xx_istore_n (lv1 := [(1, .int (iI 0)), (0, .ref (ad 135))]) C 2 rfl (by decide) dX10_makeRitesDue_1 rfl rfl ?_
  refine xx_iconst C 3 rfl dX10_makeRitesDue_2 ?_
  refine xx_istore_n (lv1 := [(2, .int (iI 0)), (1, .int (iI 0)), (0, .ref (ad 135))]) C 4 rfl (by decide) dX10_makeRitesDue_3 rfl rfl ?_
  have L4 : ∀ (fu4 : Nat) (x1_4 : Int) (x2_4 : Int) (μ4 : mu_T), f_X10_makeRitesDue_L4 fu4 x1_4 x2_4 μ4 = some (a, μr) → wx_ G X 151 ad (ceX G ad) μ4 0 0 4 [(0, .ref (ad 135)), (1, .int (iI x1_4)), (2, .int (iI x2_4))] [] := by
    intro fu4
    induction fu4 with
    | zero => intro x1_4 x2_4 μ4 h; exact nn_ h
    | succ fu4 K4 =>
      intro x1_4 x2_4 μ4 h
      rw [f_X10_makeRitesDue_L4] at h
      generalize f_X10_makeRitesDue_L4 fu4 = R4 at K4 h
      refine xx_iload_n C 5 rfl 2 dX10_makeRitesDue_4 rfl rfl ?_
      refine xx_bipush C 7 rfl dX10_makeRitesDue_5 (by decide) ?_
      refine xx_icmp_ge (tgt := 71) C 10 rfl dX10_makeRitesDue_7 (by decide) h (fun h => ?_) (fun h => ?_)
      · refine xx_iload_n C 72 rfl 1 dX10_makeRitesDue_71 rfl rfl ?_
        exact xx_zretz C E rfl ⟨Nat.le_of_ble_eq_true rfl, Nat.le_of_ble_eq_true rfl⟩ dX10_makeRitesDue_72 h
      · refine xx_aload_n C 11 rfl 0 dX10_makeRitesDue_10 rfl rfl ?_
        refine xx_getr (fi := 0) C 14 rfl (by decide) (ceX_135 _ _ _) rfl in_X10 (by decide) rfl w_208 dX10_makeRitesDue_11 ?_
        refine xx_iload_n C 15 rfl 2 dX10_makeRitesDue_14 rfl rfl ?_
        refine xx_cVip (As := [.int (iI x2_4)]) (st := []) (o := 0) C 18 rfl (by decide) (ceX_0 _ _ _) rfl rfl ca_X2_isWhite cv_X2_isWhite w_569 rfl ⟨Nat.le_of_ble_eq_true rfl, Nat.le_of_ble_eq_true rfl⟩ ⟨Nat.le_of_ble_eq_true rfl, Nat.le_of_ble_eq_true rfl⟩ (Nat.le_of_ble_eq_true rfl) dX10_makeRitesDue_15 (fun v15 e9 => c_X2_isWhite _ _ v15 e9) h (fun v15 h => ?_) rfl
        refine jn_r (fun J => ∀ (x1_65 : Int) (μ65 : mu_T), J x1_65 μ65 = some (a, μr) → wx_ G X 151 ad (ceX G ad) μ65 0 0 65 [(0, .ref (ad 135)), (1, .int (iI x1_65)), (2, .int (iI x2_4))] []) h (fun x1_65 μ65 h => ?_) (fun J65 K65 h => ?_)
        · refine xx_iincn C 68 rfl 2 (by decide) dX10_makeRitesDue_65 rfl h (fun n65 h => ?_)
          refine xx_lv (lv1 := [(2, .int (iI n65)), (0, .ref (ad 135)), (1, .int (iI x1_65))]) rfl ?_
          refine xx_goto C 4 dX10_makeRitesDue_68 (by decide) ?_
          refine xx_sub [1, 2, 0] rfl ?_
          exact K4 x1_65 n65 μ65 h
        · refine xx_if_eq (tgt := 65) C 21 rfl dX10_makeRitesDue_18 (by decide) h (fun h => ?_) (fun h => ?_)
          · exact K65 x1_4 μ4 h
          · refine xx_aload_n C 22 rfl 0 dX10_makeRitesDue_21 rfl rfl ?_
            refine xx_getr (fi := 0) C 25 rfl (by decide) (ceX_135 _ _ _) rfl in_X10 (by decide) rfl w_208 dX10_makeRitesDue_22 ?_
            refine xx_getr (fi := 2) C 28 rfl (by decide) (ceX_0 _ _ _) rfl in_X2 (by decide) rfl w_92 dX10_makeRitesDue_25 ?_
            refine xx_iload_n C 29 rfl 2 dX10_makeRitesDue_28 rfl rfl ?_
            refine xx_iaload C 30 rfl (by decide) (fun row => ceX_3 _ _ row) (by decide) dX10_makeRitesDue_29 h (fun v29 h => ?_)
            refine xx_iconst C 31 rfl dX10_makeRitesDue_30 ?_
            refine xx_icmp_ne (tgt := 65) C 34 rfl dX10_makeRitesDue_31 (by decide) h (fun h => ?_) (fun h => ?_)
            · exact K65 x1_4 μ4 h
            · refine xx_aload_n C 35 rfl 0 dX10_makeRitesDue_34 rfl rfl ?_
              refine xx_getr (fi := 0) C 38 rfl (by decide) (ceX_135 _ _ _) rfl in_X10 (by decide) rfl w_208 dX10_makeRitesDue_35 ?_
              refine xx_iload_n C 39 rfl 2 dX10_makeRitesDue_38 rfl rfl ?_
              refine xx_cVv (As := [.int (iI x2_4)]) (st := []) (o := 0) C 42 rfl (by decide) (ceX_0 _ _ _) rfl rfl ca_X2_makeGrey cv_X2_makeGrey w_548 rfl ⟨Nat.le_of_ble_eq_true rfl, Nat.le_of_ble_eq_true rfl⟩ ⟨Nat.le_of_ble_eq_true rfl, Nat.le_of_ble_eq_true rfl⟩ (Nat.le_of_ble_eq_true rfl) dX10_makeRitesDue_39 (fun μ39 e9 => c_X2_makeGrey _ _ μ39 e9) h (fun μ39 h => ?_) rfl
              refine xx_aload_n C 43 rfl 0 dX10_makeRitesDue_42 rfl rfl ?_
              refine xx_getr (fi := 0) C 46 rfl (by decide) (ceX_135 _ _ _) rfl in_X10 (by decide) rfl w_208 dX10_makeRitesDue_43 ?_
              refine xx_getr (fi := 2) C 49 rfl (by decide) (ceX_0 _ _ _) rfl in_X2 (by decide) rfl w_92 dX10_makeRitesDue_46 ?_
              refine xx_iload_n C 50 rfl 2 dX10_makeRitesDue_49 rfl rfl ?_
              refine xx_iconst C 51 rfl dX10_makeRitesDue_50 ?_
              refine xx_iastore C 52 rfl (by decide) (fun row => ceX_3 _ _ row) (by decide) dX10_makeRitesDue_51 h (fun μ51 h => ?_)
              refine xx_aload_n C 53 rfl 0 dX10_makeRitesDue_52 rfl rfl ?_
              refine xx_getr (fi := 0) C 56 rfl (by decide) (ceX_135 _ _ _) rfl in_X10 (by decide) rfl w_208 dX10_makeRitesDue_53 ?_
              refine xx_getr (fi := 8) C 59 rfl (by decide) (ceX_0 _ _ _) rfl in_X2 (by decide) rfl w_112 dX10_makeRitesDue_56 ?_
              refine xx_iload_n C 60 rfl 2 dX10_makeRitesDue_59 rfl rfl ?_
              refine xx_cVv (As := [.int (iI x2_4)]) (st := []) (o := 10) C 63 rfl (by decide) (ceX_10 _ _ _) rfl rfl ca_X9_addLast cv_X9_addLast w_593 rfl ⟨Nat.le_of_ble_eq_true rfl, Nat.le_of_ble_eq_true rfl⟩ ⟨Nat.le_of_ble_eq_true rfl, Nat.le_of_ble_eq_true rfl⟩ (Nat.le_of_ble_eq_true rfl) dX10_makeRitesDue_60 (fun μ60 e9 => c_X9_addLast_o10 _ _ μ60 e9) h (fun μ60 h => ?_) rfl
              refine xx_iconst C 64 rfl dX10_makeRitesDue_63 ?_
              refine xx_istore_n (lv1 := [(1, .int (iI 1)), (0, .ref (ad 135)), (2, .int (iI x2_4))]) C 65 rfl (by decide) dX10_makeRitesDue_64 rfl rfl ?_
              refine xx_sub [1, 0, 2] rfl ?_
              exact K65 1 μ60 h
  refine xx_sub [2, 1, 0] rfl ?_
  exact L4 _ _ _ _ h

def f_X10_beginSweep_L2 (J57 : mu_T → Option mu_T) : Nat → Int → mu_T → Option mu_T
  | 0, _, _ => none
  | fu2 + 1, x1_2, μ2 => lt_ x1_2 24
      (rd_ μ2 2 24 x1_2 (fun v20 => bd_ (f_X2_isWhite μ2 v20) (fun v21 => jn_ (φ := mu_T → Option mu_T) (fun μ51 => nm_ (x1_2 + 1) (fun n51 => (f_X10_beginSweep_L2 J57 fu2) n51 μ51))
      (fun J51 => eq_ v21 0
      (J51 μ2)
      (wr_ μ2 2 24 x1_2 (-15) (fun μ37 => nm_ (μ37 0 15) (fun v43 => wf_ μ37 0 15 (v43 + 1) (fun μ48 => J51 μ48))))))))
      (J57 μ2)
def f_X10_beginSweep (μ : mu_T)  : Option mu_T :=
  jn_ (φ := mu_T → Option mu_T) (fun μ57 => wf_ μ57 0 9 2 (fun μ62 => wf_ μ62 0 10 0 (fun μ70 => some μ70)))
      (fun J57 => f_X10_beginSweep_L2 J57 20000 0 μ)
set_option maxHeartbeats 4000000 in
set_option maxRecDepth 100000 in
theorem c_X10_beginSweep {G : gp_} {ad : Nat → Nat} (μ : mu_T)  (μr : mu_T) (h : f_X10_beginSweep μ  = some μr) : mv_ yX10_beginSweep cX10_beginSweep 2 ({ frames := 1, cells := 0, slots := 0, locals := 21 } : Room) G 151 ad (ceX G ad) [.ref (ad 135)] μ μr := by
  refine mv_in (own := "UrnHeap$Sexton") (lv := [(0, .ref (ad 135))]) (by decide) rfl rfl (Nat.le_of_ble_eq_true rfl) (fun X C E => ?_)
  unfold f_X10_beginSweep at h
  refine xx_iconst C 1 rfl dX10_beginSweep_0 ?_
  refine xx_istore_n (lv1 := [(1, .int (iI 0)), (0, .ref (ad 135))]) C 2 rfl (by decide) dX10_beginSweep_1 rfl rfl ?_
  refine jn_r (fun J => ∀ (μ57 : mu_T), J μ57 = some μr → wx_ G X 151 ad (ceX G ad) μ57 0 0 57 [(0, .ref (ad 135))] []) h (fun μ57 h => ?_) (fun J57 K57 h => ?_)
  · refine xx_aload_n C 58 rfl 0 dX10_beginSweep_57 rfl rfl ?_
    refine xx_getr (fi := 0) C 61 rfl (by decide) (ceX_135 _ _ _) rfl in_X10 (by decide) rfl w_208 dX10_beginSweep_58 ?_
    refine xx_iconst C 62 rfl dX10_beginSweep_61 ?_
    refine xx_puti (fi := 9) (j := 9) C 65 rfl (by decide) (ceX_0 _ _ _) (puX_0_9 _ _ _ _) rfl in_X2 tyX2 tyX2_ok nmX2 (by decide) (Nat.le_of_ble_eq_true rfl) ⟨rfl, rfl⟩ w_115 dX10_beginSweep_62 h (fun μ62 h => ?_)
    refine xx_aload_n C 66 rfl 0 dX10_beginSweep_65 rfl rfl ?_
    refine xx_getr (fi := 0) C 69 rfl (by decide) (ceX_135 _ _ _) rfl in_X10 (by decide) rfl w_208 dX10_beginSweep_66 ?_
    refine xx_iconst C 70 rfl dX10_beginSweep_69 ?_
    refine xx_puti (fi := 10) (j := 10) C 73 rfl (by decide) (ceX_0 _ _ _) (puX_0_10 _ _ _ _) rfl in_X2 tyX2 tyX2_ok nmX2 (by decide) (Nat.le_of_ble_eq_true rfl) ⟨rfl, rfl⟩ w_120 dX10_beginSweep_70 h (fun μ70 h => ?_)
    exact xx_vret C E rfl ⟨Nat.le_of_ble_eq_true rfl, Nat.le_of_ble_eq_true rfl⟩ dX10_beginSweep_73 h
  · have L2 : ∀ (fu2 : Nat) (x1_2 : Int) (μ2 : mu_T), f_X10_beginSweep_L2 J57 fu2 x1_2 μ2 = some μr → wx_ G X 151 ad (ceX G ad) μ2 0 0 2 [(0, .ref (ad 135)), (1, .int (iI x1_2))] [] := by
      intro fu2
      induction fu2 with
      | zero => intro x1_2 μ2 h; exact nn_ h
      | succ fu2 K2 =>
        intro x1_2 μ2 h
        rw [f_X10_beginSweep_L2] at h
        generalize f_X10_beginSweep_L2 J57 fu2 = R2 at K2 h
        refine xx_iload_n C 3 rfl 1 dX10_beginSweep_2 rfl rfl ?_
        refine xx_bipush C 5 rfl dX10_beginSweep_3 (by decide) ?_
        refine xx_icmp_ge (tgt := 57) C 8 rfl dX10_beginSweep_5 (by decide) h (fun h => ?_) (fun h => ?_)
        · refine xx_sub [0] rfl ?_
          exact K57 μ2 h
        · refine xx_aload_n C 9 rfl 0 dX10_beginSweep_8 rfl rfl ?_
          refine xx_getr (fi := 0) C 12 rfl (by decide) (ceX_135 _ _ _) rfl in_X10 (by decide) rfl w_208 dX10_beginSweep_9 ?_
          refine xx_aload_n C 13 rfl 0 dX10_beginSweep_12 rfl rfl ?_
          refine xx_getr (fi := 0) C 16 rfl (by decide) (ceX_135 _ _ _) rfl in_X10 (by decide) rfl w_208 dX10_beginSweep_13 ?_
          refine xx_getr (fi := 1) C 19 rfl (by decide) (ceX_0 _ _ _) rfl in_X2 (by decide) rfl w_89 dX10_beginSweep_16 ?_
          refine xx_iload_n C 20 rfl 1 dX10_beginSweep_19 rfl rfl ?_
          refine xx_iaload C 21 rfl (by decide) (fun row => ceX_2 _ _ row) (by decide) dX10_beginSweep_20 h (fun v20 h => ?_)
          refine xx_cVip (As := [.int (iI v20)]) (st := []) (o := 0) C 24 rfl (by decide) (ceX_0 _ _ _) rfl rfl ca_X2_isWhite cv_X2_isWhite w_569 rfl ⟨Nat.le_of_ble_eq_true rfl, Nat.le_of_ble_eq_true rfl⟩ ⟨Nat.le_of_ble_eq_true rfl, Nat.le_of_ble_eq_true rfl⟩ (Nat.le_of_ble_eq_true rfl) dX10_beginSweep_21 (fun v21 e9 => c_X2_isWhite _ _ v21 e9) h (fun v21 h => ?_) rfl
          refine jn_r (fun J => ∀ (μ51 : mu_T), J μ51 = some μr → wx_ G X 151 ad (ceX G ad) μ51 0 0 51 [(0, .ref (ad 135)), (1, .int (iI x1_2))] []) h (fun μ51 h => ?_) (fun J51 K51 h => ?_)
          · refine xx_iincn C 54 rfl 1 (by decide) dX10_beginSweep_51 rfl h (fun n51 h => ?_)
            refine xx_lv (lv1 := [(1, .int (iI n51)), (0, .ref (ad 135))]) rfl ?_
            refine xx_goto C 2 dX10_beginSweep_54 (by decide) ?_
            refine xx_sub [1, 0] rfl ?_
            exact K2 n51 μ51 h
          · refine xx_if_eq (tgt := 51) C 27 rfl dX10_beginSweep_24 (by decide) h (fun h => ?_) (fun h => ?_)
            · exact K51 μ2 h
            · refine xx_aload_n C 28 rfl 0 dX10_beginSweep_27 rfl rfl ?_
              refine xx_getr (fi := 0) C 31 rfl (by decide) (ceX_135 _ _ _) rfl in_X10 (by decide) rfl w_208 dX10_beginSweep_28 ?_
              refine xx_getr (fi := 1) C 34 rfl (by decide) (ceX_0 _ _ _) rfl in_X2 (by decide) rfl w_89 dX10_beginSweep_31 ?_
              refine xx_iload_n C 35 rfl 1 dX10_beginSweep_34 rfl rfl ?_
              refine xx_bipush C 37 rfl dX10_beginSweep_35 (by decide) ?_
              refine xx_iastore C 38 rfl (by decide) (fun row => ceX_2 _ _ row) (by decide) dX10_beginSweep_37 h (fun μ37 h => ?_)
              refine xx_aload_n C 39 rfl 0 dX10_beginSweep_38 rfl rfl ?_
              refine xx_getr (fi := 0) C 42 rfl (by decide) (ceX_135 _ _ _) rfl in_X10 (by decide) rfl w_208 dX10_beginSweep_39 ?_
              refine xx_dup C 43 rfl dX10_beginSweep_42 rfl ?_
              refine xx_geti (fi := 15) (j := 15) C 46 rfl (by decide) (ceX_0 _ _ _) rfl in_X2 (by decide) rfl w_136 dX10_beginSweep_43 h (fun v43 h => ?_)
              refine xx_iconst C 47 rfl dX10_beginSweep_46 ?_
              refine xx_iadd C 48 rfl dX10_beginSweep_47 ?_
              refine xx_puti (fi := 15) (j := 15) C 51 rfl (by decide) (ceX_0 _ _ _) (puX_0_15 _ _ _ _) rfl in_X2 tyX2 tyX2_ok nmX2 (by decide) (Nat.le_of_ble_eq_true rfl) ⟨rfl, rfl⟩ w_136 dX10_beginSweep_48 h (fun μ48 h => ?_)
              exact K51 μ48 h
    refine xx_sub [1, 0] rfl ?_
    exact L2 _ _ _ h

def f_X10_blackenFirst_L31 (v7 : Int) : Nat → Int → mu_T → Option mu_T
  | 0, _, _ => none
  | fu31 + 1, x2_31, μ31 => lt_ x2_31 4
      (bd_ (f_X2_target μ31 v7 x2_31) (fun v46 => bd_ (f_X2_makeGrey μ31 v46) (fun μ49 => nm_ (x2_31 + 1) (fun n52 => (f_X10_blackenFirst_L31 v7 fu31) n52 μ49))))
      (some μ31)
def f_X10_blackenFirst (μ : mu_T)  : Option mu_T :=
  bp_ (f_X9_takeFirst μ) (fun v7 μ7 => bd_ (f_X11_isCell μ7 v7) (fun v12 => eq_ v12 0
      (some μ7)
      (wr_ μ7 4 24 v7 2 (fun μ28 => f_X10_blackenFirst_L31 v7 20000 0 μ28))))
set_option maxHeartbeats 4000000 in
set_option maxRecDepth 100000 in
theorem c_X10_blackenFirst {G : gp_} {ad : Nat → Nat} (μ : mu_T)  (μr : mu_T) (h : f_X10_blackenFirst μ  = some μr) : mv_ yX10_blackenFirst cX10_blackenFirst 3 ({ frames := 2, cells := 0, slots := 0, locals := 42 } : Room) G 151 ad (ceX G ad) [.ref (ad 135)] μ μr := by
  refine mv_in (own := "UrnHeap$Sexton") (lv := [(0, .ref (ad 135))]) (by decide) rfl rfl (Nat.le_of_ble_eq_true rfl) (fun X C E => ?_)
  unfold f_X10_blackenFirst at h
  refine xx_aload_n C 1 rfl 0 dX10_blackenFirst_0 rfl rfl ?_
  refine xx_getr (fi := 0) C 4 rfl (by decide) (ceX_135 _ _ _) rfl in_X10 (by decide) rfl w_208 dX10_blackenFirst_1 ?_
  refine xx_getr (fi := 7) C 7 rfl (by decide) (ceX_0 _ _ _) rfl in_X2 (by decide) rfl w_109 dX10_blackenFirst_4 ?_
  refine xx_cVi (As := []) (st := []) (o := 8) C 10 rfl (by decide) (ceX_8 _ _ _) rfl rfl ca_X9_takeFirst cv_X9_takeFirst w_583 rfl ⟨Nat.le_of_ble_eq_true rfl, Nat.le_of_ble_eq_true rfl⟩ ⟨Nat.le_of_ble_eq_true rfl, Nat.le_of_ble_eq_true rfl⟩ (Nat.le_of_ble_eq_true rfl) dX10_blackenFirst_7 (fun v7 μ7 e9 => c_X9_takeFirst _ v7 μ7 e9) h (fun v7 μ7 h => ?_) rfl
  refine xx_istore_n (lv1 := [(1, .int (iI v7)), (0, .ref (ad 135))]) C 11 rfl (by decide) dX10_blackenFirst_10 rfl rfl ?_
  refine xx_iload_n C 12 rfl 0 dX10_blackenFirst_11 rfl rfl ?_
  refine xx_cNip (As := [.int (iI v7)]) (st := []) C 15 rfl  ca_X11_isCell cs_X11_isCell 8 rfl rfl ⟨Nat.le_of_ble_eq_true rfl, Nat.le_of_ble_eq_true rfl⟩ ⟨Nat.le_of_ble_eq_true rfl, Nat.le_of_ble_eq_true rfl⟩ (Nat.le_of_ble_eq_true rfl) dX10_blackenFirst_12 (fun v12 e9 => c_X11_isCell _ _ v12 e9) h (fun v12 h => ?_) rfl
  refine xx_if_ne (tgt := 19) C 18 rfl dX10_blackenFirst_15 (by decide) h (fun h => ?_) (fun h => ?_)
  · refine xx_aload_n C 20 rfl 1 dX10_blackenFirst_19 rfl rfl ?_
    refine xx_getr (fi := 0) C 23 rfl (by decide) (ceX_135 _ _ _) rfl in_X10 (by decide) rfl w_208 dX10_blackenFirst_20 ?_
    refine xx_getr (fi := 3) C 26 rfl (by decide) (ceX_0 _ _ _) rfl in_X2 (by decide) rfl w_97 dX10_blackenFirst_23 ?_
    refine xx_iload_n C 27 rfl 0 dX10_blackenFirst_26 rfl rfl ?_
    refine xx_iconst C 28 rfl dX10_blackenFirst_27 ?_
    refine xx_iastore C 29 rfl (by decide) (fun row => ceX_4 _ _ row) (by decide) dX10_blackenFirst_28 h (fun μ28 h => ?_)
    refine xx_iconst C 30 rfl dX10_blackenFirst_29 ?_
    refine xx_istore_n (lv1 := [(2, .int (iI 0)), (1, .int (iI v7)), (0, .ref (ad 135))]) C 31 rfl (by decide) dX10_blackenFirst_30 rfl rfl ?_
    have L31 : ∀ (fu31 : Nat) (x2_31 : Int) (μ31 : mu_T), f_X10_blackenFirst_L31 v7 fu31 x2_31 μ31 = some μr → wx_ G X 151 ad (ceX G ad) μ31 0 0 31 [(0, .ref (ad 135)), (1, .int (iI v7)), (2, .int (iI x2_31))] [] := by
      intro fu31
      induction fu31 with
      | zero => intro x2_31 μ31 h; exact nn_ h
      | succ fu31 K31 =>
        intro x2_31 μ31 h
        rw [f_X10_blackenFirst_L31] at h
        generalize f_X10_blackenFirst_L31 v7 fu31 = R31 at K31 h
        refine xx_iload_n C 32 rfl 2 dX10_blackenFirst_31 rfl rfl ?_
        refine xx_iconst C 33 rfl dX10_blackenFirst_32 ?_
        refine xx_icmp_ge (tgt := 58) C 36 rfl dX10_blackenFirst_33 (by decide) h (fun h => ?_) (fun h => ?_)
        · exact xx_vret C E rfl ⟨Nat.le_of_ble_eq_true rfl, Nat.le_of_ble_eq_true rfl⟩ dX10_blackenFirst_58 h
        · refine xx_aload_n C 37 rfl 0 dX10_blackenFirst_36 rfl rfl ?_
          refine xx_getr (fi := 0) C 40 rfl (by decide) (ceX_135 _ _ _) rfl in_X10 (by decide) rfl w_208 dX10_blackenFirst_37 ?_
          refine xx_aload_n C 41 rfl 0 dX10_blackenFirst_40 rfl rfl ?_
          refine xx_getr (fi := 0) C 44 rfl (by decide) (ceX_135 _ _ _) rfl in_X10 (by decide) rfl w_208 dX10_blackenFirst_41 ?_
          refine xx_iload_n C 45 rfl 1 dX10_blackenFirst_44 rfl rfl ?_
          refine xx_iload_n C 46 rfl 2 dX10_blackenFirst_45 rfl rfl ?_
          refine xx_cVip (As := [.int (iI v7), .int (iI x2_31)]) (st := [.ref (ad 0)]) (o := 0) C 49 rfl (by decide) (ceX_0 _ _ _) rfl rfl ca_X2_target cv_X2_target w_588 rfl ⟨Nat.le_of_ble_eq_true rfl, Nat.le_of_ble_eq_true rfl⟩ ⟨Nat.le_of_ble_eq_true rfl, Nat.le_of_ble_eq_true rfl⟩ (Nat.le_of_ble_eq_true rfl) dX10_blackenFirst_46 (fun v46 e9 => c_X2_target _ _ _ v46 e9) h (fun v46 h => ?_) rfl
          refine xx_cVv (As := [.int (iI v46)]) (st := []) (o := 0) C 52 rfl (by decide) (ceX_0 _ _ _) rfl rfl ca_X2_makeGrey cv_X2_makeGrey w_548 rfl ⟨Nat.le_of_ble_eq_true rfl, Nat.le_of_ble_eq_true rfl⟩ ⟨Nat.le_of_ble_eq_true rfl, Nat.le_of_ble_eq_true rfl⟩ (Nat.le_of_ble_eq_true rfl) dX10_blackenFirst_49 (fun μ49 e9 => c_X2_makeGrey _ _ μ49 e9) h (fun μ49 h => ?_) rfl
          refine xx_iincn C 55 rfl 2 (by decide) dX10_blackenFirst_52 rfl h (fun n52 h => ?_)
          refine xx_lv (lv1 := [(2, .int (iI n52)), (0, .ref (ad 135)), (1, .int (iI v7))]) rfl ?_
          refine xx_goto C 31 dX10_blackenFirst_55 (by decide) ?_
          refine xx_sub [1, 2, 0] rfl ?_
          exact K31 n52 μ49 h
    refine xx_sub [2, 1, 0] rfl ?_
    exact L31 _ _ _ h
  · exact xx_vret C E rfl ⟨Nat.le_of_ble_eq_true rfl, Nat.le_of_ble_eq_true rfl⟩ dX10_blackenFirst_18 h

def f_X10_sweepNext (μ : mu_T)  : Option mu_T :=
  nm_ (μ 0 10) (fun v4 => bd_ (f_X2_isWhite μ v4) (fun v13 => jn_ (φ := mu_T → Option mu_T) (fun μ51 => wf_ μ51 0 10 (v4 + 1) (fun μ58 => nm_ (μ58 0 10) (fun v65 => lt_ v65 24
      (some μ58)
      (wf_ μ58 0 10 0 (fun μ78 => wf_ μ78 0 9 0 (fun μ86 => nm_ (μ86 0 11) (fun v94 => wf_ μ86 0 11 (v94 + 1) (fun μ99 => some μ99))))))))
      (fun J51 => eq_ v13 0
      (bd_ (f_X2_hasUrn μ v4) (fun v35 => eq_ v35 0
      (J51 μ)
      (wr_ μ 4 24 v4 0 (fun μ50 => J51 μ50))))
      (bd_ (f_X2_free μ v4) (fun μ24 => J51 μ24)))))
set_option maxHeartbeats 4000000 in
set_option maxRecDepth 100000 in
theorem c_X10_sweepNext {G : gp_} {ad : Nat → Nat} (μ : mu_T)  (μr : mu_T) (h : f_X10_sweepNext μ  = some μr) : mv_ yX10_sweepNext cX10_sweepNext 2 ({ frames := 2, cells := 0, slots := 0, locals := 44 } : Room) G 151 ad (ceX G ad) [.ref (ad 135)] μ μr := by
  refine mv_in (own := "UrnHeap$Sexton") (lv := [(0, .ref (ad 135))]) (by decide) rfl rfl (Nat.le_of_ble_eq_true rfl) (fun X C E => ?_)
  unfold f_X10_sweepNext at h
  refine xx_aload_n C 1 rfl 0 dX10_sweepNext_0 rfl rfl ?_
  refine xx_getr (fi := 0) C 4 rfl (by decide) (ceX_135 _ _ _) rfl in_X10 (by decide) rfl w_208 dX10_sweepNext_1 ?_
  refine xx_geti (fi := 10) (j := 10) C 7 rfl (by decide) (ceX_0 _ _ _) rfl in_X2 (by decide) rfl w_120 dX10_sweepNext_4 h (fun v4 h => ?_)
  refine xx_istore_n (lv1 := [(1, .int (iI v4)), (0, .ref (ad 135))]) C 8 rfl (by decide) dX10_sweepNext_7 rfl rfl ?_
  refine xx_aload_n C 9 rfl 1 dX10_sweepNext_8 rfl rfl ?_
  refine xx_getr (fi := 0) C 12 rfl (by decide) (ceX_135 _ _ _) rfl in_X10 (by decide) rfl w_208 dX10_sweepNext_9 ?_
  refine xx_iload_n C 13 rfl 0 dX10_sweepNext_12 rfl rfl ?_
  refine xx_cVip (As := [.int (iI v4)]) (st := []) (o := 0) C 16 rfl (by decide) (ceX_0 _ _ _) rfl rfl ca_X2_isWhite cv_X2_isWhite w_569 rfl ⟨Nat.le_of_ble_eq_true rfl, Nat.le_of_ble_eq_true rfl⟩ ⟨Nat.le_of_ble_eq_true rfl, Nat.le_of_ble_eq_true rfl⟩ (Nat.le_of_ble_eq_true rfl) dX10_sweepNext_13 (fun v13 e9 => c_X2_isWhite _ _ v13 e9) h (fun v13 h => ?_) rfl
  refine jn_r (fun J => ∀ (μ51 : mu_T), J μ51 = some μr → wx_ G X 151 ad (ceX G ad) μ51 0 0 51 [(0, .ref (ad 135)), (1, .int (iI v4))] []) h (fun μ51 h => ?_) (fun J51 K51 h => ?_)
  · refine xx_aload_n C 52 rfl 0 dX10_sweepNext_51 rfl rfl ?_
    refine xx_getr (fi := 0) C 55 rfl (by decide) (ceX_135 _ _ _) rfl in_X10 (by decide) rfl w_208 dX10_sweepNext_52 ?_
    refine xx_iload_n C 56 rfl 1 dX10_sweepNext_55 rfl rfl ?_
    refine xx_iconst C 57 rfl dX10_sweepNext_56 ?_
    refine xx_iadd C 58 rfl dX10_sweepNext_57 ?_
    refine xx_puti (fi := 10) (j := 10) C 61 rfl (by decide) (ceX_0 _ _ _) (puX_0_10 _ _ _ _) rfl in_X2 tyX2 tyX2_ok nmX2 (by decide) (Nat.le_of_ble_eq_true rfl) ⟨rfl, rfl⟩ w_120 dX10_sweepNext_58 h (fun μ58 h => ?_)
    refine xx_aload_n C 62 rfl 0 dX10_sweepNext_61 rfl rfl ?_
    refine xx_getr (fi := 0) C 65 rfl (by decide) (ceX_135 _ _ _) rfl in_X10 (by decide) rfl w_208 dX10_sweepNext_62 ?_
    refine xx_geti (fi := 10) (j := 10) C 68 rfl (by decide) (ceX_0 _ _ _) rfl in_X2 (by decide) rfl w_120 dX10_sweepNext_65 h (fun v65 h => ?_)
    refine xx_bipush C 70 rfl dX10_sweepNext_68 (by decide) ?_
    refine xx_icmp_lt (tgt := 102) C 73 rfl dX10_sweepNext_70 (by decide) h (fun h => ?_) (fun h => ?_)
    · exact xx_vret C E rfl ⟨Nat.le_of_ble_eq_true rfl, Nat.le_of_ble_eq_true rfl⟩ dX10_sweepNext_102 h
    · refine xx_aload_n C 74 rfl 0 dX10_sweepNext_73 rfl rfl ?_
      refine xx_getr (fi := 0) C 77 rfl (by decide) (ceX_135 _ _ _) rfl in_X10 (by decide) rfl w_208 dX10_sweepNext_74 ?_
      refine xx_iconst C 78 rfl dX10_sweepNext_77 ?_
      refine xx_puti (fi := 10) (j := 10) C 81 rfl (by decide) (ceX_0 _ _ _) (puX_0_10 _ _ _ _) rfl in_X2 tyX2 tyX2_ok nmX2 (by decide) (Nat.le_of_ble_eq_true rfl) ⟨rfl, rfl⟩ w_120 dX10_sweepNext_78 h (fun μ78 h => ?_)
      refine xx_aload_n C 82 rfl 0 dX10_sweepNext_81 rfl rfl ?_
      refine xx_getr (fi := 0) C 85 rfl (by decide) (ceX_135 _ _ _) rfl in_X10 (by decide) rfl w_208 dX10_sweepNext_82 ?_
      refine xx_iconst C 86 rfl dX10_sweepNext_85 ?_
      refine xx_puti (fi := 9) (j := 9) C 89 rfl (by decide) (ceX_0 _ _ _) (puX_0_9 _ _ _ _) rfl in_X2 tyX2 tyX2_ok nmX2 (by decide) (Nat.le_of_ble_eq_true rfl) ⟨rfl, rfl⟩ w_115 dX10_sweepNext_86 h (fun μ86 h => ?_)
      refine xx_aload_n C 90 rfl 0 dX10_sweepNext_89 rfl rfl ?_
      refine xx_getr (fi := 0) C 93 rfl (by decide) (ceX_135 _ _ _) rfl in_X10 (by decide) rfl w_208 dX10_sweepNext_90 ?_
      refine xx_dup C 94 rfl dX10_sweepNext_93 rfl ?_
      refine xx_geti (fi := 11) (j := 11) C 97 rfl (by decide) (ceX_0 _ _ _) rfl in_X2 (by decide) rfl w_124 dX10_sweepNext_94 h (fun v94 h => ?_)
      refine xx_iconst C 98 rfl dX10_sweepNext_97 ?_
      refine xx_iadd C 99 rfl dX10_sweepNext_98 ?_
      refine xx_puti (fi := 11) (j := 11) C 102 rfl (by decide) (ceX_0 _ _ _) (puX_0_11 _ _ _ _) rfl in_X2 tyX2 tyX2_ok nmX2 (by decide) (Nat.le_of_ble_eq_true rfl) ⟨rfl, rfl⟩ w_124 dX10_sweepNext_99 h (fun μ99 h => ?_)
      exact xx_vret C E rfl ⟨Nat.le_of_ble_eq_true rfl, Nat.le_of_ble_eq_true rfl⟩ dX10_sweepNext_102 h
  · refine xx_if_eq (tgt := 30) C 19 rfl dX10_sweepNext_16 (by decide) h (fun h => ?_) (fun h => ?_)
    · refine xx_aload_n C 31 rfl 1 dX10_sweepNext_30 rfl rfl ?_
      refine xx_getr (fi := 0) C 34 rfl (by decide) (ceX_135 _ _ _) rfl in_X10 (by decide) rfl w_208 dX10_sweepNext_31 ?_
      refine xx_iload_n C 35 rfl 0 dX10_sweepNext_34 rfl rfl ?_
      refine xx_cVip (As := [.int (iI v4)]) (st := []) (o := 0) C 38 rfl (by decide) (ceX_0 _ _ _) rfl rfl ca_X2_hasUrn cv_X2_hasUrn w_578 rfl ⟨Nat.le_of_ble_eq_true rfl, Nat.le_of_ble_eq_true rfl⟩ ⟨Nat.le_of_ble_eq_true rfl, Nat.le_of_ble_eq_true rfl⟩ (Nat.le_of_ble_eq_true rfl) dX10_sweepNext_35 (fun v35 e9 => c_X2_hasUrn _ _ v35 e9) h (fun v35 h => ?_) rfl
      refine xx_if_eq (tgt := 51) C 41 rfl dX10_sweepNext_38 (by decide) h (fun h => ?_) (fun h => ?_)
      · refine xx_sub [1, 0] rfl ?_
        exact K51 μ h
      · refine xx_aload_n C 42 rfl 1 dX10_sweepNext_41 rfl rfl ?_
        refine xx_getr (fi := 0) C 45 rfl (by decide) (ceX_135 _ _ _) rfl in_X10 (by decide) rfl w_208 dX10_sweepNext_42 ?_
        refine xx_getr (fi := 3) C 48 rfl (by decide) (ceX_0 _ _ _) rfl in_X2 (by decide) rfl w_97 dX10_sweepNext_45 ?_
        refine xx_iload_n C 49 rfl 0 dX10_sweepNext_48 rfl rfl ?_
        refine xx_iconst C 50 rfl dX10_sweepNext_49 ?_
        refine xx_iastore C 51 rfl (by decide) (fun row => ceX_4 _ _ row) (by decide) dX10_sweepNext_50 h (fun μ50 h => ?_)
        refine xx_sub [1, 0] rfl ?_
        exact K51 μ50 h
    · refine xx_aload_n C 20 rfl 1 dX10_sweepNext_19 rfl rfl ?_
      refine xx_getr (fi := 0) C 23 rfl (by decide) (ceX_135 _ _ _) rfl in_X10 (by decide) rfl w_208 dX10_sweepNext_20 ?_
      refine xx_iload_n C 24 rfl 0 dX10_sweepNext_23 rfl rfl ?_
      refine xx_cVv (As := [.int (iI v4)]) (st := []) (o := 0) C 27 rfl (by decide) (ceX_0 _ _ _) rfl rfl ca_X2_free cv_X2_free w_570 rfl ⟨Nat.le_of_ble_eq_true rfl, Nat.le_of_ble_eq_true rfl⟩ ⟨Nat.le_of_ble_eq_true rfl, Nat.le_of_ble_eq_true rfl⟩ (Nat.le_of_ble_eq_true rfl) dX10_sweepNext_24 (fun μ24 e9 => c_X2_free _ _ μ24 e9) h (fun μ24 h => ?_) rfl
      refine xx_goto C 51 dX10_sweepNext_27 (by decide) ?_
      refine xx_sub [1, 0] rfl ?_
      exact K51 μ24 h

def f_X10_doPartsUntilOver_L2 (a1 : Int) : Nat → Int → mu_T → Option (Int × mu_T)
  | 0, _, _ => none
  | fu2 + 1, x2_2, μ2 => lt_ x2_2 a1
      (nm_ (μ2 0 9) (fun v11 => eq_ v11 0
      (some (x2_2, μ2))
      (nm_ (μ2 0 9) (fun v21 => jn_ (φ := mu_T → Option (Int × mu_T)) (fun μ66 => nm_ (μ66 0 16) (fun v71 => wf_ μ66 0 16 (v71 + 1) (fun μ76 => nm_ (x2_2 + 1) (fun n79 => (f_X10_doPartsUntilOver_L2 a1 fu2) n79 μ76))))
      (fun J66 => eq_ v21 2
      (bd_ (f_X10_sweepNext μ2) (fun μ29 => J66 μ29))
      (nm_ (μ2 8 1) (fun v42 => lt_ 0 v42
      (bd_ (f_X10_blackenFirst μ2) (fun μ49 => J66 μ49))
      (bp_ (f_X10_makeRitesDue μ2) (fun v56 μ56 => eq_ v56 0
      (bd_ (f_X10_beginSweep μ56) (fun μ63 => J66 μ63))
      (J66 μ56))))))))))
      (some (x2_2, μ2))
def f_X10_doPartsUntilOver (μ : mu_T) (a1 : Int) : Option (Int × mu_T) :=
  f_X10_doPartsUntilOver_L2 a1 20000 0 μ
set_option maxHeartbeats 4000000 in
set_option maxRecDepth 100000 in
theorem c_X10_doPartsUntilOver {G : gp_} {ad : Nat → Nat} (μ : mu_T) (a1 : Int) (a : Int) (μr : mu_T) (h : f_X10_doPartsUntilOver μ a1 = some (a, μr)) : mi_ yX10_doPartsUntilOver cX10_doPartsUntilOver 3 (some .int) ({ frames := 3, cells := 0, slots := 0, locals := 65 } : Room) G 151 ad (ceX G ad) [.ref (ad 135), .int (iI a1)] μ a μr := by
  refine mi_in (own := "UrnHeap$Sexton") (lv := [(0, .ref (ad 135)), (1, .int (iI a1))]) (by decide) rfl rfl (Nat.le_of_ble_eq_true rfl) (fun X C E => ?_)
  unfold f_X10_doPartsUntilOver at h
  refine xx_iconst C 1 rfl dX10_doPartsUntilOver_0 ?_
  refine xx_istore_n (lv1 := [(2, .int (iI 0)), (0, .ref (ad 135)), (1, .int (iI a1))]) C 2 rfl (by decide) dX10_doPartsUntilOver_1 rfl rfl ?_
  have L2 : ∀ (fu2 : Nat) (x2_2 : Int) (μ2 : mu_T), f_X10_doPartsUntilOver_L2 a1 fu2 x2_2 μ2 = some (a, μr) → wx_ G X 151 ad (ceX G ad) μ2 0 0 2 [(0, .ref (ad 135)), (1, .int (iI a1)), (2, .int (iI x2_2))] [] := by
    intro fu2
    induction fu2 with
    | zero => intro x2_2 μ2 h; exact nn_ h
    | succ fu2 K2 =>
      intro x2_2 μ2 h
      rw [f_X10_doPartsUntilOver_L2] at h
      generalize f_X10_doPartsUntilOver_L2 a1 fu2 = R2 at K2 h
      refine xx_iload_n C 3 rfl 2 dX10_doPartsUntilOver_2 rfl rfl ?_
      refine xx_iload_n C 4 rfl 1 dX10_doPartsUntilOver_3 rfl rfl ?_
      refine xx_icmp_ge (tgt := 85) C 7 rfl dX10_doPartsUntilOver_4 (by decide) h (fun h => ?_) (fun h => ?_)
      · refine xx_iload_n C 86 rfl 2 dX10_doPartsUntilOver_85 rfl rfl ?_
        exact xx_iret C E rfl ⟨Nat.le_of_ble_eq_true rfl, Nat.le_of_ble_eq_true rfl⟩ dX10_doPartsUntilOver_86 h
      · refine xx_aload_n C 8 rfl 0 dX10_doPartsUntilOver_7 rfl rfl ?_
        refine xx_getr (fi := 0) C 11 rfl (by decide) (ceX_135 _ _ _) rfl in_X10 (by decide) rfl w_208 dX10_doPartsUntilOver_8 ?_
        refine xx_geti (fi := 9) (j := 9) C 14 rfl (by decide) (ceX_0 _ _ _) rfl in_X2 (by decide) rfl w_115 dX10_doPartsUntilOver_11 h (fun v11 h => ?_)
        refine xx_if_eq (tgt := 85) C 17 rfl dX10_doPartsUntilOver_14 (by decide) h (fun h => ?_) (fun h => ?_)
        · refine xx_iload_n C 86 rfl 2 dX10_doPartsUntilOver_85 rfl rfl ?_
          exact xx_iret C E rfl ⟨Nat.le_of_ble_eq_true rfl, Nat.le_of_ble_eq_true rfl⟩ dX10_doPartsUntilOver_86 h
        · refine xx_aload_n C 18 rfl 0 dX10_doPartsUntilOver_17 rfl rfl ?_
          refine xx_getr (fi := 0) C 21 rfl (by decide) (ceX_135 _ _ _) rfl in_X10 (by decide) rfl w_208 dX10_doPartsUntilOver_18 ?_
          refine xx_geti (fi := 9) (j := 9) C 24 rfl (by decide) (ceX_0 _ _ _) rfl in_X2 (by decide) rfl w_115 dX10_doPartsUntilOver_21 h (fun v21 h => ?_)
          refine xx_iconst C 25 rfl dX10_doPartsUntilOver_24 ?_
          refine jn_r (fun J => ∀ (μ66 : mu_T), J μ66 = some (a, μr) → wx_ G X 151 ad (ceX G ad) μ66 0 0 66 [(0, .ref (ad 135)), (1, .int (iI a1)), (2, .int (iI x2_2))] []) h (fun μ66 h => ?_) (fun J66 K66 h => ?_)
          · refine xx_aload_n C 67 rfl 0 dX10_doPartsUntilOver_66 rfl rfl ?_
            refine xx_getr (fi := 0) C 70 rfl (by decide) (ceX_135 _ _ _) rfl in_X10 (by decide) rfl w_208 dX10_doPartsUntilOver_67 ?_
            refine xx_dup C 71 rfl dX10_doPartsUntilOver_70 rfl ?_
            refine xx_geti (fi := 16) (j := 16) C 74 rfl (by decide) (ceX_0 _ _ _) rfl in_X2 (by decide) rfl w_139 dX10_doPartsUntilOver_71 h (fun v71 h => ?_)
            refine xx_iconst C 75 rfl dX10_doPartsUntilOver_74 ?_
            refine xx_iadd C 76 rfl dX10_doPartsUntilOver_75 ?_
            refine xx_puti (fi := 16) (j := 16) C 79 rfl (by decide) (ceX_0 _ _ _) (puX_0_16 _ _ _ _) rfl in_X2 tyX2 tyX2_ok nmX2 (by decide) (Nat.le_of_ble_eq_true rfl) ⟨rfl, rfl⟩ w_139 dX10_doPartsUntilOver_76 h (fun μ76 h => ?_)
            refine xx_iincn C 82 rfl 2 (by decide) dX10_doPartsUntilOver_79 rfl h (fun n79 h => ?_)
            refine xx_lv (lv1 := [(2, .int (iI n79)), (0, .ref (ad 135)), (1, .int (iI a1))]) rfl ?_
            refine xx_goto C 2 dX10_doPartsUntilOver_82 (by decide) ?_
            refine xx_sub [1, 2, 0] rfl ?_
            exact K2 n79 μ76 h
          · refine xx_icmp_ne (tgt := 35) C 28 rfl dX10_doPartsUntilOver_25 (by decide) h (fun h => ?_) (fun h => ?_)
            · refine xx_aload_n C 36 rfl 0 dX10_doPartsUntilOver_35 rfl rfl ?_
              refine xx_getr (fi := 0) C 39 rfl (by decide) (ceX_135 _ _ _) rfl in_X10 (by decide) rfl w_208 dX10_doPartsUntilOver_36 ?_
              refine xx_getr (fi := 7) C 42 rfl (by decide) (ceX_0 _ _ _) rfl in_X2 (by decide) rfl w_109 dX10_doPartsUntilOver_39 ?_
              refine xx_geti (fi := 1) (j := 1) C 45 rfl (by decide) (ceX_8 _ _ _) rfl in_X9 (by decide) rfl w_72 dX10_doPartsUntilOver_42 h (fun v42 h => ?_)
              refine xx_if_le (tgt := 55) C 48 rfl dX10_doPartsUntilOver_45 (by decide) h (fun h => ?_) (fun h => ?_)
              · refine xx_aload_n C 56 rfl 0 dX10_doPartsUntilOver_55 rfl rfl ?_
                refine xx_cVi (As := []) (st := []) (o := 135) C 59 rfl (by decide) (ceX_135 _ _ _) rfl rfl ca_X10_makeRitesDue cv_X10_makeRitesDue w_589 rfl ⟨Nat.le_of_ble_eq_true rfl, Nat.le_of_ble_eq_true rfl⟩ ⟨Nat.le_of_ble_eq_true rfl, Nat.le_of_ble_eq_true rfl⟩ (Nat.le_of_ble_eq_true rfl) dX10_doPartsUntilOver_56 (fun v56 μ56 e9 => c_X10_makeRitesDue _ v56 μ56 e9) h (fun v56 μ56 h => ?_) rfl
                refine xx_if_ne (tgt := 66) C 62 rfl dX10_doPartsUntilOver_59 (by decide) h (fun h => ?_) (fun h => ?_)
                · exact K66 μ56 h
                · refine xx_aload_n C 63 rfl 0 dX10_doPartsUntilOver_62 rfl rfl ?_
                  refine xx_cVv (As := []) (st := []) (o := 135) C 66 rfl (by decide) (ceX_135 _ _ _) rfl rfl ca_X10_beginSweep cv_X10_beginSweep w_594 rfl ⟨Nat.le_of_ble_eq_true rfl, Nat.le_of_ble_eq_true rfl⟩ ⟨Nat.le_of_ble_eq_true rfl, Nat.le_of_ble_eq_true rfl⟩ (Nat.le_of_ble_eq_true rfl) dX10_doPartsUntilOver_63 (fun μ63 e9 => c_X10_beginSweep _ μ63 e9) h (fun μ63 h => ?_) rfl
                  exact K66 μ63 h
              · refine xx_aload_n C 49 rfl 0 dX10_doPartsUntilOver_48 rfl rfl ?_
                refine xx_cVv (As := []) (st := []) (o := 135) C 52 rfl (by decide) (ceX_135 _ _ _) rfl rfl ca_X10_blackenFirst cv_X10_blackenFirst w_579 rfl ⟨Nat.le_of_ble_eq_true rfl, Nat.le_of_ble_eq_true rfl⟩ ⟨Nat.le_of_ble_eq_true rfl, Nat.le_of_ble_eq_true rfl⟩ (Nat.le_of_ble_eq_true rfl) dX10_doPartsUntilOver_49 (fun μ49 e9 => c_X10_blackenFirst _ μ49 e9) h (fun μ49 h => ?_) rfl
                refine xx_goto C 66 dX10_doPartsUntilOver_52 (by decide) ?_
                exact K66 μ49 h
            · refine xx_aload_n C 29 rfl 0 dX10_doPartsUntilOver_28 rfl rfl ?_
              refine xx_cVv (As := []) (st := []) (o := 135) C 32 rfl (by decide) (ceX_135 _ _ _) rfl rfl ca_X10_sweepNext cv_X10_sweepNext w_565 rfl ⟨Nat.le_of_ble_eq_true rfl, Nat.le_of_ble_eq_true rfl⟩ ⟨Nat.le_of_ble_eq_true rfl, Nat.le_of_ble_eq_true rfl⟩ (Nat.le_of_ble_eq_true rfl) dX10_doPartsUntilOver_29 (fun μ29 e9 => c_X10_sweepNext _ μ29 e9) h (fun μ29 h => ?_) rfl
              refine xx_goto C 66 dX10_doPartsUntilOver_32 (by decide) ?_
              exact K66 μ29 h
  refine xx_sub [1, 2, 0] rfl ?_
  exact L2 _ _ _ h

def f_X10_doParts (μ : mu_T) (a1 : Int) : Option (Int × mu_T) :=
  lt_ a1 1
      (some ((-12), μ))
      (lt_ 99 a1
      (some ((-12), μ))
      (nm_ (μ 0 9) (fun v18 => eq_ v18 0
      (nm_ (μ 0 11) (fun v33 => bp_ (f_X8_refuse μ 5 v33) (fun v36 μ36 => some (v36, μ36))))
      (bp_ (f_X10_doPartsUntilOver μ a1) (fun v42 μ42 => some (v42, μ42))))))
set_option maxHeartbeats 4000000 in
set_option maxRecDepth 100000 in
theorem c_X10_doParts {G : gp_} {ad : Nat → Nat} (μ : mu_T) (a1 : Int) (a : Int) (μr : mu_T) (h : f_X10_doParts μ a1 = some (a, μr)) : mi_ yX10_doParts cX10_doParts 2 (some .int) ({ frames := 4, cells := 0, slots := 0, locals := 87 } : Room) G 151 ad (ceX G ad) [.ref (ad 135), .int (iI a1)] μ a μr := by
  refine mi_in (own := "UrnHeap$Sexton") (lv := [(0, .ref (ad 135)), (1, .int (iI a1))]) (by decide) rfl rfl (Nat.le_of_ble_eq_true rfl) (fun X C E => ?_)
  unfold f_X10_doParts at h
  refine xx_iload_n C 1 rfl 1 dX10_doParts_0 rfl rfl ?_
  refine xx_iconst C 2 rfl dX10_doParts_1 ?_
  refine xx_icmp_lt (tgt := 11) C 5 rfl dX10_doParts_2 (by decide) h (fun h => ?_) (fun h => ?_)
  · refine xx_bipush C 13 rfl dX10_doParts_11 (by decide) ?_
    exact xx_iret C E rfl ⟨Nat.le_of_ble_eq_true rfl, Nat.le_of_ble_eq_true rfl⟩ dX10_doParts_13 h
  · refine xx_iload_n C 6 rfl 1 dX10_doParts_5 rfl rfl ?_
    refine xx_bipush C 8 rfl dX10_doParts_6 (by decide) ?_
    refine xx_icmp_le (tgt := 14) C 11 rfl dX10_doParts_8 (by decide) h (fun h => ?_) (fun h => ?_)
    · refine xx_aload_n C 15 rfl 0 dX10_doParts_14 rfl rfl ?_
      refine xx_getr (fi := 0) C 18 rfl (by decide) (ceX_135 _ _ _) rfl in_X10 (by decide) rfl w_208 dX10_doParts_15 ?_
      refine xx_geti (fi := 9) (j := 9) C 21 rfl (by decide) (ceX_0 _ _ _) rfl in_X2 (by decide) rfl w_115 dX10_doParts_18 h (fun v18 h => ?_)
      refine xx_if_ne (tgt := 40) C 24 rfl dX10_doParts_21 (by decide) h (fun h => ?_) (fun h => ?_)
      · refine xx_aload_n C 41 rfl 0 dX10_doParts_40 rfl rfl ?_
        refine xx_iload_n C 42 rfl 1 dX10_doParts_41 rfl rfl ?_
        refine xx_cVi (As := [.int (iI a1)]) (st := []) (o := 135) C 45 rfl (by decide) (ceX_135 _ _ _) rfl rfl ca_X10_doPartsUntilOver cv_X10_doPartsUntilOver w_561 rfl ⟨Nat.le_of_ble_eq_true rfl, Nat.le_of_ble_eq_true rfl⟩ ⟨Nat.le_of_ble_eq_true rfl, Nat.le_of_ble_eq_true rfl⟩ (Nat.le_of_ble_eq_true rfl) dX10_doParts_42 (fun v42 μ42 e9 => c_X10_doPartsUntilOver _ _ v42 μ42 e9) h (fun v42 μ42 h => ?_) rfl
        exact xx_iret C E rfl ⟨Nat.le_of_ble_eq_true rfl, Nat.le_of_ble_eq_true rfl⟩ dX10_doParts_45 h
      · refine xx_aload_n C 25 rfl 0 dX10_doParts_24 rfl rfl ?_
        refine xx_getr (fi := 1) C 28 rfl (by decide) (ceX_135 _ _ _) rfl in_X10 (by decide) rfl w_209 dX10_doParts_25 ?_
        refine xx_iconst C 29 rfl dX10_doParts_28 ?_
        refine xx_aload_n C 30 rfl 0 dX10_doParts_29 rfl rfl ?_
        refine xx_getr (fi := 0) C 33 rfl (by decide) (ceX_135 _ _ _) rfl in_X10 (by decide) rfl w_208 dX10_doParts_30 ?_
        refine xx_geti (fi := 11) (j := 11) C 36 rfl (by decide) (ceX_0 _ _ _) rfl in_X2 (by decide) rfl w_124 dX10_doParts_33 h (fun v33 h => ?_)
        refine xx_cVi (As := [.int (iI 5), .int (iI v33)]) (st := []) (o := 133) C 39 rfl (by decide) (ceX_133 _ _ _) rfl rfl ca_X8_refuse cv_X8_refuse w_543 rfl ⟨Nat.le_of_ble_eq_true rfl, Nat.le_of_ble_eq_true rfl⟩ ⟨Nat.le_of_ble_eq_true rfl, Nat.le_of_ble_eq_true rfl⟩ (Nat.le_of_ble_eq_true rfl) dX10_doParts_36 (fun v36 μ36 e9 => c_X8_refuse _ _ _ v36 μ36 e9) h (fun v36 μ36 h => ?_) rfl
        exact xx_iret C E rfl ⟨Nat.le_of_ble_eq_true rfl, Nat.le_of_ble_eq_true rfl⟩ dX10_doParts_39 h
    · refine xx_bipush C 13 rfl dX10_doParts_11 (by decide) ?_
      exact xx_iret C E rfl ⟨Nat.le_of_ble_eq_true rfl, Nat.le_of_ble_eq_true rfl⟩ dX10_doParts_13 h

def f_X10_endRound (μ : mu_T)  : Option (Int × mu_T) :=
  nm_ (μ 0 9) (fun v4 => jn_ (φ := mu_T → Option (Int × mu_T)) (fun μ14 => nm_ (μ14 0 13) (fun v18 => bp_ (f_X10_doPartsUntilOver μ14 99) (fun v25 μ25 => nm_ (μ25 0 13) (fun v33 => some ((v33 - v18), μ25)))))
      (fun J14 => eq_ v4 0
      (bd_ (f_X10_markRoots μ) (fun μ11 => J14 μ11))
      (J14 μ)))
set_option maxHeartbeats 4000000 in
set_option maxRecDepth 100000 in
theorem c_X10_endRound {G : gp_} {ad : Nat → Nat} (μ : mu_T)  (a : Int) (μr : mu_T) (h : f_X10_endRound μ  = some (a, μr)) : mi_ yX10_endRound cX10_endRound 2 (some .int) ({ frames := 4, cells := 0, slots := 0, locals := 87 } : Room) G 151 ad (ceX G ad) [.ref (ad 135)] μ a μr := by
  refine mi_in (own := "UrnHeap$Sexton") (lv := [(0, .ref (ad 135))]) (by decide) rfl rfl (Nat.le_of_ble_eq_true rfl) (fun X C E => ?_)
  unfold f_X10_endRound at h
  refine xx_aload_n C 1 rfl 0 dX10_endRound_0 rfl rfl ?_
  refine xx_getr (fi := 0) C 4 rfl (by decide) (ceX_135 _ _ _) rfl in_X10 (by decide) rfl w_208 dX10_endRound_1 ?_
  refine xx_geti (fi := 9) (j := 9) C 7 rfl (by decide) (ceX_0 _ _ _) rfl in_X2 (by decide) rfl w_115 dX10_endRound_4 h (fun v4 h => ?_)
  refine jn_r (fun J => ∀ (μ14 : mu_T), J μ14 = some (a, μr) → wx_ G X 151 ad (ceX G ad) μ14 0 0 14 [(0, .ref (ad 135))] []) h (fun μ14 h => ?_) (fun J14 K14 h => ?_)
  · refine xx_aload_n C 15 rfl 0 dX10_endRound_14 rfl rfl ?_
    refine xx_getr (fi := 0) C 18 rfl (by decide) (ceX_135 _ _ _) rfl in_X10 (by decide) rfl w_208 dX10_endRound_15 ?_
    refine xx_geti (fi := 13) (j := 13) C 21 rfl (by decide) (ceX_0 _ _ _) rfl in_X2 (by decide) rfl w_130 dX10_endRound_18 h (fun v18 h => ?_)
    refine xx_istore_n (lv1 := [(1, .int (iI v18)), (0, .ref (ad 135))]) C 22 rfl (by decide) dX10_endRound_21 rfl rfl ?_
    refine xx_aload_n C 23 rfl 1 dX10_endRound_22 rfl rfl ?_
    refine xx_bipush C 25 rfl dX10_endRound_23 (by decide) ?_
    refine xx_cVi (As := [.int (iI 99)]) (st := []) (o := 135) C 28 rfl (by decide) (ceX_135 _ _ _) rfl rfl ca_X10_doPartsUntilOver cv_X10_doPartsUntilOver w_561 rfl ⟨Nat.le_of_ble_eq_true rfl, Nat.le_of_ble_eq_true rfl⟩ ⟨Nat.le_of_ble_eq_true rfl, Nat.le_of_ble_eq_true rfl⟩ (Nat.le_of_ble_eq_true rfl) dX10_endRound_25 (fun v25 μ25 e9 => c_X10_doPartsUntilOver _ _ v25 μ25 e9) h (fun v25 μ25 h => ?_) rfl
    refine xx_pop C 29 rfl dX10_endRound_28 rfl ?_
    refine xx_aload_n C 30 rfl 1 dX10_endRound_29 rfl rfl ?_
    refine xx_getr (fi := 0) C 33 rfl (by decide) (ceX_135 _ _ _) rfl in_X10 (by decide) rfl w_208 dX10_endRound_30 ?_
    refine xx_geti (fi := 13) (j := 13) C 36 rfl (by decide) (ceX_0 _ _ _) rfl in_X2 (by decide) rfl w_130 dX10_endRound_33 h (fun v33 h => ?_)
    refine xx_iload_n C 37 rfl 0 dX10_endRound_36 rfl rfl ?_
    refine xx_isub C 38 rfl dX10_endRound_37 ?_
    exact xx_iret C E rfl ⟨Nat.le_of_ble_eq_true rfl, Nat.le_of_ble_eq_true rfl⟩ dX10_endRound_38 h
  · refine xx_if_ne (tgt := 14) C 10 rfl dX10_endRound_7 (by decide) h (fun h => ?_) (fun h => ?_)
    · exact K14 μ h
    · refine xx_aload_n C 11 rfl 0 dX10_endRound_10 rfl rfl ?_
      refine xx_cVv (As := []) (st := []) (o := 135) C 14 rfl (by decide) (ceX_135 _ _ _) rfl rfl ca_X10_markRoots cv_X10_markRoots w_544 rfl ⟨Nat.le_of_ble_eq_true rfl, Nat.le_of_ble_eq_true rfl⟩ ⟨Nat.le_of_ble_eq_true rfl, Nat.le_of_ble_eq_true rfl⟩ (Nat.le_of_ble_eq_true rfl) dX10_endRound_11 (fun μ11 e9 => c_X10_markRoots _ μ11 e9) h (fun μ11 h => ?_) rfl
      exact K14 μ11 h

def f_X9_takeFirst_o10 (μ : mu_T)  : Option (Int × mu_T) :=
  nm_ (μ 10 1) (fun v1 => lt_ 0 v1
      (rd_ μ 11 24 0 (fun v15 => nm_ (μ 10 1) (fun v19 => wf_ μ 10 1 (v19 - 1) (fun μ24 => nm_ (μ24 10 1) (fun v38 => ac_ μ24 11 24 1 11 24 0 v38 (fun μ41 => some (v15, μ41)))))))
      (some ((-15), μ)))
set_option maxHeartbeats 4000000 in
set_option maxRecDepth 100000 in
theorem c_X9_takeFirst_o10 {G : gp_} {ad : Nat → Nat} (μ : mu_T)  (a : Int) (μr : mu_T) (h : f_X9_takeFirst_o10 μ  = some (a, μr)) : mi_ yX9_takeFirst cX9_takeFirst 2 (some .int) ({ frames := 1, cells := 0, slots := 0, locals := 18 } : Room) G 151 ad (ceX G ad) [.ref (ad 10)] μ a μr := by
  refine mi_in (own := "UrnHeap$Row") (lv := [(0, .ref (ad 10))]) (by decide) rfl rfl (Nat.le_of_ble_eq_true rfl) (fun X C E => ?_)
  unfold f_X9_takeFirst_o10 at h
  refine xx_aload_n C 1 rfl 0 dX9_takeFirst_0 rfl rfl ?_
  refine xx_geti (fi := 1) (j := 1) C 4 rfl (by decide) (ceX_10 _ _ _) rfl in_X9 (by decide) rfl w_71 dX9_takeFirst_1 h (fun v1 h => ?_)
  refine xx_if_gt (tgt := 10) C 7 rfl dX9_takeFirst_4 (by decide) h (fun h => ?_) (fun h => ?_)
  · refine xx_aload_n C 11 rfl 0 dX9_takeFirst_10 rfl rfl ?_
    refine xx_getr (fi := 0) C 14 rfl (by decide) (ceX_10 _ _ _) rfl in_X9 (by decide) rfl w_70 dX9_takeFirst_11 ?_
    refine xx_iconst C 15 rfl dX9_takeFirst_14 ?_
    refine xx_iaload C 16 rfl (by decide) (fun row => ceX_11 _ _ row) (by decide) dX9_takeFirst_15 h (fun v15 h => ?_)
    refine xx_istore_n (lv1 := [(1, .int (iI v15)), (0, .ref (ad 10))]) C 17 rfl (by decide) dX9_takeFirst_16 rfl rfl ?_
    refine xx_aload_n C 18 rfl 1 dX9_takeFirst_17 rfl rfl ?_
    refine xx_dup C 19 rfl dX9_takeFirst_18 rfl ?_
    refine xx_geti (fi := 1) (j := 1) C 22 rfl (by decide) (ceX_10 _ _ _) rfl in_X9 (by decide) rfl w_71 dX9_takeFirst_19 h (fun v19 h => ?_)
    refine xx_iconst C 23 rfl dX9_takeFirst_22 ?_
    refine xx_isub C 24 rfl dX9_takeFirst_23 ?_
    refine xx_puti (fi := 1) (j := 1) C 27 rfl (by decide) (ceX_10 _ _ _) (puX_10_1 _ _ _ _) rfl in_X9 tyX9 tyX9_ok nmX9 (by decide) (Nat.le_of_ble_eq_true rfl) ⟨rfl, rfl⟩ w_71 dX9_takeFirst_24 h (fun μ24 h => ?_)
    refine xx_aload_n C 28 rfl 1 dX9_takeFirst_27 rfl rfl ?_
    refine xx_getr (fi := 0) C 31 rfl (by decide) (ceX_10 _ _ _) rfl in_X9 (by decide) rfl w_70 dX9_takeFirst_28 ?_
    refine xx_iconst C 32 rfl dX9_takeFirst_31 ?_
    refine xx_aload_n C 33 rfl 1 dX9_takeFirst_32 rfl rfl ?_
    refine xx_getr (fi := 0) C 36 rfl (by decide) (ceX_10 _ _ _) rfl in_X9 (by decide) rfl w_70 dX9_takeFirst_33 ?_
    refine xx_iconst C 37 rfl dX9_takeFirst_36 ?_
    refine xx_aload_n C 38 rfl 1 dX9_takeFirst_37 rfl rfl ?_
    refine xx_geti (fi := 1) (j := 1) C 41 rfl (by decide) (ceX_10 _ _ _) rfl in_X9 (by decide) rfl w_71 dX9_takeFirst_38 h (fun v38 h => ?_)
    refine xx_acopy C 44 rfl (by decide) (fun row => ceX_11 _ _ row) (by decide) (fun row => ceX_11 _ _ row) (by decide) ⟨w_426, w_421, w_420, w_40⟩ ⟨Nat.le_of_ble_eq_true rfl, Nat.le_of_ble_eq_true rfl⟩ dX9_takeFirst_41 h (fun μ41 h => ?_)
    refine xx_iload_n C 45 rfl 0 dX9_takeFirst_44 rfl rfl ?_
    exact xx_iret C E rfl ⟨Nat.le_of_ble_eq_true rfl, Nat.le_of_ble_eq_true rfl⟩ dX9_takeFirst_45 h
  · refine xx_bipush C 9 rfl dX9_takeFirst_7 (by decide) ?_
    exact xx_iret C E rfl ⟨Nat.le_of_ble_eq_true rfl, Nat.le_of_ble_eq_true rfl⟩ dX9_takeFirst_9 h

def f_X10_doRite (μ : mu_T)  : Option (Int × mu_T) :=
  bp_ (f_X9_takeFirst_o10 μ) (fun v7 μ7 => bd_ (f_X11_isCell μ7 v7) (fun v12 => eq_ v12 0
      (nm_ (μ7 0 14) (fun v28 => bp_ (f_X8_refuse μ7 6 v28) (fun v31 μ31 => some (v31, μ31))))
      (wr_ μ7 3 24 v7 0 (fun μ44 => nm_ (μ44 0 14) (fun v50 => wf_ μ44 0 14 (v50 + 1) (fun μ55 => some (v7, μ55)))))))
set_option maxHeartbeats 4000000 in
set_option maxRecDepth 100000 in
theorem c_X10_doRite {G : gp_} {ad : Nat → Nat} (μ : mu_T)  (a : Int) (μr : mu_T) (h : f_X10_doRite μ  = some (a, μr)) : mi_ yX10_doRite cX10_doRite 2 (some .int) ({ frames := 2, cells := 0, slots := 0, locals := 39 } : Room) G 151 ad (ceX G ad) [.ref (ad 135)] μ a μr := by
  refine mi_in (own := "UrnHeap$Sexton") (lv := [(0, .ref (ad 135))]) (by decide) rfl rfl (Nat.le_of_ble_eq_true rfl) (fun X C E => ?_)
  unfold f_X10_doRite at h
  refine xx_aload_n C 1 rfl 0 dX10_doRite_0 rfl rfl ?_
  refine xx_getr (fi := 0) C 4 rfl (by decide) (ceX_135 _ _ _) rfl in_X10 (by decide) rfl w_208 dX10_doRite_1 ?_
  refine xx_getr (fi := 8) C 7 rfl (by decide) (ceX_0 _ _ _) rfl in_X2 (by decide) rfl w_112 dX10_doRite_4 ?_
  refine xx_cVi (As := []) (st := []) (o := 10) C 10 rfl (by decide) (ceX_10 _ _ _) rfl rfl ca_X9_takeFirst cv_X9_takeFirst w_583 rfl ⟨Nat.le_of_ble_eq_true rfl, Nat.le_of_ble_eq_true rfl⟩ ⟨Nat.le_of_ble_eq_true rfl, Nat.le_of_ble_eq_true rfl⟩ (Nat.le_of_ble_eq_true rfl) dX10_doRite_7 (fun v7 μ7 e9 => c_X9_takeFirst_o10 _ v7 μ7 e9) h (fun v7 μ7 h => ?_) rfl
  refine xx_istore_n (lv1 := [(1, .int (iI v7)), (0, .ref (ad 135))]) C 11 rfl (by decide) dX10_doRite_10 rfl rfl ?_
  refine xx_iload_n C 12 rfl 0 dX10_doRite_11 rfl rfl ?_
  refine xx_cNip (As := [.int (iI v7)]) (st := []) C 15 rfl  ca_X11_isCell cs_X11_isCell 8 rfl rfl ⟨Nat.le_of_ble_eq_true rfl, Nat.le_of_ble_eq_true rfl⟩ ⟨Nat.le_of_ble_eq_true rfl, Nat.le_of_ble_eq_true rfl⟩ (Nat.le_of_ble_eq_true rfl) dX10_doRite_12 (fun v12 e9 => c_X11_isCell _ _ v12 e9) h (fun v12 h => ?_) rfl
  refine xx_if_ne (tgt := 35) C 18 rfl dX10_doRite_15 (by decide) h (fun h => ?_) (fun h => ?_)
  · refine xx_aload_n C 36 rfl 1 dX10_doRite_35 rfl rfl ?_
    refine xx_getr (fi := 0) C 39 rfl (by decide) (ceX_135 _ _ _) rfl in_X10 (by decide) rfl w_208 dX10_doRite_36 ?_
    refine xx_getr (fi := 2) C 42 rfl (by decide) (ceX_0 _ _ _) rfl in_X2 (by decide) rfl w_92 dX10_doRite_39 ?_
    refine xx_iload_n C 43 rfl 0 dX10_doRite_42 rfl rfl ?_
    refine xx_iconst C 44 rfl dX10_doRite_43 ?_
    refine xx_iastore C 45 rfl (by decide) (fun row => ceX_3 _ _ row) (by decide) dX10_doRite_44 h (fun μ44 h => ?_)
    refine xx_aload_n C 46 rfl 1 dX10_doRite_45 rfl rfl ?_
    refine xx_getr (fi := 0) C 49 rfl (by decide) (ceX_135 _ _ _) rfl in_X10 (by decide) rfl w_208 dX10_doRite_46 ?_
    refine xx_dup C 50 rfl dX10_doRite_49 rfl ?_
    refine xx_geti (fi := 14) (j := 14) C 53 rfl (by decide) (ceX_0 _ _ _) rfl in_X2 (by decide) rfl w_133 dX10_doRite_50 h (fun v50 h => ?_)
    refine xx_iconst C 54 rfl dX10_doRite_53 ?_
    refine xx_iadd C 55 rfl dX10_doRite_54 ?_
    refine xx_puti (fi := 14) (j := 14) C 58 rfl (by decide) (ceX_0 _ _ _) (puX_0_14 _ _ _ _) rfl in_X2 tyX2 tyX2_ok nmX2 (by decide) (Nat.le_of_ble_eq_true rfl) ⟨rfl, rfl⟩ w_133 dX10_doRite_55 h (fun μ55 h => ?_)
    refine xx_iload_n C 59 rfl 0 dX10_doRite_58 rfl rfl ?_
    exact xx_iret C E rfl ⟨Nat.le_of_ble_eq_true rfl, Nat.le_of_ble_eq_true rfl⟩ dX10_doRite_59 h
  · refine xx_aload_n C 19 rfl 1 dX10_doRite_18 rfl rfl ?_
    refine xx_getr (fi := 1) C 22 rfl (by decide) (ceX_135 _ _ _) rfl in_X10 (by decide) rfl w_209 dX10_doRite_19 ?_
    refine xx_bipush C 24 rfl dX10_doRite_22 (by decide) ?_
    refine xx_aload_n C 25 rfl 1 dX10_doRite_24 rfl rfl ?_
    refine xx_getr (fi := 0) C 28 rfl (by decide) (ceX_135 _ _ _) rfl in_X10 (by decide) rfl w_208 dX10_doRite_25 ?_
    refine xx_geti (fi := 14) (j := 14) C 31 rfl (by decide) (ceX_0 _ _ _) rfl in_X2 (by decide) rfl w_133 dX10_doRite_28 h (fun v28 h => ?_)
    refine xx_cVi (As := [.int (iI 6), .int (iI v28)]) (st := []) (o := 133) C 34 rfl (by decide) (ceX_133 _ _ _) rfl rfl ca_X8_refuse cv_X8_refuse w_543 rfl ⟨Nat.le_of_ble_eq_true rfl, Nat.le_of_ble_eq_true rfl⟩ ⟨Nat.le_of_ble_eq_true rfl, Nat.le_of_ble_eq_true rfl⟩ (Nat.le_of_ble_eq_true rfl) dX10_doRite_31 (fun v31 μ31 e9 => c_X8_refuse _ _ _ v31 μ31 e9) h (fun v31 μ31 h => ?_) rfl
    exact xx_iret C E rfl ⟨Nat.le_of_ble_eq_true rfl, Nat.le_of_ble_eq_true rfl⟩ dX10_doRite_34 h

def f_X11_urn (μ : mu_T) (a1 : Int) : Option (Int × mu_T) :=
  bd_ (f_X3_keepBefore μ) (fun μ4 => bp_ (f_X1_makeUrn μ4 a1) (fun v16 μ16 => bp_ (f_X3_settle μ16 v16) (fun v19 μ19 => some (v19, μ19))))
set_option maxHeartbeats 4000000 in
set_option maxRecDepth 100000 in
theorem c_X11_urn {G : gp_} {ad : Nat → Nat} (μ : mu_T) (a1 : Int) (a : Int) (μr : mu_T) (h : f_X11_urn μ a1 = some (a, μr)) : mi_ yX11_urn cX11_urn 2 (some .int) ({ frames := 4, cells := 0, slots := 0, locals := 81 } : Room) G 151 ad (ceX G ad) [.ref (ad 132), .int (iI a1)] μ a μr := by
  refine mi_in (own := "UrnHeap") (lv := [(0, .ref (ad 132)), (1, .int (iI a1))]) (by decide) rfl rfl (Nat.le_of_ble_eq_true rfl) (fun X C E => ?_)
  unfold f_X11_urn at h
  refine xx_aload_n C 1 rfl 0 dX11_urn_0 rfl rfl ?_
  refine xx_getr (fi := 5) C 4 rfl (by decide) (ceX_132 _ _ _) rfl in_X11 (by decide) rfl w_345 dX11_urn_1 ?_
  refine xx_cVv (As := []) (st := []) (o := 138) C 7 rfl (by decide) (ceX_138 _ _ _) rfl rfl ca_X3_keepBefore cv_X3_keepBefore w_407 rfl ⟨Nat.le_of_ble_eq_true rfl, Nat.le_of_ble_eq_true rfl⟩ ⟨Nat.le_of_ble_eq_true rfl, Nat.le_of_ble_eq_true rfl⟩ (Nat.le_of_ble_eq_true rfl) dX11_urn_4 (fun μ4 e9 => c_X3_keepBefore _ μ4 e9) h (fun μ4 h => ?_) rfl
  refine xx_aload_n C 8 rfl 0 dX11_urn_7 rfl rfl ?_
  refine xx_getr (fi := 5) C 11 rfl (by decide) (ceX_132 _ _ _) rfl in_X11 (by decide) rfl w_345 dX11_urn_8 ?_
  refine xx_aload_n C 12 rfl 0 dX11_urn_11 rfl rfl ?_
  refine xx_getr (fi := 2) C 15 rfl (by decide) (ceX_132 _ _ _) rfl in_X11 (by decide) rfl w_342 dX11_urn_12 ?_
  refine xx_iload_n C 16 rfl 1 dX11_urn_15 rfl rfl ?_
  refine xx_cVi (As := [.int (iI a1)]) (st := [.ref (ad 138)]) (o := 134) C 19 rfl (by decide) (ceX_134 _ _ _) rfl rfl ca_X1_makeUrn cv_X1_makeUrn w_427 rfl ⟨Nat.le_of_ble_eq_true rfl, Nat.le_of_ble_eq_true rfl⟩ ⟨Nat.le_of_ble_eq_true rfl, Nat.le_of_ble_eq_true rfl⟩ (Nat.le_of_ble_eq_true rfl) dX11_urn_16 (fun v16 μ16 e9 => c_X1_makeUrn _ _ v16 μ16 e9) h (fun v16 μ16 h => ?_) rfl
  refine xx_cVi (As := [.int (iI v16)]) (st := []) (o := 138) C 22 rfl (by decide) (ceX_138 _ _ _) rfl rfl ca_X3_settle cv_X3_settle w_443 rfl ⟨Nat.le_of_ble_eq_true rfl, Nat.le_of_ble_eq_true rfl⟩ ⟨Nat.le_of_ble_eq_true rfl, Nat.le_of_ble_eq_true rfl⟩ (Nat.le_of_ble_eq_true rfl) dX11_urn_19 (fun v19 μ19 e9 => c_X3_settle _ _ v19 μ19 e9) h (fun v19 μ19 h => ?_) rfl
  exact xx_iret C E rfl ⟨Nat.le_of_ble_eq_true rfl, Nat.le_of_ble_eq_true rfl⟩ dX11_urn_22 h

