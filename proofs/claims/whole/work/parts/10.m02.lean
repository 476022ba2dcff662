theorem dX12_sweeps_0 : decode cX12_sweeps 0 = .ok (.aload_n 0, 1) := by decide +kernel
theorem dX12_sweeps_1 : decode cX12_sweeps 1 = .ok (.getfield 7, 3) := by decide +kernel
theorem dX12_sweeps_4 : decode cX12_sweeps 4 = .ok (.iconst 1, 1) := by decide +kernel
theorem dX12_sweeps_5 : decode cX12_sweeps 5 = .ok (.iaload, 1) := by decide +kernel
theorem dX12_sweeps_6 : decode cX12_sweeps 6 = .ok (.istore_n 1, 1) := by decide +kernel
theorem dX12_sweeps_7 : decode cX12_sweeps 7 = .ok (.aload_n 0, 1) := by decide +kernel
theorem dX12_sweeps_8 : decode cX12_sweeps 8 = .ok (.getfield 7, 3) := by decide +kernel
theorem dX12_sweeps_11 : decode cX12_sweeps 11 = .ok (.bipush 17, 2) := by decide +kernel
theorem dX12_sweeps_13 : decode cX12_sweeps 13 = .ok (.iload_n 1, 1) := by decide +kernel
theorem dX12_sweeps_14 : decode cX12_sweeps 14 = .ok (.iadd, 1) := by decide +kernel
theorem dX12_sweeps_15 : decode cX12_sweeps 15 = .ok (.iaload, 1) := by decide +kernel
theorem dX12_sweeps_16 : decode cX12_sweeps 16 = .ok (.iconst 1, 1) := by decide +kernel
theorem dX12_sweeps_17 : decode cX12_sweeps 17 = .ok (.if_icmp .ne 23, 3) := by decide +kernel
theorem dX12_sweeps_20 : decode cX12_sweeps 20 = .ok (.aload_n 0, 1) := by decide +kernel
theorem dX12_sweeps_21 : decode cX12_sweeps 21 = .ok (.getfield 7, 3) := by decide +kernel
theorem dX12_sweeps_24 : decode cX12_sweeps 24 = .ok (.bipush 41, 2) := by decide +kernel
theorem dX12_sweeps_26 : decode cX12_sweeps 26 = .ok (.iload_n 1, 1) := by decide +kernel
theorem dX12_sweeps_27 : decode cX12_sweeps 27 = .ok (.iadd, 1) := by decide +kernel
theorem dX12_sweeps_28 : decode cX12_sweeps 28 = .ok (.iaload, 1) := by decide +kernel
theorem dX12_sweeps_29 : decode cX12_sweeps 29 = .ok (.ifCond .ne 11, 3) := by decide +kernel
theorem dX12_sweeps_32 : decode cX12_sweeps 32 = .ok (.aload_n 0, 1) := by decide +kernel
theorem dX12_sweeps_33 : decode cX12_sweeps 33 = .ok (.iload_n 1, 1) := by decide +kernel
theorem dX12_sweeps_34 : decode cX12_sweeps 34 = .ok (.invokevirtual 72, 3) := by decide +kernel
theorem dX12_sweeps_37 : decode cX12_sweeps 37 = .ok (.goto 13, 3) := by decide +kernel
theorem dX12_sweeps_40 : decode cX12_sweeps 40 = .ok (.aload_n 0, 1) := by decide +kernel
theorem dX12_sweeps_41 : decode cX12_sweeps 41 = .ok (.getfield 7, 3) := by decide +kernel
theorem dX12_sweeps_44 : decode cX12_sweeps 44 = .ok (.bipush 41, 2) := by decide +kernel
theorem dX12_sweeps_46 : decode cX12_sweeps 46 = .ok (.iload_n 1, 1) := by decide +kernel
theorem dX12_sweeps_47 : decode cX12_sweeps 47 = .ok (.iadd, 1) := by decide +kernel
theorem dX12_sweeps_48 : decode cX12_sweeps 48 = .ok (.iconst 0, 1) := by decide +kernel
theorem dX12_sweeps_49 : decode cX12_sweeps 49 = .ok (.iastore, 1) := by decide +kernel
theorem dX12_sweeps_50 : decode cX12_sweeps 50 = .ok (.aload_n 0, 1) := by decide +kernel
theorem dX12_sweeps_51 : decode cX12_sweeps 51 = .ok (.getfield 7, 3) := by decide +kernel
theorem dX12_sweeps_54 : decode cX12_sweeps 54 = .ok (.iconst 1, 1) := by decide +kernel
theorem dX12_sweeps_55 : decode cX12_sweeps 55 = .ok (.dup2, 1) := by decide +kernel
theorem dX12_sweeps_56 : decode cX12_sweeps 56 = .ok (.iaload, 1) := by decide +kernel
theorem dX12_sweeps_57 : decode cX12_sweeps 57 = .ok (.iconst 1, 1) := by decide +kernel
theorem dX12_sweeps_58 : decode cX12_sweeps 58 = .ok (.iadd, 1) := by decide +kernel
theorem dX12_sweeps_59 : decode cX12_sweeps 59 = .ok (.iastore, 1) := by decide +kernel
theorem dX12_sweeps_60 : decode cX12_sweeps 60 = .ok (.aload_n 0, 1) := by decide +kernel
theorem dX12_sweeps_61 : decode cX12_sweeps 61 = .ok (.getfield 7, 3) := by decide +kernel
theorem dX12_sweeps_64 : decode cX12_sweeps 64 = .ok (.iconst 1, 1) := by decide +kernel
theorem dX12_sweeps_65 : decode cX12_sweeps 65 = .ok (.iaload, 1) := by decide +kernel
theorem dX12_sweeps_66 : decode cX12_sweeps 66 = .ok (.bipush 24, 2) := by decide +kernel
theorem dX12_sweeps_68 : decode cX12_sweeps 68 = .ok (.if_icmp .ge 4, 3) := by decide +kernel
theorem dX12_sweeps_71 : decode cX12_sweeps 71 = .ok (.return_, 1) := by decide +kernel
theorem dX12_sweeps_72 : decode cX12_sweeps 72 = .ok (.aload_n 0, 1) := by decide +kernel
theorem dX12_sweeps_73 : decode cX12_sweeps 73 = .ok (.getfield 7, 3) := by decide +kernel
theorem dX12_sweeps_76 : decode cX12_sweeps 76 = .ok (.iconst 0, 1) := by decide +kernel
theorem dX12_sweeps_77 : decode cX12_sweeps 77 = .ok (.iconst 0, 1) := by decide +kernel
theorem dX12_sweeps_78 : decode cX12_sweeps 78 = .ok (.iastore, 1) := by decide +kernel
theorem dX12_sweeps_79 : decode cX12_sweeps 79 = .ok (.aload_n 0, 1) := by decide +kernel
theorem dX12_sweeps_80 : decode cX12_sweeps 80 = .ok (.getfield 7, 3) := by decide +kernel
theorem dX12_sweeps_83 : decode cX12_sweeps 83 = .ok (.iconst 1, 1) := by decide +kernel
theorem dX12_sweeps_84 : decode cX12_sweeps 84 = .ok (.iconst 0, 1) := by decide +kernel
theorem dX12_sweeps_85 : decode cX12_sweeps 85 = .ok (.iastore, 1) := by decide +kernel
theorem dX12_sweeps_86 : decode cX12_sweeps 86 = .ok (.aload_n 0, 1) := by decide +kernel
theorem dX12_sweeps_87 : decode cX12_sweeps 87 = .ok (.getfield 7, 3) := by decide +kernel
theorem dX12_sweeps_90 : decode cX12_sweeps 90 = .ok (.iconst 2, 1) := by decide +kernel
theorem dX12_sweeps_91 : decode cX12_sweeps 91 = .ok (.dup2, 1) := by decide +kernel
theorem dX12_sweeps_92 : decode cX12_sweeps 92 = .ok (.iaload, 1) := by decide +kernel
theorem dX12_sweeps_93 : decode cX12_sweeps 93 = .ok (.iconst 1, 1) := by decide +kernel
theorem dX12_sweeps_94 : decode cX12_sweeps 94 = .ok (.iadd, 1) := by decide +kernel
theorem dX12_sweeps_95 : decode cX12_sweeps 95 = .ok (.iastore, 1) := by decide +kernel
theorem dX12_sweeps_96 : decode cX12_sweeps 96 = .ok (.return_, 1) := by decide +kernel
theorem dX12_part_0 : decode cX12_part 0 = .ok (.aload_n 0, 1) := by decide +kernel
theorem dX12_part_1 : decode cX12_part 1 = .ok (.getfield 7, 3) := by decide +kernel
theorem dX12_part_4 : decode cX12_part 4 = .ok (.bipush 7, 2) := by decide +kernel
theorem dX12_part_6 : decode cX12_part 6 = .ok (.dup2, 1) := by decide +kernel
theorem dX12_part_7 : decode cX12_part 7 = .ok (.iaload, 1) := by decide +kernel
theorem dX12_part_8 : decode cX12_part 8 = .ok (.iconst 1, 1) := by decide +kernel
theorem dX12_part_9 : decode cX12_part 9 = .ok (.iadd, 1) := by decide +kernel
theorem dX12_part_10 : decode cX12_part 10 = .ok (.iastore, 1) := by decide +kernel
theorem dX12_part_11 : decode cX12_part 11 = .ok (.aload_n 0, 1) := by decide +kernel
theorem dX12_part_12 : decode cX12_part 12 = .ok (.getfield 7, 3) := by decide +kernel
theorem dX12_part_15 : decode cX12_part 15 = .ok (.iconst 0, 1) := by decide +kernel
theorem dX12_part_16 : decode cX12_part 16 = .ok (.iaload, 1) := by decide +kernel
theorem dX12_part_17 : decode cX12_part 17 = .ok (.iconst 2, 1) := by decide +kernel
theorem dX12_part_18 : decode cX12_part 18 = .ok (.if_icmp .ne 10, 3) := by decide +kernel
theorem dX12_part_21 : decode cX12_part 21 = .ok (.aload_n 0, 1) := by decide +kernel
theorem dX12_part_22 : decode cX12_part 22 = .ok (.invokevirtual 75, 3) := by decide +kernel
theorem dX12_part_25 : decode cX12_part 25 = .ok (.goto 31, 3) := by decide +kernel
theorem dX12_part_28 : decode cX12_part 28 = .ok (.aload_n 0, 1) := by decide +kernel
theorem dX12_part_29 : decode cX12_part 29 = .ok (.getfield 7, 3) := by decide +kernel
theorem dX12_part_32 : decode cX12_part 32 = .ok (.bipush 8, 2) := by decide +kernel
theorem dX12_part_34 : decode cX12_part 34 = .ok (.iaload, 1) := by decide +kernel
theorem dX12_part_35 : decode cX12_part 35 = .ok (.ifCond .le 10, 3) := by decide +kernel
theorem dX12_part_38 : decode cX12_part 38 = .ok (.aload_n 0, 1) := by decide +kernel
theorem dX12_part_39 : decode cX12_part 39 = .ok (.invokevirtual 78, 3) := by decide +kernel
theorem dX12_part_42 : decode cX12_part 42 = .ok (.goto 14, 3) := by decide +kernel
theorem dX12_part_45 : decode cX12_part 45 = .ok (.aload_n 0, 1) := by decide +kernel
theorem dX12_part_46 : decode cX12_part 46 = .ok (.invokevirtual 81, 3) := by decide +kernel
theorem dX12_part_49 : decode cX12_part 49 = .ok (.ifCond .ne 7, 3) := by decide +kernel
theorem dX12_part_52 : decode cX12_part 52 = .ok (.aload_n 0, 1) := by decide +kernel
theorem dX12_part_53 : decode cX12_part 53 = .ok (.invokevirtual 85, 3) := by decide +kernel
theorem dX12_part_56 : decode cX12_part 56 = .ok (.return_, 1) := by decide +kernel
theorem dX12_partsOn_0 : decode cX12_partsOn 0 = .ok (.iconst 0, 1) := by decide +kernel
theorem dX12_partsOn_1 : decode cX12_partsOn 1 = .ok (.istore_n 2, 1) := by decide +kernel
theorem dX12_partsOn_2 : decode cX12_partsOn 2 = .ok (.iload_n 2, 1) := by decide +kernel
theorem dX12_partsOn_3 : decode cX12_partsOn 3 = .ok (.iload_n 1, 1) := by decide +kernel
theorem dX12_partsOn_4 : decode cX12_partsOn 4 = .ok (.if_icmp .ge 22, 3) := by decide +kernel
theorem dX12_partsOn_7 : decode cX12_partsOn 7 = .ok (.aload_n 0, 1) := by decide +kernel
theorem dX12_partsOn_8 : decode cX12_partsOn 8 = .ok (.getfield 7, 3) := by decide +kernel
theorem dX12_partsOn_11 : decode cX12_partsOn 11 = .ok (.iconst 0, 1) := by decide +kernel
theorem dX12_partsOn_12 : decode cX12_partsOn 12 = .ok (.iaload, 1) := by decide +kernel
theorem dX12_partsOn_13 : decode cX12_partsOn 13 = .ok (.ifCond .le 13, 3) := by decide +kernel
theorem dX12_partsOn_16 : decode cX12_partsOn 16 = .ok (.aload_n 0, 1) := by decide +kernel
theorem dX12_partsOn_17 : decode cX12_partsOn 17 = .ok (.invokevirtual 88, 3) := by decide +kernel
theorem dX12_partsOn_20 : decode cX12_partsOn 20 = .ok (.iinc 2 1, 3) := by decide +kernel
theorem dX12_partsOn_23 : decode cX12_partsOn 23 = .ok (.goto (-21), 3) := by decide +kernel
theorem dX12_partsOn_26 : decode cX12_partsOn 26 = .ok (.iload_n 2, 1) := by decide +kernel
theorem dX12_partsOn_27 : decode cX12_partsOn 27 = .ok (.ireturn, 1) := by decide +kernel
theorem dX12_makes_0 : decode cX12_makes 0 = .ok (.iconst 0, 1) := by decide +kernel
theorem dX12_makes_1 : decode cX12_makes 1 = .ok (.istore_n 2, 1) := by decide +kernel
theorem dX12_makes_2 : decode cX12_makes 2 = .ok (.iload_n 2, 1) := by decide +kernel
theorem dX12_makes_3 : decode cX12_makes 3 = .ok (.bipush 24, 2) := by decide +kernel
theorem dX12_makes_5 : decode cX12_makes 5 = .ok (.if_icmp .ge 22, 3) := by decide +kernel
theorem dX12_makes_8 : decode cX12_makes 8 = .ok (.aload_n 0, 1) := by decide +kernel
theorem dX12_makes_9 : decode cX12_makes 9 = .ok (.getfield 7, 3) := by decide +kernel
theorem dX12_makes_12 : decode cX12_makes 12 = .ok (.bipush 17, 2) := by decide +kernel
theorem dX12_makes_14 : decode cX12_makes 14 = .ok (.iload_n 2, 1) := by decide +kernel
theorem dX12_makes_15 : decode cX12_makes 15 = .ok (.iadd, 1) := by decide +kernel
theorem dX12_makes_16 : decode cX12_makes 16 = .ok (.iaload, 1) := by decide +kernel
theorem dX12_makes_17 : decode cX12_makes 17 = .ok (.iconst 1, 1) := by decide +kernel
theorem dX12_makes_18 : decode cX12_makes 18 = .ok (.if_icmp .ne 9, 3) := by decide +kernel
theorem dX12_makes_21 : decode cX12_makes 21 = .ok (.iinc 2 1, 3) := by decide +kernel
theorem dX12_makes_24 : decode cX12_makes 24 = .ok (.goto (-22), 3) := by decide +kernel
theorem dX12_makes_27 : decode cX12_makes 27 = .ok (.iload_n 2, 1) := by decide +kernel
theorem dX12_makes_28 : decode cX12_makes 28 = .ok (.bipush 24, 2) := by decide +kernel
theorem dX12_makes_30 : decode cX12_makes 30 = .ok (.if_icmp .ne 11, 3) := by decide +kernel
theorem dX12_makes_33 : decode cX12_makes 33 = .ok (.aload_n 0, 1) := by decide +kernel
theorem dX12_makes_34 : decode cX12_makes 34 = .ok (.iconst 1, 1) := by decide +kernel
theorem dX12_makes_35 : decode cX12_makes 35 = .ok (.bipush 24, 2) := by decide +kernel
theorem dX12_makes_37 : decode cX12_makes 37 = .ok (.invokevirtual 91, 3) := by decide +kernel
theorem dX12_makes_40 : decode cX12_makes 40 = .ok (.ireturn, 1) := by decide +kernel
theorem dX12_makes_41 : decode cX12_makes 41 = .ok (.aload_n 0, 1) := by decide +kernel
theorem dX12_makes_42 : decode cX12_makes 42 = .ok (.getfield 7, 3) := by decide +kernel
theorem dX12_makes_45 : decode cX12_makes 45 = .ok (.bipush 17, 2) := by decide +kernel
theorem dX12_makes_47 : decode cX12_makes 47 = .ok (.iload_n 2, 1) := by decide +kernel
theorem dX12_makes_48 : decode cX12_makes 48 = .ok (.iadd, 1) := by decide +kernel
theorem dX12_makes_49 : decode cX12_makes 49 = .ok (.iconst 1, 1) := by decide +kernel
theorem dX12_makes_50 : decode cX12_makes 50 = .ok (.iastore, 1) := by decide +kernel
theorem dX12_makes_51 : decode cX12_makes 51 = .ok (.aload_n 0, 1) := by decide +kernel
theorem dX12_makes_52 : decode cX12_makes 52 = .ok (.getfield 7, 3) := by decide +kernel
theorem dX12_makes_55 : decode cX12_makes 55 = .ok (.bipush 65, 2) := by decide +kernel
theorem dX12_makes_57 : decode cX12_makes 57 = .ok (.iload_n 2, 1) := by decide +kernel
theorem dX12_makes_58 : decode cX12_makes 58 = .ok (.iadd, 1) := by decide +kernel
theorem dX12_makes_59 : decode cX12_makes 59 = .ok (.iload_n 1, 1) := by decide +kernel
theorem dX12_makes_60 : decode cX12_makes 60 = .ok (.ifCond .eq 7, 3) := by decide +kernel
theorem dX12_makes_63 : decode cX12_makes 63 = .ok (.iconst 1, 1) := by decide +kernel
theorem dX12_makes_64 : decode cX12_makes 64 = .ok (.goto 4, 3) := by decide +kernel
theorem dX12_makes_67 : decode cX12_makes 67 = .ok (.iconst 0, 1) := by decide +kernel
theorem dX12_makes_68 : decode cX12_makes 68 = .ok (.iastore, 1) := by decide +kernel
theorem dX12_makes_69 : decode cX12_makes 69 = .ok (.aload_n 0, 1) := by decide +kernel
theorem dX12_makes_70 : decode cX12_makes 70 = .ok (.getfield 7, 3) := by decide +kernel
theorem dX12_makes_73 : decode cX12_makes 73 = .ok (.bipush 89, 2) := by decide +kernel
theorem dX12_makes_75 : decode cX12_makes 75 = .ok (.iload_n 2, 1) := by decide +kernel
theorem dX12_makes_76 : decode cX12_makes 76 = .ok (.iadd, 1) := by decide +kernel
theorem dX12_makes_77 : decode cX12_makes 77 = .ok (.aload_n 0, 1) := by decide +kernel
theorem dX12_makes_78 : decode cX12_makes 78 = .ok (.getfield 7, 3) := by decide +kernel
theorem dX12_makes_81 : decode cX12_makes 81 = .ok (.iconst 2, 1) := by decide +kernel
theorem dX12_makes_82 : decode cX12_makes 82 = .ok (.iaload, 1) := by decide +kernel
theorem dX12_makes_83 : decode cX12_makes 83 = .ok (.iastore, 1) := by decide +kernel
theorem dX12_makes_84 : decode cX12_makes 84 = .ok (.aload_n 0, 1) := by decide +kernel
theorem dX12_makes_85 : decode cX12_makes 85 = .ok (.getfield 7, 3) := by decide +kernel
theorem dX12_makes_88 : decode cX12_makes 88 = .ok (.bipush 41, 2) := by decide +kernel
theorem dX12_makes_90 : decode cX12_makes 90 = .ok (.iload_n 2, 1) := by decide +kernel
theorem dX12_makes_91 : decode cX12_makes 91 = .ok (.iadd, 1) := by decide +kernel
theorem dX12_makes_92 : decode cX12_makes 92 = .ok (.aload_n 0, 1) := by decide +kernel
theorem dX12_makes_93 : decode cX12_makes 93 = .ok (.getfield 7, 3) := by decide +kernel
theorem dX12_makes_96 : decode cX12_makes 96 = .ok (.iconst 0, 1) := by decide +kernel
theorem dX12_makes_97 : decode cX12_makes 97 = .ok (.iaload, 1) := by decide +kernel
theorem dX12_makes_98 : decode cX12_makes 98 = .ok (.iconst 1, 1) := by decide +kernel
theorem dX12_makes_99 : decode cX12_makes 99 = .ok (.if_icmp .eq 23, 3) := by decide +kernel
theorem dX12_makes_102 : decode cX12_makes 102 = .ok (.aload_n 0, 1) := by decide +kernel
theorem dX12_makes_103 : decode cX12_makes 103 = .ok (.getfield 7, 3) := by decide +kernel
theorem dX12_makes_106 : decode cX12_makes 106 = .ok (.iconst 0, 1) := by decide +kernel
theorem dX12_makes_107 : decode cX12_makes 107 = .ok (.iaload, 1) := by decide +kernel
theorem dX12_makes_108 : decode cX12_makes 108 = .ok (.iconst 2, 1) := by decide +kernel
theorem dX12_makes_109 : decode cX12_makes 109 = .ok (.if_icmp .ne 17, 3) := by decide +kernel
theorem dX12_makes_112 : decode cX12_makes 112 = .ok (.iload_n 2, 1) := by decide +kernel
theorem dX12_makes_113 : decode cX12_makes 113 = .ok (.aload_n 0, 1) := by decide +kernel
theorem dX12_makes_114 : decode cX12_makes 114 = .ok (.getfield 7, 3) := by decide +kernel
theorem dX12_makes_117 : decode cX12_makes 117 = .ok (.iconst 1, 1) := by decide +kernel
theorem dX12_makes_118 : decode cX12_makes 118 = .ok (.iaload, 1) := by decide +kernel
theorem dX12_makes_119 : decode cX12_makes 119 = .ok (.if_icmp .lt 7, 3) := by decide +kernel
theorem dX12_makes_122 : decode cX12_makes 122 = .ok (.iconst 2, 1) := by decide +kernel
theorem dX12_makes_123 : decode cX12_makes 123 = .ok (.goto 4, 3) := by decide +kernel
theorem dX12_makes_126 : decode cX12_makes 126 = .ok (.iconst 0, 1) := by decide +kernel
theorem dX12_makes_127 : decode cX12_makes 127 = .ok (.iastore, 1) := by decide +kernel
theorem dX12_makes_128 : decode cX12_makes 128 = .ok (.aload_n 0, 1) := by decide +kernel
theorem dX12_makes_129 : decode cX12_makes 129 = .ok (.getfield 7, 3) := by decide +kernel
theorem dX12_makes_132 : decode cX12_makes 132 = .ok (.iconst 3, 1) := by decide +kernel
theorem dX12_makes_133 : decode cX12_makes 133 = .ok (.dup2, 1) := by decide +kernel
theorem dX12_makes_134 : decode cX12_makes 134 = .ok (.iaload, 1) := by decide +kernel
theorem dX12_makes_135 : decode cX12_makes 135 = .ok (.iconst 1, 1) := by decide +kernel
theorem dX12_makes_136 : decode cX12_makes 136 = .ok (.iadd, 1) := by decide +kernel
theorem dX12_makes_137 : decode cX12_makes 137 = .ok (.iastore, 1) := by decide +kernel
theorem dX12_makes_138 : decode cX12_makes 138 = .ok (.aload_n 0, 1) := by decide +kernel
theorem dX12_makes_139 : decode cX12_makes 139 = .ok (.iload_n 2, 1) := by decide +kernel
theorem dX12_makes_140 : decode cX12_makes 140 = .ok (.invokevirtual 94, 3) := by decide +kernel
theorem dX12_makes_143 : decode cX12_makes 143 = .ok (.ireturn, 1) := by decide +kernel
theorem dX12_ties_0 : decode cX12_ties 0 = .ok (.aload_n 0, 1) := by decide +kernel
theorem dX12_ties_1 : decode cX12_ties 1 = .ok (.iload_n 1, 1) := by decide +kernel
theorem dX12_ties_2 : decode cX12_ties 2 = .ok (.invokevirtual 97, 3) := by decide +kernel
theorem dX12_ties_5 : decode cX12_ties 5 = .ok (.ifCond .eq 20, 3) := by decide +kernel
theorem dX12_ties_8 : decode cX12_ties 8 = .ok (.iload_n 2, 1) := by decide +kernel
theorem dX12_ties_9 : decode cX12_ties 9 = .ok (.iconst 0, 1) := by decide +kernel
theorem dX12_ties_10 : decode cX12_ties 10 = .ok (.iconst 3, 1) := by decide +kernel
theorem dX12_ties_11 : decode cX12_ties 11 = .ok (.invokestatic 58, 3) := by decide +kernel
theorem dX12_ties_14 : decode cX12_ties 14 = .ok (.ifCond .eq 11, 3) := by decide +kernel
theorem dX12_ties_17 : decode cX12_ties 17 = .ok (.aload_n 0, 1) := by decide +kernel
theorem dX12_ties_18 : decode cX12_ties 18 = .ok (.iload_n 3, 1) := by decide +kernel
theorem dX12_ties_19 : decode cX12_ties 19 = .ok (.invokevirtual 97, 3) := by decide +kernel
theorem dX12_ties_22 : decode cX12_ties 22 = .ok (.ifCond .ne 6, 3) := by decide +kernel
theorem dX12_ties_25 : decode cX12_ties 25 = .ok (.bipush (-11), 2) := by decide +kernel
theorem dX12_ties_27 : decode cX12_ties 27 = .ok (.ireturn, 1) := by decide +kernel
theorem dX12_ties_28 : decode cX12_ties 28 = .ok (.aload_n 0, 1) := by decide +kernel
theorem dX12_ties_29 : decode cX12_ties 29 = .ok (.iload_n 1, 1) := by decide +kernel
theorem dX12_ties_30 : decode cX12_ties 30 = .ok (.invokevirtual 101, 3) := by decide +kernel
theorem dX12_ties_33 : decode cX12_ties 33 = .ok (.ifCond .eq 11, 3) := by decide +kernel
theorem dX12_ties_36 : decode cX12_ties 36 = .ok (.aload_n 0, 1) := by decide +kernel
theorem dX12_ties_37 : decode cX12_ties 37 = .ok (.bipush 7, 2) := by decide +kernel
theorem dX12_ties_39 : decode cX12_ties 39 = .ok (.iload_n 1, 1) := by decide +kernel
theorem dX12_ties_40 : decode cX12_ties 40 = .ok (.invokevirtual 91, 3) := by decide +kernel
theorem dX12_ties_43 : decode cX12_ties 43 = .ok (.ireturn, 1) := by decide +kernel
theorem dX12_ties_44 : decode cX12_ties 44 = .ok (.aload_n 0, 1) := by decide +kernel
theorem dX12_ties_45 : decode cX12_ties 45 = .ok (.iload_n 3, 1) := by decide +kernel
theorem dX12_ties_46 : decode cX12_ties 46 = .ok (.invokevirtual 101, 3) := by decide +kernel
theorem dX12_ties_49 : decode cX12_ties 49 = .ok (.ifCond .eq 11, 3) := by decide +kernel
theorem dX12_ties_52 : decode cX12_ties 52 = .ok (.aload_n 0, 1) := by decide +kernel
theorem dX12_ties_53 : decode cX12_ties 53 = .ok (.bipush 7, 2) := by decide +kernel
theorem dX12_ties_55 : decode cX12_ties 55 = .ok (.iload_n 3, 1) := by decide +kernel
theorem dX12_ties_56 : decode cX12_ties 56 = .ok (.invokevirtual 91, 3) := by decide +kernel
theorem dX12_ties_59 : decode cX12_ties 59 = .ok (.ireturn, 1) := by decide +kernel
theorem dX12_ties_60 : decode cX12_ties 60 = .ok (.aload_n 0, 1) := by decide +kernel
theorem dX12_ties_61 : decode cX12_ties 61 = .ok (.getfield 7, 3) := by decide +kernel
theorem dX12_ties_64 : decode cX12_ties 64 = .ok (.iload_n 1, 1) := by decide +kernel
theorem dX12_ties_65 : decode cX12_ties 65 = .ok (.iload_n 2, 1) := by decide +kernel
theorem dX12_ties_66 : decode cX12_ties 66 = .ok (.invokestatic 62, 3) := by decide +kernel
theorem dX12_ties_69 : decode cX12_ties 69 = .ok (.iaload, 1) := by decide +kernel
theorem dX12_ties_70 : decode cX12_ties 70 = .ok (.istore 4, 2) := by decide +kernel
theorem dX12_ties_72 : decode cX12_ties 72 = .ok (.aload_n 0, 1) := by decide +kernel
theorem dX12_ties_73 : decode cX12_ties 73 = .ok (.getfield 7, 3) := by decide +kernel
theorem dX12_ties_76 : decode cX12_ties 76 = .ok (.iload_n 1, 1) := by decide +kernel
theorem dX12_ties_77 : decode cX12_ties 77 = .ok (.iload_n 2, 1) := by decide +kernel
theorem dX12_ties_78 : decode cX12_ties 78 = .ok (.invokestatic 62, 3) := by decide +kernel
theorem dX12_ties_81 : decode cX12_ties 81 = .ok (.iload_n 3, 1) := by decide +kernel
theorem dX12_ties_82 : decode cX12_ties 82 = .ok (.iastore, 1) := by decide +kernel
theorem dX12_ties_83 : decode cX12_ties 83 = .ok (.aload_n 0, 1) := by decide +kernel
theorem dX12_ties_84 : decode cX12_ties 84 = .ok (.getfield 7, 3) := by decide +kernel
theorem dX12_ties_87 : decode cX12_ties 87 = .ok (.iconst 0, 1) := by decide +kernel
theorem dX12_ties_88 : decode cX12_ties 88 = .ok (.iaload, 1) := by decide +kernel
theorem dX12_ties_89 : decode cX12_ties 89 = .ok (.iconst 1, 1) := by decide +kernel
theorem dX12_ties_90 : decode cX12_ties 90 = .ok (.if_icmp .ne 21, 3) := by decide +kernel
theorem dX12_ties_93 : decode cX12_ties 93 = .ok (.aload_n 0, 1) := by decide +kernel
theorem dX12_ties_94 : decode cX12_ties 94 = .ok (.getfield 7, 3) := by decide +kernel
theorem dX12_ties_97 : decode cX12_ties 97 = .ok (.bipush 41, 2) := by decide +kernel
theorem dX12_ties_99 : decode cX12_ties 99 = .ok (.iload_n 1, 1) := by decide +kernel
theorem dX12_ties_100 : decode cX12_ties 100 = .ok (.iadd, 1) := by decide +kernel
theorem dX12_ties_101 : decode cX12_ties 101 = .ok (.iaload, 1) := by decide +kernel
theorem dX12_ties_102 : decode cX12_ties 102 = .ok (.iconst 2, 1) := by decide +kernel
theorem dX12_ties_103 : decode cX12_ties 103 = .ok (.if_icmp .ne 8, 3) := by decide +kernel
theorem dX12_ties_106 : decode cX12_ties 106 = .ok (.aload_n 0, 1) := by decide +kernel
theorem dX12_ties_107 : decode cX12_ties 107 = .ok (.iload_n 3, 1) := by decide +kernel
theorem dX12_ties_108 : decode cX12_ties 108 = .ok (.invokevirtual 69, 3) := by decide +kernel
theorem dX12_ties_111 : decode cX12_ties 111 = .ok (.aload_n 0, 1) := by decide +kernel
theorem dX12_ties_112 : decode cX12_ties 112 = .ok (.iload 4, 2) := by decide +kernel
theorem dX12_ties_114 : decode cX12_ties 114 = .ok (.invokevirtual 94, 3) := by decide +kernel
theorem dX12_ties_117 : decode cX12_ties 117 = .ok (.ireturn, 1) := by decide +kernel
theorem dX12_unties_0 : decode cX12_unties 0 = .ok (.aload_n 0, 1) := by decide +kernel
theorem dX12_unties_1 : decode cX12_unties 1 = .ok (.iload_n 1, 1) := by decide +kernel
theorem dX12_unties_2 : decode cX12_unties 2 = .ok (.invokevirtual 97, 3) := by decide +kernel
theorem dX12_unties_5 : decode cX12_unties 5 = .ok (.ifCond .eq 12, 3) := by decide +kernel
theorem dX12_unties_8 : decode cX12_unties 8 = .ok (.iload_n 2, 1) := by decide +kernel
theorem dX12_unties_9 : decode cX12_unties 9 = .ok (.iconst 0, 1) := by decide +kernel
theorem dX12_unties_10 : decode cX12_unties 10 = .ok (.iconst 3, 1) := by decide +kernel
theorem dX12_unties_11 : decode cX12_unties 11 = .ok (.invokestatic 58, 3) := by decide +kernel
theorem dX12_unties_14 : decode cX12_unties 14 = .ok (.ifCond .ne 6, 3) := by decide +kernel
theorem dX12_unties_17 : decode cX12_unties 17 = .ok (.bipush (-11), 2) := by decide +kernel
theorem dX12_unties_19 : decode cX12_unties 19 = .ok (.ireturn, 1) := by decide +kernel
theorem dX12_unties_20 : decode cX12_unties 20 = .ok (.aload_n 0, 1) := by decide +kernel
theorem dX12_unties_21 : decode cX12_unties 21 = .ok (.getfield 7, 3) := by decide +kernel
theorem dX12_unties_24 : decode cX12_unties 24 = .ok (.iload_n 1, 1) := by decide +kernel
theorem dX12_unties_25 : decode cX12_unties 25 = .ok (.iload_n 2, 1) := by decide +kernel
theorem dX12_unties_26 : decode cX12_unties 26 = .ok (.invokestatic 62, 3) := by decide +kernel
theorem dX12_unties_29 : decode cX12_unties 29 = .ok (.iaload, 1) := by decide +kernel
theorem dX12_unties_30 : decode cX12_unties 30 = .ok (.istore_n 3, 1) := by decide +kernel
theorem dX12_unties_31 : decode cX12_unties 31 = .ok (.iload_n 3, 1) := by decide +kernel
theorem dX12_unties_32 : decode cX12_unties 32 = .ok (.bipush (-15), 2) := by decide +kernel
theorem dX12_unties_34 : decode cX12_unties 34 = .ok (.if_icmp .ne 10, 3) := by decide +kernel
theorem dX12_unties_37 : decode cX12_unties 37 = .ok (.aload_n 0, 1) := by decide +kernel
theorem dX12_unties_38 : decode cX12_unties 38 = .ok (.iconst 2, 1) := by decide +kernel
theorem dX12_unties_39 : decode cX12_unties 39 = .ok (.iload_n 2, 1) := by decide +kernel
theorem dX12_unties_40 : decode cX12_unties 40 = .ok (.invokevirtual 91, 3) := by decide +kernel
theorem dX12_unties_43 : decode cX12_unties 43 = .ok (.ireturn, 1) := by decide +kernel
theorem dX12_unties_44 : decode cX12_unties 44 = .ok (.aload_n 0, 1) := by decide +kernel
theorem dX12_unties_45 : decode cX12_unties 45 = .ok (.getfield 7, 3) := by decide +kernel
theorem dX12_unties_48 : decode cX12_unties 48 = .ok (.iload_n 1, 1) := by decide +kernel
theorem dX12_unties_49 : decode cX12_unties 49 = .ok (.iload_n 2, 1) := by decide +kernel
theorem dX12_unties_50 : decode cX12_unties 50 = .ok (.invokestatic 62, 3) := by decide +kernel
theorem dX12_unties_53 : decode cX12_unties 53 = .ok (.bipush (-15), 2) := by decide +kernel
theorem dX12_unties_55 : decode cX12_unties 55 = .ok (.iastore, 1) := by decide +kernel
theorem dX12_unties_56 : decode cX12_unties 56 = .ok (.aload_n 0, 1) := by decide +kernel
theorem dX12_unties_57 : decode cX12_unties 57 = .ok (.iload_n 3, 1) := by decide +kernel
theorem dX12_unties_58 : decode cX12_unties 58 = .ok (.invokevirtual 94, 3) := by decide +kernel
theorem dX12_unties_61 : decode cX12_unties 61 = .ok (.ireturn, 1) := by decide +kernel
theorem dX12_weakens_0 : decode cX12_weakens 0 = .ok (.aload_n 0, 1) := by decide +kernel
theorem dX12_weakens_1 : decode cX12_weakens 1 = .ok (.iload_n 1, 1) := by decide +kernel
theorem dX12_weakens_2 : decode cX12_weakens 2 = .ok (.invokevirtual 97, 3) := by decide +kernel
theorem dX12_weakens_5 : decode cX12_weakens 5 = .ok (.ifCond .eq 11, 3) := by decide +kernel
theorem dX12_weakens_8 : decode cX12_weakens 8 = .ok (.aload_n 0, 1) := by decide +kernel
theorem dX12_weakens_9 : decode cX12_weakens 9 = .ok (.iload_n 2, 1) := by decide +kernel
theorem dX12_weakens_10 : decode cX12_weakens 10 = .ok (.invokevirtual 97, 3) := by decide +kernel
theorem dX12_weakens_13 : decode cX12_weakens 13 = .ok (.ifCond .ne 6, 3) := by decide +kernel
theorem dX12_weakens_16 : decode cX12_weakens 16 = .ok (.bipush (-11), 2) := by decide +kernel
theorem dX12_weakens_18 : decode cX12_weakens 18 = .ok (.ireturn, 1) := by decide +kernel
theorem dX12_weakens_19 : decode cX12_weakens 19 = .ok (.aload_n 0, 1) := by decide +kernel
theorem dX12_weakens_20 : decode cX12_weakens 20 = .ok (.iload_n 1, 1) := by decide +kernel
theorem dX12_weakens_21 : decode cX12_weakens 21 = .ok (.invokevirtual 101, 3) := by decide +kernel
theorem dX12_weakens_24 : decode cX12_weakens 24 = .ok (.ifCond .eq 11, 3) := by decide +kernel
theorem dX12_weakens_27 : decode cX12_weakens 27 = .ok (.aload_n 0, 1) := by decide +kernel
theorem dX12_weakens_28 : decode cX12_weakens 28 = .ok (.bipush 7, 2) := by decide +kernel
theorem dX12_weakens_30 : decode cX12_weakens 30 = .ok (.iload_n 1, 1) := by decide +kernel
theorem dX12_weakens_31 : decode cX12_weakens 31 = .ok (.invokevirtual 91, 3) := by decide +kernel
theorem dX12_weakens_34 : decode cX12_weakens 34 = .ok (.ireturn, 1) := by decide +kernel
theorem dX12_weakens_35 : decode cX12_weakens 35 = .ok (.aload_n 0, 1) := by decide +kernel
theorem dX12_weakens_36 : decode cX12_weakens 36 = .ok (.iload_n 2, 1) := by decide +kernel
theorem dX12_weakens_37 : decode cX12_weakens 37 = .ok (.invokevirtual 101, 3) := by decide +kernel
theorem dX12_weakens_40 : decode cX12_weakens 40 = .ok (.ifCond .eq 11, 3) := by decide +kernel
theorem dX12_weakens_43 : decode cX12_weakens 43 = .ok (.aload_n 0, 1) := by decide +kernel
theorem dX12_weakens_44 : decode cX12_weakens 44 = .ok (.bipush 7, 2) := by decide +kernel
theorem dX12_weakens_46 : decode cX12_weakens 46 = .ok (.iload_n 2, 1) := by decide +kernel
theorem dX12_weakens_47 : decode cX12_weakens 47 = .ok (.invokevirtual 91, 3) := by decide +kernel
theorem dX12_weakens_50 : decode cX12_weakens 50 = .ok (.ireturn, 1) := by decide +kernel
theorem dX12_weakens_51 : decode cX12_weakens 51 = .ok (.aload_n 0, 1) := by decide +kernel
theorem dX12_weakens_52 : decode cX12_weakens 52 = .ok (.getfield 7, 3) := by decide +kernel
theorem dX12_weakens_55 : decode cX12_weakens 55 = .ok (.bipush 113, 2) := by decide +kernel
theorem dX12_weakens_57 : decode cX12_weakens 57 = .ok (.iload_n 1, 1) := by decide +kernel
theorem dX12_weakens_58 : decode cX12_weakens 58 = .ok (.iadd, 1) := by decide +kernel
theorem dX12_weakens_59 : decode cX12_weakens 59 = .ok (.iaload, 1) := by decide +kernel
theorem dX12_weakens_60 : decode cX12_weakens 60 = .ok (.istore_n 3, 1) := by decide +kernel
theorem dX12_weakens_61 : decode cX12_weakens 61 = .ok (.aload_n 0, 1) := by decide +kernel
theorem dX12_weakens_62 : decode cX12_weakens 62 = .ok (.getfield 7, 3) := by decide +kernel
theorem dX12_weakens_65 : decode cX12_weakens 65 = .ok (.bipush 113, 2) := by decide +kernel
theorem dX12_weakens_67 : decode cX12_weakens 67 = .ok (.iload_n 1, 1) := by decide +kernel
theorem dX12_weakens_68 : decode cX12_weakens 68 = .ok (.iadd, 1) := by decide +kernel
theorem dX12_weakens_69 : decode cX12_weakens 69 = .ok (.iload_n 2, 1) := by decide +kernel
theorem dX12_weakens_70 : decode cX12_weakens 70 = .ok (.iastore, 1) := by decide +kernel
theorem dX12_weakens_71 : decode cX12_weakens 71 = .ok (.aload_n 0, 1) := by decide +kernel
theorem dX12_weakens_72 : decode cX12_weakens 72 = .ok (.iload_n 3, 1) := by decide +kernel
theorem dX12_weakens_73 : decode cX12_weakens 73 = .ok (.invokevirtual 94, 3) := by decide +kernel
theorem dX12_weakens_76 : decode cX12_weakens 76 = .ok (.ireturn, 1) := by decide +kernel
theorem dX12_names_0 : decode cX12_names 0 = .ok (.iload_n 1, 1) := by decide +kernel
theorem dX12_names_1 : decode cX12_names 1 = .ok (.iconst 0, 1) := by decide +kernel
theorem dX12_names_2 : decode cX12_names 2 = .ok (.iconst 5, 1) := by decide +kernel
theorem dX12_names_3 : decode cX12_names 3 = .ok (.invokestatic 58, 3) := by decide +kernel
theorem dX12_names_6 : decode cX12_names 6 = .ok (.ifCond .eq 11, 3) := by decide +kernel
theorem dX12_names_9 : decode cX12_names 9 = .ok (.aload_n 0, 1) := by decide +kernel
theorem dX12_names_10 : decode cX12_names 10 = .ok (.iload_n 2, 1) := by decide +kernel
theorem dX12_names_11 : decode cX12_names 11 = .ok (.invokevirtual 97, 3) := by decide +kernel
theorem dX12_names_14 : decode cX12_names 14 = .ok (.ifCond .ne 6, 3) := by decide +kernel
theorem dX12_names_17 : decode cX12_names 17 = .ok (.bipush (-11), 2) := by decide +kernel
theorem dX12_names_19 : decode cX12_names 19 = .ok (.ireturn, 1) := by decide +kernel
theorem dX12_names_20 : decode cX12_names 20 = .ok (.aload_n 0, 1) := by decide +kernel
theorem dX12_names_21 : decode cX12_names 21 = .ok (.iload_n 2, 1) := by decide +kernel
theorem dX12_names_22 : decode cX12_names 22 = .ok (.invokevirtual 101, 3) := by decide +kernel
theorem dX12_names_25 : decode cX12_names 25 = .ok (.ifCond .eq 11, 3) := by decide +kernel
theorem dX12_names_28 : decode cX12_names 28 = .ok (.aload_n 0, 1) := by decide +kernel
theorem dX12_names_29 : decode cX12_names 29 = .ok (.bipush 7, 2) := by decide +kernel
theorem dX12_names_31 : decode cX12_names 31 = .ok (.iload_n 2, 1) := by decide +kernel
theorem dX12_names_32 : decode cX12_names 32 = .ok (.invokevirtual 91, 3) := by decide +kernel
theorem dX12_names_35 : decode cX12_names 35 = .ok (.ireturn, 1) := by decide +kernel
theorem dX12_names_36 : decode cX12_names 36 = .ok (.aload_n 0, 1) := by decide +kernel
theorem dX12_names_37 : decode cX12_names 37 = .ok (.getfield 7, 3) := by decide +kernel
theorem dX12_names_40 : decode cX12_names 40 = .ok (.bipush 11, 2) := by decide +kernel
theorem dX12_names_42 : decode cX12_names 42 = .ok (.iload_n 1, 1) := by decide +kernel
theorem dX12_names_43 : decode cX12_names 43 = .ok (.iadd, 1) := by decide +kernel
theorem dX12_names_44 : decode cX12_names 44 = .ok (.iaload, 1) := by decide +kernel
theorem dX12_names_45 : decode cX12_names 45 = .ok (.istore_n 3, 1) := by decide +kernel
theorem dX12_names_46 : decode cX12_names 46 = .ok (.aload_n 0, 1) := by decide +kernel
theorem dX12_names_47 : decode cX12_names 47 = .ok (.getfield 7, 3) := by decide +kernel
theorem dX12_names_50 : decode cX12_names 50 = .ok (.bipush 11, 2) := by decide +kernel
theorem dX12_names_52 : decode cX12_names 52 = .ok (.iload_n 1, 1) := by decide +kernel
theorem dX12_names_53 : decode cX12_names 53 = .ok (.iadd, 1) := by decide +kernel
theorem dX12_names_54 : decode cX12_names 54 = .ok (.iload_n 2, 1) := by decide +kernel
theorem dX12_names_55 : decode cX12_names 55 = .ok (.iastore, 1) := by decide +kernel
theorem dX12_names_56 : decode cX12_names 56 = .ok (.aload_n 0, 1) := by decide +kernel
theorem dX12_names_57 : decode cX12_names 57 = .ok (.getfield 7, 3) := by decide +kernel
theorem dX12_names_60 : decode cX12_names 60 = .ok (.iconst 0, 1) := by decide +kernel
theorem dX12_names_61 : decode cX12_names 61 = .ok (.iaload, 1) := by decide +kernel
theorem dX12_names_62 : decode cX12_names 62 = .ok (.iconst 1, 1) := by decide +kernel
theorem dX12_names_63 : decode cX12_names 63 = .ok (.if_icmp .ne 8, 3) := by decide +kernel
theorem dX12_names_66 : decode cX12_names 66 = .ok (.aload_n 0, 1) := by decide +kernel
theorem dX12_names_67 : decode cX12_names 67 = .ok (.iload_n 2, 1) := by decide +kernel
theorem dX12_names_68 : decode cX12_names 68 = .ok (.invokevirtual 69, 3) := by decide +kernel
theorem dX12_names_71 : decode cX12_names 71 = .ok (.aload_n 0, 1) := by decide +kernel
theorem dX12_names_72 : decode cX12_names 72 = .ok (.iload_n 3, 1) := by decide +kernel
theorem dX12_names_73 : decode cX12_names 73 = .ok (.invokevirtual 94, 3) := by decide +kernel
theorem dX12_names_76 : decode cX12_names 76 = .ok (.ireturn, 1) := by decide +kernel
theorem dX12_drops_0 : decode cX12_drops 0 = .ok (.iload_n 1, 1) := by decide +kernel
theorem dX12_drops_1 : decode cX12_drops 1 = .ok (.iconst 0, 1) := by decide +kernel
theorem dX12_drops_2 : decode cX12_drops 2 = .ok (.iconst 5, 1) := by decide +kernel
theorem dX12_drops_3 : decode cX12_drops 3 = .ok (.invokestatic 58, 3) := by decide +kernel
theorem dX12_drops_6 : decode cX12_drops 6 = .ok (.ifCond .ne 6, 3) := by decide +kernel
theorem dX12_drops_9 : decode cX12_drops 9 = .ok (.bipush (-11), 2) := by decide +kernel
theorem dX12_drops_11 : decode cX12_drops 11 = .ok (.ireturn, 1) := by decide +kernel
theorem dX12_drops_12 : decode cX12_drops 12 = .ok (.aload_n 0, 1) := by decide +kernel
theorem dX12_drops_13 : decode cX12_drops 13 = .ok (.getfield 7, 3) := by decide +kernel
theorem dX12_drops_16 : decode cX12_drops 16 = .ok (.bipush 11, 2) := by decide +kernel
theorem dX12_drops_18 : decode cX12_drops 18 = .ok (.iload_n 1, 1) := by decide +kernel
theorem dX12_drops_19 : decode cX12_drops 19 = .ok (.iadd, 1) := by decide +kernel
theorem dX12_drops_20 : decode cX12_drops 20 = .ok (.iaload, 1) := by decide +kernel
theorem dX12_drops_21 : decode cX12_drops 21 = .ok (.istore_n 2, 1) := by decide +kernel
theorem dX12_drops_22 : decode cX12_drops 22 = .ok (.iload_n 2, 1) := by decide +kernel
theorem dX12_drops_23 : decode cX12_drops 23 = .ok (.bipush (-15), 2) := by decide +kernel
theorem dX12_drops_25 : decode cX12_drops 25 = .ok (.if_icmp .ne 10, 3) := by decide +kernel
theorem dX12_drops_28 : decode cX12_drops 28 = .ok (.aload_n 0, 1) := by decide +kernel
theorem dX12_drops_29 : decode cX12_drops 29 = .ok (.iconst 3, 1) := by decide +kernel
theorem dX12_drops_30 : decode cX12_drops 30 = .ok (.iload_n 1, 1) := by decide +kernel
theorem dX12_drops_31 : decode cX12_drops 31 = .ok (.invokevirtual 91, 3) := by decide +kernel
theorem dX12_drops_34 : decode cX12_drops 34 = .ok (.ireturn, 1) := by decide +kernel
theorem dX12_drops_35 : decode cX12_drops 35 = .ok (.aload_n 0, 1) := by decide +kernel
theorem dX12_drops_36 : decode cX12_drops 36 = .ok (.getfield 7, 3) := by decide +kernel
theorem dX12_drops_39 : decode cX12_drops 39 = .ok (.bipush 11, 2) := by decide +kernel
theorem dX12_drops_41 : decode cX12_drops 41 = .ok (.iload_n 1, 1) := by decide +kernel
theorem dX12_drops_42 : decode cX12_drops 42 = .ok (.iadd, 1) := by decide +kernel
theorem dX12_drops_43 : decode cX12_drops 43 = .ok (.bipush (-15), 2) := by decide +kernel
theorem dX12_drops_45 : decode cX12_drops 45 = .ok (.iastore, 1) := by decide +kernel
theorem dX12_drops_46 : decode cX12_drops 46 = .ok (.aload_n 0, 1) := by decide +kernel
theorem dX12_drops_47 : decode cX12_drops 47 = .ok (.iload_n 2, 1) := by decide +kernel
theorem dX12_drops_48 : decode cX12_drops 48 = .ok (.invokevirtual 94, 3) := by decide +kernel
theorem dX12_drops_51 : decode cX12_drops 51 = .ok (.ireturn, 1) := by decide +kernel
theorem dX12_stepsOn_0 : decode cX12_stepsOn 0 = .ok (.iload_n 1, 1) := by decide +kernel
theorem dX12_stepsOn_1 : decode cX12_stepsOn 1 = .ok (.iconst 1, 1) := by decide +kernel
theorem dX12_stepsOn_2 : decode cX12_stepsOn 2 = .ok (.bipush 99, 2) := by decide +kernel
theorem dX12_stepsOn_4 : decode cX12_stepsOn 4 = .ok (.invokestatic 58, 3) := by decide +kernel
theorem dX12_stepsOn_7 : decode cX12_stepsOn 7 = .ok (.ifCond .ne 6, 3) := by decide +kernel
theorem dX12_stepsOn_10 : decode cX12_stepsOn 10 = .ok (.bipush (-12), 2) := by decide +kernel
theorem dX12_stepsOn_12 : decode cX12_stepsOn 12 = .ok (.ireturn, 1) := by decide +kernel
theorem dX12_stepsOn_13 : decode cX12_stepsOn 13 = .ok (.aload_n 0, 1) := by decide +kernel
theorem dX12_stepsOn_14 : decode cX12_stepsOn 14 = .ok (.getfield 7, 3) := by decide +kernel
theorem dX12_stepsOn_17 : decode cX12_stepsOn 17 = .ok (.iconst 0, 1) := by decide +kernel
theorem dX12_stepsOn_18 : decode cX12_stepsOn 18 = .ok (.iaload, 1) := by decide +kernel
theorem dX12_stepsOn_19 : decode cX12_stepsOn 19 = .ok (.ifCond .ne 17, 3) := by decide +kernel
theorem dX12_stepsOn_22 : decode cX12_stepsOn 22 = .ok (.aload_n 0, 1) := by decide +kernel
theorem dX12_stepsOn_23 : decode cX12_stepsOn 23 = .ok (.iconst 5, 1) := by decide +kernel
theorem dX12_stepsOn_24 : decode cX12_stepsOn 24 = .ok (.aload_n 0, 1) := by decide +kernel
theorem dX12_stepsOn_25 : decode cX12_stepsOn 25 = .ok (.getfield 7, 3) := by decide +kernel
theorem dX12_stepsOn_28 : decode cX12_stepsOn 28 = .ok (.iconst 2, 1) := by decide +kernel
theorem dX12_stepsOn_29 : decode cX12_stepsOn 29 = .ok (.iaload, 1) := by decide +kernel
theorem dX12_stepsOn_30 : decode cX12_stepsOn 30 = .ok (.invokevirtual 91, 3) := by decide +kernel
theorem dX12_stepsOn_33 : decode cX12_stepsOn 33 = .ok (.goto 12, 3) := by decide +kernel
theorem dX12_stepsOn_36 : decode cX12_stepsOn 36 = .ok (.aload_n 0, 1) := by decide +kernel
theorem dX12_stepsOn_37 : decode cX12_stepsOn 37 = .ok (.aload_n 0, 1) := by decide +kernel
theorem dX12_stepsOn_38 : decode cX12_stepsOn 38 = .ok (.iload_n 1, 1) := by decide +kernel
theorem dX12_stepsOn_39 : decode cX12_stepsOn 39 = .ok (.invokevirtual 104, 3) := by decide +kernel
theorem dX12_stepsOn_42 : decode cX12_stepsOn 42 = .ok (.invokevirtual 94, 3) := by decide +kernel
theorem dX12_stepsOn_45 : decode cX12_stepsOn 45 = .ok (.ireturn, 1) := by decide +kernel
theorem dX12_wholeRound_0 : decode cX12_wholeRound 0 = .ok (.aload_n 0, 1) := by decide +kernel
theorem dX12_wholeRound_1 : decode cX12_wholeRound 1 = .ok (.getfield 7, 3) := by decide +kernel
theorem dX12_wholeRound_4 : decode cX12_wholeRound 4 = .ok (.iconst 4, 1) := by decide +kernel
theorem dX12_wholeRound_5 : decode cX12_wholeRound 5 = .ok (.iaload, 1) := by decide +kernel
theorem dX12_wholeRound_6 : decode cX12_wholeRound 6 = .ok (.istore_n 1, 1) := by decide +kernel
theorem dX12_wholeRound_7 : decode cX12_wholeRound 7 = .ok (.aload_n 0, 1) := by decide +kernel
theorem dX12_wholeRound_8 : decode cX12_wholeRound 8 = .ok (.getfield 7, 3) := by decide +kernel
theorem dX12_wholeRound_11 : decode cX12_wholeRound 11 = .ok (.iconst 0, 1) := by decide +kernel
theorem dX12_wholeRound_12 : decode cX12_wholeRound 12 = .ok (.iaload, 1) := by decide +kernel
theorem dX12_wholeRound_13 : decode cX12_wholeRound 13 = .ok (.ifCond .ne 10, 3) := by decide +kernel
theorem dX12_wholeRound_16 : decode cX12_wholeRound 16 = .ok (.aload_n 0, 1) := by decide +kernel
theorem dX12_wholeRound_17 : decode cX12_wholeRound 17 = .ok (.invokevirtual 107, 3) := by decide +kernel
theorem dX12_wholeRound_20 : decode cX12_wholeRound 20 = .ok (.goto 4, 3) := by decide +kernel
theorem dX12_wholeRound_23 : decode cX12_wholeRound 23 = .ok (.iconst 0, 1) := by decide +kernel
theorem dX12_wholeRound_24 : decode cX12_wholeRound 24 = .ok (.istore_n 2, 1) := by decide +kernel
theorem dX12_wholeRound_25 : decode cX12_wholeRound 25 = .ok (.aload_n 0, 1) := by decide +kernel
theorem dX12_wholeRound_26 : decode cX12_wholeRound 26 = .ok (.sipush 10000, 3) := by decide +kernel
theorem dX12_wholeRound_29 : decode cX12_wholeRound 29 = .ok (.invokevirtual 104, 3) := by decide +kernel
theorem dX12_wholeRound_32 : decode cX12_wholeRound 32 = .ok (.istore_n 3, 1) := by decide +kernel
theorem dX12_wholeRound_33 : decode cX12_wholeRound 33 = .ok (.aload_n 0, 1) := by decide +kernel
theorem dX12_wholeRound_34 : decode cX12_wholeRound 34 = .ok (.aload_n 0, 1) := by decide +kernel
theorem dX12_wholeRound_35 : decode cX12_wholeRound 35 = .ok (.getfield 7, 3) := by decide +kernel
theorem dX12_wholeRound_38 : decode cX12_wholeRound 38 = .ok (.iconst 4, 1) := by decide +kernel
theorem dX12_wholeRound_39 : decode cX12_wholeRound 39 = .ok (.iaload, 1) := by decide +kernel
theorem dX12_wholeRound_40 : decode cX12_wholeRound 40 = .ok (.iload_n 1, 1) := by decide +kernel
theorem dX12_wholeRound_41 : decode cX12_wholeRound 41 = .ok (.isub, 1) := by decide +kernel
theorem dX12_wholeRound_42 : decode cX12_wholeRound 42 = .ok (.invokevirtual 94, 3) := by decide +kernel
theorem dX12_wholeRound_45 : decode cX12_wholeRound 45 = .ok (.ireturn, 1) := by decide +kernel
theorem dX12_doesRite_0 : decode cX12_doesRite 0 = .ok (.aload_n 0, 1) := by decide +kernel
theorem dX12_doesRite_1 : decode cX12_doesRite 1 = .ok (.getfield 7, 3) := by decide +kernel
theorem dX12_doesRite_4 : decode cX12_doesRite 4 = .ok (.bipush 9, 2) := by decide +kernel
theorem dX12_doesRite_6 : decode cX12_doesRite 6 = .ok (.iaload, 1) := by decide +kernel
theorem dX12_doesRite_7 : decode cX12_doesRite 7 = .ok (.ifCond .ne 16, 3) := by decide +kernel
theorem dX12_doesRite_10 : decode cX12_doesRite 10 = .ok (.aload_n 0, 1) := by decide +kernel
theorem dX12_doesRite_11 : decode cX12_doesRite 11 = .ok (.bipush 6, 2) := by decide +kernel
theorem dX12_doesRite_13 : decode cX12_doesRite 13 = .ok (.aload_n 0, 1) := by decide +kernel
theorem dX12_doesRite_14 : decode cX12_doesRite 14 = .ok (.getfield 7, 3) := by decide +kernel
theorem dX12_doesRite_17 : decode cX12_doesRite 17 = .ok (.iconst 5, 1) := by decide +kernel
theorem dX12_doesRite_18 : decode cX12_doesRite 18 = .ok (.iaload, 1) := by decide +kernel
theorem dX12_doesRite_19 : decode cX12_doesRite 19 = .ok (.invokevirtual 91, 3) := by decide +kernel
theorem dX12_doesRite_22 : decode cX12_doesRite 22 = .ok (.ireturn, 1) := by decide +kernel
theorem dX12_doesRite_23 : decode cX12_doesRite 23 = .ok (.aload_n 0, 1) := by decide +kernel
theorem dX12_doesRite_24 : decode cX12_doesRite 24 = .ok (.getfield 7, 3) := by decide +kernel
theorem dX12_doesRite_27 : decode cX12_doesRite 27 = .ok (.sipush 257, 3) := by decide +kernel
theorem dX12_doesRite_30 : decode cX12_doesRite 30 = .ok (.iaload, 1) := by decide +kernel
theorem dX12_doesRite_31 : decode cX12_doesRite 31 = .ok (.istore_n 1, 1) := by decide +kernel
theorem dX12_doesRite_32 : decode cX12_doesRite 32 = .ok (.aload_n 0, 1) := by decide +kernel
theorem dX12_doesRite_33 : decode cX12_doesRite 33 = .ok (.getfield 7, 3) := by decide +kernel
theorem dX12_doesRite_36 : decode cX12_doesRite 36 = .ok (.bipush 9, 2) := by decide +kernel
theorem dX12_doesRite_38 : decode cX12_doesRite 38 = .ok (.dup2, 1) := by decide +kernel
theorem dX12_doesRite_39 : decode cX12_doesRite 39 = .ok (.iaload, 1) := by decide +kernel
theorem dX12_doesRite_40 : decode cX12_doesRite 40 = .ok (.iconst 1, 1) := by decide +kernel
theorem dX12_doesRite_41 : decode cX12_doesRite 41 = .ok (.isub, 1) := by decide +kernel
theorem dX12_doesRite_42 : decode cX12_doesRite 42 = .ok (.iastore, 1) := by decide +kernel
theorem dX12_doesRite_43 : decode cX12_doesRite 43 = .ok (.iconst 0, 1) := by decide +kernel
theorem dX12_doesRite_44 : decode cX12_doesRite 44 = .ok (.istore_n 2, 1) := by decide +kernel
theorem dX12_doesRite_45 : decode cX12_doesRite 45 = .ok (.iload_n 2, 1) := by decide +kernel
theorem dX12_doesRite_46 : decode cX12_doesRite 46 = .ok (.aload_n 0, 1) := by decide +kernel
theorem dX12_doesRite_47 : decode cX12_doesRite 47 = .ok (.getfield 7, 3) := by decide +kernel
theorem dX12_doesRite_50 : decode cX12_doesRite 50 = .ok (.bipush 9, 2) := by decide +kernel
theorem dX12_doesRite_52 : decode cX12_doesRite 52 = .ok (.iaload, 1) := by decide +kernel
theorem dX12_doesRite_53 : decode cX12_doesRite 53 = .ok (.if_icmp .ge 31, 3) := by decide +kernel
theorem dX12_doesRite_56 : decode cX12_doesRite 56 = .ok (.aload_n 0, 1) := by decide +kernel
theorem dX12_doesRite_57 : decode cX12_doesRite 57 = .ok (.getfield 7, 3) := by decide +kernel
theorem dX12_doesRite_60 : decode cX12_doesRite 60 = .ok (.sipush 257, 3) := by decide +kernel
theorem dX12_doesRite_63 : decode cX12_doesRite 63 = .ok (.iload_n 2, 1) := by decide +kernel
theorem dX12_doesRite_64 : decode cX12_doesRite 64 = .ok (.iadd, 1) := by decide +kernel
theorem dX12_doesRite_65 : decode cX12_doesRite 65 = .ok (.aload_n 0, 1) := by decide +kernel
theorem dX12_doesRite_66 : decode cX12_doesRite 66 = .ok (.getfield 7, 3) := by decide +kernel
theorem dX12_doesRite_69 : decode cX12_doesRite 69 = .ok (.sipush 257, 3) := by decide +kernel
theorem dX12_doesRite_72 : decode cX12_doesRite 72 = .ok (.iload_n 2, 1) := by decide +kernel
theorem dX12_doesRite_73 : decode cX12_doesRite 73 = .ok (.iadd, 1) := by decide +kernel
theorem dX12_doesRite_74 : decode cX12_doesRite 74 = .ok (.iconst 1, 1) := by decide +kernel
theorem dX12_doesRite_75 : decode cX12_doesRite 75 = .ok (.iadd, 1) := by decide +kernel
theorem dX12_doesRite_76 : decode cX12_doesRite 76 = .ok (.iaload, 1) := by decide +kernel
theorem dX12_doesRite_77 : decode cX12_doesRite 77 = .ok (.iastore, 1) := by decide +kernel
theorem dX12_doesRite_78 : decode cX12_doesRite 78 = .ok (.iinc 2 1, 3) := by decide +kernel
theorem dX12_doesRite_81 : decode cX12_doesRite 81 = .ok (.goto (-36), 3) := by decide +kernel
theorem dX12_doesRite_84 : decode cX12_doesRite 84 = .ok (.aload_n 0, 1) := by decide +kernel
theorem dX12_doesRite_85 : decode cX12_doesRite 85 = .ok (.getfield 7, 3) := by decide +kernel
theorem dX12_doesRite_88 : decode cX12_doesRite 88 = .ok (.sipush 257, 3) := by decide +kernel
theorem dX12_doesRite_91 : decode cX12_doesRite 91 = .ok (.aload_n 0, 1) := by decide +kernel
theorem dX12_doesRite_92 : decode cX12_doesRite 92 = .ok (.getfield 7, 3) := by decide +kernel
theorem dX12_doesRite_95 : decode cX12_doesRite 95 = .ok (.bipush 9, 2) := by decide +kernel
theorem dX12_doesRite_97 : decode cX12_doesRite 97 = .ok (.iaload, 1) := by decide +kernel
theorem dX12_doesRite_98 : decode cX12_doesRite 98 = .ok (.iadd, 1) := by decide +kernel
theorem dX12_doesRite_99 : decode cX12_doesRite 99 = .ok (.iconst 0, 1) := by decide +kernel
theorem dX12_doesRite_100 : decode cX12_doesRite 100 = .ok (.iastore, 1) := by decide +kernel
theorem dX12_doesRite_101 : decode cX12_doesRite 101 = .ok (.aload_n 0, 1) := by decide +kernel
theorem dX12_doesRite_102 : decode cX12_doesRite 102 = .ok (.getfield 7, 3) := by decide +kernel
theorem dX12_doesRite_105 : decode cX12_doesRite 105 = .ok (.bipush 65, 2) := by decide +kernel
theorem dX12_doesRite_107 : decode cX12_doesRite 107 = .ok (.iload_n 1, 1) := by decide +kernel
theorem dX12_doesRite_108 : decode cX12_doesRite 108 = .ok (.iadd, 1) := by decide +kernel
theorem dX12_doesRite_109 : decode cX12_doesRite 109 = .ok (.iconst 0, 1) := by decide +kernel
theorem dX12_doesRite_110 : decode cX12_doesRite 110 = .ok (.iastore, 1) := by decide +kernel
theorem dX12_doesRite_111 : decode cX12_doesRite 111 = .ok (.aload_n 0, 1) := by decide +kernel
theorem dX12_doesRite_112 : decode cX12_doesRite 112 = .ok (.getfield 7, 3) := by decide +kernel
theorem dX12_doesRite_115 : decode cX12_doesRite 115 = .ok (.iconst 5, 1) := by decide +kernel
theorem dX12_doesRite_116 : decode cX12_doesRite 116 = .ok (.dup2, 1) := by decide +kernel
theorem dX12_doesRite_117 : decode cX12_doesRite 117 = .ok (.iaload, 1) := by decide +kernel
theorem dX12_doesRite_118 : decode cX12_doesRite 118 = .ok (.iconst 1, 1) := by decide +kernel
theorem dX12_doesRite_119 : decode cX12_doesRite 119 = .ok (.iadd, 1) := by decide +kernel
theorem dX12_doesRite_120 : decode cX12_doesRite 120 = .ok (.iastore, 1) := by decide +kernel
theorem dX12_doesRite_121 : decode cX12_doesRite 121 = .ok (.aload_n 0, 1) := by decide +kernel
theorem dX12_doesRite_122 : decode cX12_doesRite 122 = .ok (.iload_n 1, 1) := by decide +kernel
theorem dX12_doesRite_123 : decode cX12_doesRite 123 = .ok (.invokevirtual 94, 3) := by decide +kernel
theorem dX12_doesRite_126 : decode cX12_doesRite 126 = .ok (.ireturn, 1) := by decide +kernel
def f_X12_sweeps (μ : mu_T)  : Option mu_T :=
  rd_ μ 1 293 1 (fun v5 => rd_ μ 1 293 (17 + v5) (fun v15 => jn_ (φ := mu_T → Option mu_T) (fun μ50 => rd_ μ50 1 293 1 (fun v56 => wr_ μ50 1 293 1 (v56 + 1) (fun μ59 => rd_ μ59 1 293 1 (fun v65 => lt_ v65 24
      (some μ59)
      (wr_ μ59 1 293 0 0 (fun μ78 => wr_ μ78 1 293 1 0 (fun μ85 => rd_ μ85 1 293 2 (fun v92 => wr_ μ85 1 293 2 (v92 + 1) (fun μ95 => some μ95)))))))))
      (fun J50 => jn_ (φ := Unit → Option mu_T) (fun _ => wr_ μ 1 293 (41 + v5) 0 (fun μ49 => J50 μ49))
      (fun J40 => eq_ v15 1
      (rd_ μ 1 293 (41 + v5) (fun v28 => eq_ v28 0
      (bd_ (f_X12_frees μ v5) (fun μ34 => J50 μ34))
      (J40 ())))
      (J40 ())))))
set_option maxHeartbeats 4000000 in
set_option maxRecDepth 100000 in
theorem c_X12_sweeps {G : gp_} {ad : Nat → Nat} (μ : mu_T)  (μr : mu_T) (h : f_X12_sweeps μ  = some μr) : mv_ yX12_sweeps cX12_sweeps 2 ({ frames := 3, cells := 0, slots := 0, locals := 66 } : Room) G 9 ad (ceM G ad) [.ref (ad 0)] μ μr := by
  refine mv_in (own := "UrnHeapModel") (lv := [(0, .ref (ad 0))]) (by decide) rfl rfl (Nat.le_of_ble_eq_true rfl) (fun X C E => ?_)
  unfold f_X12_sweeps at h
  refine xx_aload_n C 1 rfl 0 dX12_sweeps_0 rfl rfl ?_
  refine xx_getr (fi := 0) C 4 rfl (by decide) (ceM_0 _ _ _) rfl in_X12 (by decide) rfl w_1179 dX12_sweeps_1 ?_
  refine xx_iconst C 5 rfl dX12_sweeps_4 ?_
  refine xx_iaload C 6 rfl (by decide) (fun _ => rfl) (by decide) dX12_sweeps_5 h (fun v5 h => ?_)
  refine xx_istore_n (lv1 := [(1, .int (iI v5)), (0, .ref (ad 0))]) C 7 rfl (by decide) dX12_sweeps_6 rfl rfl ?_
  refine xx_aload_n C 8 rfl 1 dX12_sweeps_7 rfl rfl ?_
  refine xx_getr (fi := 0) C 11 rfl (by decide) (ceM_0 _ _ _) rfl in_X12 (by decide) rfl w_1179 dX12_sweeps_8 ?_
  refine xx_bipush C 13 rfl dX12_sweeps_11 (by decide) ?_
  refine xx_iload_n C 14 rfl 0 dX12_sweeps_13 rfl rfl ?_
  refine xx_iadd C 15 rfl dX12_sweeps_14 ?_
  refine xx_iaload C 16 rfl (by decide) (fun _ => rfl) (by decide) dX12_sweeps_15 h (fun v15 h => ?_)
  refine xx_iconst C 17 rfl dX12_sweeps_16 ?_
  refine jn_r (fun J => ∀ (μ50 : mu_T), J μ50 = some μr → wx_ G X 9 ad (ceM G ad) μ50 0 0 50 [(0, .ref (ad 0))] []) h (fun μ50 h => ?_) (fun J50 K50 h => ?_)
  · refine xx_aload_n C 51 rfl 0 dX12_sweeps_50 rfl rfl ?_
    refine xx_getr (fi := 0) C 54 rfl (by decide) (ceM_0 _ _ _) rfl in_X12 (by decide) rfl w_1179 dX12_sweeps_51 ?_
    refine xx_iconst C 55 rfl dX12_sweeps_54 ?_
    refine xx_dup2 C 56 rfl dX12_sweeps_55 rfl rfl ?_
    refine xx_iaload C 57 rfl (by decide) (fun _ => rfl) (by decide) dX12_sweeps_56 h (fun v56 h => ?_)
    refine xx_iconst C 58 rfl dX12_sweeps_57 ?_
    refine xx_iadd C 59 rfl dX12_sweeps_58 ?_
    refine xx_iastore C 60 rfl (by decide) (fun _ => rfl) (by decide) dX12_sweeps_59 h (fun μ59 h => ?_)
    refine xx_aload_n C 61 rfl 0 dX12_sweeps_60 rfl rfl ?_
    refine xx_getr (fi := 0) C 64 rfl (by decide) (ceM_0 _ _ _) rfl in_X12 (by decide) rfl w_1179 dX12_sweeps_61 ?_
    refine xx_iconst C 65 rfl dX12_sweeps_64 ?_
    refine xx_iaload C 66 rfl (by decide) (fun _ => rfl) (by decide) dX12_sweeps_65 h (fun v65 h => ?_)
    refine xx_bipush C 68 rfl dX12_sweeps_66 (by decide) ?_
    refine xx_icmp_ge (tgt := 72) C 71 rfl dX12_sweeps_68 (by decide) h (fun h => ?_) (fun h => ?_)
    · refine xx_aload_n C 73 rfl 0 dX12_sweeps_72 rfl rfl ?_
      refine xx_getr (fi := 0) C 76 rfl (by decide) (ceM_0 _ _ _) rfl in_X12 (by decide) rfl w_1179 dX12_sweeps_73 ?_
      refine xx_iconst C 77 rfl dX12_sweeps_76 ?_
      refine xx_iconst C 78 rfl dX12_sweeps_77 ?_
      refine xx_iastore C 79 rfl (by decide) (fun _ => rfl) (by decide) dX12_sweeps_78 h (fun μ78 h => ?_)
      refine xx_aload_n C 80 rfl 0 dX12_sweeps_79 rfl rfl ?_
      refine xx_getr (fi := 0) C 83 rfl (by decide) (ceM_0 _ _ _) rfl in_X12 (by decide) rfl w_1179 dX12_sweeps_80 ?_
      refine xx_iconst C 84 rfl dX12_sweeps_83 ?_
      refine xx_iconst C 85 rfl dX12_sweeps_84 ?_
      refine xx_iastore C 86 rfl (by decide) (fun _ => rfl) (by decide) dX12_sweeps_85 h (fun μ85 h => ?_)
      refine xx_aload_n C 87 rfl 0 dX12_sweeps_86 rfl rfl ?_
      refine xx_getr (fi := 0) C 90 rfl (by decide) (ceM_0 _ _ _) rfl in_X12 (by decide) rfl w_1179 dX12_sweeps_87 ?_
      refine xx_iconst C 91 rfl dX12_sweeps_90 ?_
      refine xx_dup2 C 92 rfl dX12_sweeps_91 rfl rfl ?_
      refine xx_iaload C 93 rfl (by decide) (fun _ => rfl) (by decide) dX12_sweeps_92 h (fun v92 h => ?_)
      refine xx_iconst C 94 rfl dX12_sweeps_93 ?_
      refine xx_iadd C 95 rfl dX12_sweeps_94 ?_
      refine xx_iastore C 96 rfl (by decide) (fun _ => rfl) (by decide) dX12_sweeps_95 h (fun μ95 h => ?_)
      exact xx_vret C E rfl ⟨Nat.le_of_ble_eq_true rfl, Nat.le_of_ble_eq_true rfl⟩ dX12_sweeps_96 h
    · exact xx_vret C E rfl ⟨Nat.le_of_ble_eq_true rfl, Nat.le_of_ble_eq_true rfl⟩ dX12_sweeps_71 h
  · refine jn_r (fun J => ∀ (_u : Unit), J _u = some μr → wx_ G X 9 ad (ceM G ad) μ 0 0 40 [(0, .ref (ad 0)), (1, .int (iI v5))] []) h (fun _ h => ?_) (fun J40 K40 h => ?_)
    · refine xx_aload_n C 41 rfl 0 dX12_sweeps_40 rfl rfl ?_
      refine xx_getr (fi := 0) C 44 rfl (by decide) (ceM_0 _ _ _) rfl in_X12 (by decide) rfl w_1179 dX12_sweeps_41 ?_
      refine xx_bipush C 46 rfl dX12_sweeps_44 (by decide) ?_
      refine xx_iload_n C 47 rfl 1 dX12_sweeps_46 rfl rfl ?_
      refine xx_iadd C 48 rfl dX12_sweeps_47 ?_
      refine xx_iconst C 49 rfl dX12_sweeps_48 ?_
      refine xx_iastore C 50 rfl (by decide) (fun _ => rfl) (by decide) dX12_sweeps_49 h (fun μ49 h => ?_)
      refine xx_sub [0] rfl ?_
      exact K50 μ49 h
    · refine xx_icmp_ne (tgt := 40) C 20 rfl dX12_sweeps_17 (by decide) h (fun h => ?_) (fun h => ?_)
      · refine xx_sub [1, 0] rfl ?_
        exact K40 () h
      · refine xx_aload_n C 21 rfl 1 dX12_sweeps_20 rfl rfl ?_
        refine xx_getr (fi := 0) C 24 rfl (by decide) (ceM_0 _ _ _) rfl in_X12 (by decide) rfl w_1179 dX12_sweeps_21 ?_
        refine xx_bipush C 26 rfl dX12_sweeps_24 (by decide) ?_
        refine xx_iload_n C 27 rfl 0 dX12_sweeps_26 rfl rfl ?_
        refine xx_iadd C 28 rfl dX12_sweeps_27 ?_
        refine xx_iaload C 29 rfl (by decide) (fun _ => rfl) (by decide) dX12_sweeps_28 h (fun v28 h => ?_)
        refine xx_if_ne (tgt := 40) C 32 rfl dX12_sweeps_29 (by decide) h (fun h => ?_) (fun h => ?_)
        · refine xx_sub [1, 0] rfl ?_
          exact K40 () h
        · refine xx_aload_n C 33 rfl 1 dX12_sweeps_32 rfl rfl ?_
          refine xx_iload_n C 34 rfl 0 dX12_sweeps_33 rfl rfl ?_
          refine xx_cVv (As := [.int (iI v5)]) (st := []) (o := 0) C 37 rfl (by decide) (ceM_0 _ _ _) rfl rfl ca_X12_frees cv_X12_frees w_1379 rfl ⟨Nat.le_of_ble_eq_true rfl, Nat.le_of_ble_eq_true rfl⟩ ⟨Nat.le_of_ble_eq_true rfl, Nat.le_of_ble_eq_true rfl⟩ (Nat.le_of_ble_eq_true rfl) dX12_sweeps_34 (fun μ34 e9 => c_X12_frees _ _ μ34 e9) h (fun μ34 h => ?_) rfl
          refine xx_goto C 50 dX12_sweeps_37 (by decide) ?_
          refine xx_sub [1] rfl ?_
          exact K50 μ34 h

def f_X12_part (μ : mu_T)  : Option mu_T :=
  rd_ μ 1 293 7 (fun v7 => wr_ μ 1 293 7 (v7 + 1) (fun μ10 => rd_ μ10 1 293 0 (fun v16 => eq_ v16 2
      (bd_ (f_X12_sweeps μ10) (fun μ22 => some μ22))
      (rd_ μ10 1 293 8 (fun v34 => lt_ 0 v34
      (bd_ (f_X12_blackens μ10) (fun μ39 => some μ39))
      (bp_ (f_X12_becomeDue μ10) (fun v46 μ46 => eq_ v46 0
      (bd_ (f_X12_cutsWeak μ46) (fun μ53 => some μ53))
      (some μ46))))))))
set_option maxHeartbeats 4000000 in
set_option maxRecDepth 100000 in
theorem c_X12_part {G : gp_} {ad : Nat → Nat} (μ : mu_T)  (μr : mu_T) (h : f_X12_part μ  = some μr) : mv_ yX12_part cX12_part 1 ({ frames := 4, cells := 0, slots := 0, locals := 87 } : Room) G 9 ad (ceM G ad) [.ref (ad 0)] μ μr := by
  refine mv_in (own := "UrnHeapModel") (lv := [(0, .ref (ad 0))]) (by decide) rfl rfl (Nat.le_of_ble_eq_true rfl) (fun X C E => ?_)
  unfold f_X12_part at h
  refine xx_aload_n C 1 rfl 0 dX12_part_0 rfl rfl ?_
  refine xx_getr (fi := 0) C 4 rfl (by decide) (ceM_0 _ _ _) rfl in_X12 (by decide) rfl w_1179 dX12_part_1 ?_
  refine xx_bipush C 6 rfl dX12_part_4 (by decide) ?_
  refine xx_dup2 C 7 rfl dX12_part_6 rfl rfl ?_
  refine xx_iaload C 8 rfl (by decide) (fun _ => rfl) (by decide) dX12_part_7 h (fun v7 h => ?_)
  refine xx_iconst C 9 rfl dX12_part_8 ?_
  refine xx_iadd C 10 rfl dX12_part_9 ?_
  refine xx_iastore C 11 rfl (by decide) (fun _ => rfl) (by decide) dX12_part_10 h (fun μ10 h => ?_)
  refine xx_aload_n C 12 rfl 0 dX12_part_11 rfl rfl ?_
  refine xx_getr (fi := 0) C 15 rfl (by decide) (ceM_0 _ _ _) rfl in_X12 (by decide) rfl w_1179 dX12_part_12 ?_
  refine xx_iconst C 16 rfl dX12_part_15 ?_
  refine xx_iaload C 17 rfl (by decide) (fun _ => rfl) (by decide) dX12_part_16 h (fun v16 h => ?_)
  refine xx_iconst C 18 rfl dX12_part_17 ?_
  refine xx_icmp_ne (tgt := 28) C 21 rfl dX12_part_18 (by decide) h (fun h => ?_) (fun h => ?_)
  · refine xx_aload_n C 29 rfl 0 dX12_part_28 rfl rfl ?_
    refine xx_getr (fi := 0) C 32 rfl (by decide) (ceM_0 _ _ _) rfl in_X12 (by decide) rfl w_1179 dX12_part_29 ?_
    refine xx_bipush C 34 rfl dX12_part_32 (by decide) ?_
    refine xx_iaload C 35 rfl (by decide) (fun _ => rfl) (by decide) dX12_part_34 h (fun v34 h => ?_)
    refine xx_if_le (tgt := 45) C 38 rfl dX12_part_35 (by decide) h (fun h => ?_) (fun h => ?_)
    · refine xx_aload_n C 46 rfl 0 dX12_part_45 rfl rfl ?_
      refine xx_cVi (As := []) (st := []) (o := 0) C 49 rfl (by decide) (ceM_0 _ _ _) rfl rfl ca_X12_becomeDue cv_X12_becomeDue w_1387 rfl ⟨Nat.le_of_ble_eq_true rfl, Nat.le_of_ble_eq_true rfl⟩ ⟨Nat.le_of_ble_eq_true rfl, Nat.le_of_ble_eq_true rfl⟩ (Nat.le_of_ble_eq_true rfl) dX12_part_46 (fun v46 μ46 e9 => c_X12_becomeDue _ v46 μ46 e9) h (fun v46 μ46 h => ?_) rfl
      refine xx_if_ne (tgt := 56) C 52 rfl dX12_part_49 (by decide) h (fun h => ?_) (fun h => ?_)
      · exact xx_vret C E rfl ⟨Nat.le_of_ble_eq_true rfl, Nat.le_of_ble_eq_true rfl⟩ dX12_part_56 h
      · refine xx_aload_n C 53 rfl 0 dX12_part_52 rfl rfl ?_
        refine xx_cVv (As := []) (st := []) (o := 0) C 56 rfl (by decide) (ceM_0 _ _ _) rfl rfl ca_X12_cutsWeak cv_X12_cutsWeak w_1391 rfl ⟨Nat.le_of_ble_eq_true rfl, Nat.le_of_ble_eq_true rfl⟩ ⟨Nat.le_of_ble_eq_true rfl, Nat.le_of_ble_eq_true rfl⟩ (Nat.le_of_ble_eq_true rfl) dX12_part_53 (fun μ53 e9 => c_X12_cutsWeak _ μ53 e9) h (fun μ53 h => ?_) rfl
        exact xx_vret C E rfl ⟨Nat.le_of_ble_eq_true rfl, Nat.le_of_ble_eq_true rfl⟩ dX12_part_56 h
    · refine xx_aload_n C 39 rfl 0 dX12_part_38 rfl rfl ?_
      refine xx_cVv (As := []) (st := []) (o := 0) C 42 rfl (by decide) (ceM_0 _ _ _) rfl rfl ca_X12_blackens cv_X12_blackens w_1383 rfl ⟨Nat.le_of_ble_eq_true rfl, Nat.le_of_ble_eq_true rfl⟩ ⟨Nat.le_of_ble_eq_true rfl, Nat.le_of_ble_eq_true rfl⟩ (Nat.le_of_ble_eq_true rfl) dX12_part_39 (fun μ39 e9 => c_X12_blackens _ μ39 e9) h (fun μ39 h => ?_) rfl
      refine xx_goto C 56 dX12_part_42 (by decide) ?_
      exact xx_vret C E rfl ⟨Nat.le_of_ble_eq_true rfl, Nat.le_of_ble_eq_true rfl⟩ dX12_part_56 h
  · refine xx_aload_n C 22 rfl 0 dX12_part_21 rfl rfl ?_
    refine xx_cVv (As := []) (st := []) (o := 0) C 25 rfl (by decide) (ceM_0 _ _ _) rfl rfl ca_X12_sweeps cv_X12_sweeps w_1375 rfl ⟨Nat.le_of_ble_eq_true rfl, Nat.le_of_ble_eq_true rfl⟩ ⟨Nat.le_of_ble_eq_true rfl, Nat.le_of_ble_eq_true rfl⟩ (Nat.le_of_ble_eq_true rfl) dX12_part_22 (fun μ22 e9 => c_X12_sweeps _ μ22 e9) h (fun μ22 h => ?_) rfl
    refine xx_goto C 56 dX12_part_25 (by decide) ?_
    exact xx_vret C E rfl ⟨Nat.le_of_ble_eq_true rfl, Nat.le_of_ble_eq_true rfl⟩ dX12_part_56 h

def f_X12_partsOn_L2 (a1 : Int) : Nat → Int → mu_T → Option (Int × mu_T)
  | 0, _, _ => none
  | fu2 + 1, x2_2, μ2 => lt_ x2_2 a1
      (rd_ μ2 1 293 0 (fun v12 => lt_ 0 v12
      (bd_ (f_X12_part μ2) (fun μ17 => nm_ (x2_2 + 1) (fun n20 => (f_X12_partsOn_L2 a1 fu2) n20 μ17)))
      (some (x2_2, μ2))))
      (some (x2_2, μ2))
def f_X12_partsOn (μ : mu_T) (a1 : Int) : Option (Int × mu_T) :=
  f_X12_partsOn_L2 a1 20000 0 μ
set_option maxHeartbeats 4000000 in
set_option maxRecDepth 100000 in
theorem c_X12_partsOn {G : gp_} {ad : Nat → Nat} (μ : mu_T) (a1 : Int) (a : Int) (μr : mu_T) (h : f_X12_partsOn μ a1 = some (a, μr)) : mi_ yX12_partsOn cX12_partsOn 3 (some .int) ({ frames := 5, cells := 0, slots := 0, locals := 107 } : Room) G 9 ad (ceM G ad) [.ref (ad 0), .int (iI a1)] μ a μr := by
  refine mi_in (own := "UrnHeapModel") (lv := [(0, .ref (ad 0)), (1, .int (iI a1))]) (by decide) rfl rfl (Nat.le_of_ble_eq_true rfl) (fun X C E => ?_)
  unfold f_X12_partsOn at h
  refine xx_iconst C 1 rfl dX12_partsOn_0 ?_
  refine xx_istore_n (lv1 := [(2, .int (iI 0)), (0, .ref (ad 0)), (1, .int (iI a1))]) C 2 rfl (by decide) dX12_partsOn_1 rfl rfl ?_
  have L2 : ∀ (fu2 : Nat) (x2_2 : Int) (μ2 : mu_T), f_X12_partsOn_L2 a1 fu2 x2_2 μ2 = some (a, μr) → wx_ G X 9 ad (ceM G ad) μ2 0 0 2 [(0, .ref (ad 0)), (1, .int (iI a1)), (2, .int (iI x2_2))] [] := by
    intro fu2
    induction fu2 with
    | zero => intro x2_2 μ2 h; exact nn_ h
    | succ fu2 K2 =>
      intro x2_2 μ2 h
      rw [f_X12_partsOn_L2] at h
      generalize f_X12_partsOn_L2 a1 fu2 = R2 at K2 h
      refine xx_iload_n C 3 rfl 2 dX12_partsOn_2 rfl rfl ?_
      refine xx_iload_n C 4 rfl 1 dX12_partsOn_3 rfl rfl ?_
      refine xx_icmp_ge (tgt := 26) C 7 rfl dX12_partsOn_4 (by decide) h (fun h => ?_) (fun h => ?_)
      · refine xx_iload_n C 27 rfl 2 dX12_partsOn_26 rfl rfl ?_
        exact xx_iret C E rfl ⟨Nat.le_of_ble_eq_true rfl, Nat.le_of_ble_eq_true rfl⟩ dX12_partsOn_27 h
      · refine xx_aload_n C 8 rfl 0 dX12_partsOn_7 rfl rfl ?_
        refine xx_getr (fi := 0) C 11 rfl (by decide) (ceM_0 _ _ _) rfl in_X12 (by decide) rfl w_1179 dX12_partsOn_8 ?_
        refine xx_iconst C 12 rfl dX12_partsOn_11 ?_
        refine xx_iaload C 13 rfl (by decide) (fun _ => rfl) (by decide) dX12_partsOn_12 h (fun v12 h => ?_)
        refine xx_if_le (tgt := 26) C 16 rfl dX12_partsOn_13 (by decide) h (fun h => ?_) (fun h => ?_)
        · refine xx_iload_n C 27 rfl 2 dX12_partsOn_26 rfl rfl ?_
          exact xx_iret C E rfl ⟨Nat.le_of_ble_eq_true rfl, Nat.le_of_ble_eq_true rfl⟩ dX12_partsOn_27 h
        · refine xx_aload_n C 17 rfl 0 dX12_partsOn_16 rfl rfl ?_
          refine xx_cVv (As := []) (st := []) (o := 0) C 20 rfl (by decide) (ceM_0 _ _ _) rfl rfl ca_X12_part cv_X12_part w_1371 rfl ⟨Nat.le_of_ble_eq_true rfl, Nat.le_of_ble_eq_true rfl⟩ ⟨Nat.le_of_ble_eq_true rfl, Nat.le_of_ble_eq_true rfl⟩ (Nat.le_of_ble_eq_true rfl) dX12_partsOn_17 (fun μ17 e9 => c_X12_part _ μ17 e9) h (fun μ17 h => ?_) rfl
          refine xx_iincn C 23 rfl 2 (by decide) dX12_partsOn_20 rfl h (fun n20 h => ?_)
          refine xx_lv (lv1 := [(2, .int (iI n20)), (0, .ref (ad 0)), (1, .int (iI a1))]) rfl ?_
          refine xx_goto C 2 dX12_partsOn_23 (by decide) ?_
          refine xx_sub [1, 2, 0] rfl ?_
          exact K2 n20 μ17 h
  refine xx_sub [1, 2, 0] rfl ?_
  exact L2 _ _ _ h

def f_X12_makes_L2 (J27 : Int → Option (Int × mu_T)) (μ : mu_T) : Nat → Int → Option (Int × mu_T)
  | 0, _ => none
  | fu2 + 1, x2_2 => lt_ x2_2 24
      (rd_ μ 1 293 (17 + x2_2) (fun v16 => eq_ v16 1
      (nm_ (x2_2 + 1) (fun n21 => (f_X12_makes_L2 J27 μ fu2) n21))
      (J27 x2_2)))
      (J27 x2_2)
def f_X12_makes (μ : mu_T) (a1 : Int) : Option (Int × mu_T) :=
  jn_ (φ := Int → Option (Int × mu_T)) (fun x2_27 => eq_ x2_27 24
      (bp_ (f_X12_refused μ 1 24) (fun v37 μ37 => some (v37, μ37)))
      (wr_ μ 1 293 (17 + x2_27) 1 (fun μ50 => jn_ (φ := Int → Option (Int × mu_T)) (fun s0_68 => wr_ μ50 1 293 (65 + x2_27) s0_68 (fun μ68 => rd_ μ68 1 293 2 (fun v82 => wr_ μ68 1 293 (89 + x2_27) v82 (fun μ83 => rd_ μ83 1 293 0 (fun v97 => jn_ (φ := Int → Option (Int × mu_T)) (fun s0_127 => wr_ μ83 1 293 (41 + x2_27) s0_127 (fun μ127 => rd_ μ127 1 293 3 (fun v134 => wr_ μ127 1 293 3 (v134 + 1) (fun μ137 => bp_ (f_X12_done μ137 x2_27) (fun v140 μ140 => some (v140, μ140))))))
      (fun J127 => jn_ (φ := Unit → Option (Int × mu_T)) (fun _ => J127 2)
      (fun J122 => eq_ v97 1
      (J122 ())
      (rd_ μ83 1 293 0 (fun v107 => jn_ (φ := Unit → Option (Int × mu_T)) (fun _ => J127 0)
      (fun J126 => eq_ v107 2
      (rd_ μ83 1 293 1 (fun v118 => lt_ x2_27 v118
      (J126 ())
      (J122 ())))
      (J126 ())))))))))))
      (fun J68 => eq_ a1 0
      (J68 0)
      (J68 1)))))
      (fun J27 => f_X12_makes_L2 J27 μ 20000 0)
set_option maxHeartbeats 4000000 in
set_option maxRecDepth 100000 in
theorem c_X12_makes {G : gp_} {ad : Nat → Nat} (μ : mu_T) (a1 : Int) (a : Int) (μr : mu_T) (h : f_X12_makes μ a1 = some (a, μr)) : mi_ yX12_makes cX12_makes 3 (some .int) ({ frames := 1, cells := 0, slots := 0, locals := 22 } : Room) G 9 ad (ceM G ad) [.ref (ad 0), .int (iI a1)] μ a μr := by
  refine mi_in (own := "UrnHeapModel") (lv := [(0, .ref (ad 0)), (1, .int (iI a1))]) (by decide) rfl rfl (Nat.le_of_ble_eq_true rfl) (fun X C E => ?_)
  unfold f_X12_makes at h
  refine xx_iconst C 1 rfl dX12_makes_0 ?_
  refine xx_istore_n (lv1 := [(2, .int (iI 0)), (0, .ref (ad 0)), (1, .int (iI a1))]) C 2 rfl (by decide) dX12_makes_1 rfl rfl ?_
  refine jn_r (fun J => ∀ (x2_27 : Int), J x2_27 = some (a, μr) → wx_ G X 9 ad (ceM G ad) μ 0 0 27 [(0, .ref (ad 0)), (1, .int (iI a1)), (2, .int (iI x2_27))] []) h (fun x2_27 h => ?_) (fun J27 K27 h => ?_)
  · refine xx_iload_n C 28 rfl 2 dX12_makes_27 rfl rfl ?_
    refine xx_bipush C 30 rfl dX12_makes_28 (by decide) ?_
    refine xx_icmp_ne (tgt := 41) C 33 rfl dX12_makes_30 (by decide) h (fun h => ?_) (fun h => ?_)
    · refine xx_aload_n C 42 rfl 0 dX12_makes_41 rfl rfl ?_
      refine xx_getr (fi := 0) C 45 rfl (by decide) (ceM_0 _ _ _) rfl in_X12 (by decide) rfl w_1179 dX12_makes_42 ?_
      refine xx_bipush C 47 rfl dX12_makes_45 (by decide) ?_
      refine xx_iload_n C 48 rfl 2 dX12_makes_47 rfl rfl ?_
      refine xx_iadd C 49 rfl dX12_makes_48 ?_
      refine xx_iconst C 50 rfl dX12_makes_49 ?_
      refine xx_iastore C 51 rfl (by decide) (fun _ => rfl) (by decide) dX12_makes_50 h (fun μ50 h => ?_)
      refine xx_aload_n C 52 rfl 0 dX12_makes_51 rfl rfl ?_
      refine xx_getr (fi := 0) C 55 rfl (by decide) (ceM_0 _ _ _) rfl in_X12 (by decide) rfl w_1179 dX12_makes_52 ?_
      refine xx_bipush C 57 rfl dX12_makes_55 (by decide) ?_
      refine xx_iload_n C 58 rfl 2 dX12_makes_57 rfl rfl ?_
      refine xx_iadd C 59 rfl dX12_makes_58 ?_
      refine xx_iload_n C 60 rfl 1 dX12_makes_59 rfl rfl ?_
      refine jn_r (fun J => ∀ (s0_68 : Int), J s0_68 = some (a, μr) → wx_ G X 9 ad (ceM G ad) μ50 0 0 68 [(0, .ref (ad 0)), (2, .int (iI x2_27))] [.int (iI s0_68), .int (iI (65 + x2_27)), .ref (ad 1)]) h (fun s0_68 h => ?_) (fun J68 K68 h => ?_)
      · refine xx_iastore C 69 rfl (by decide) (fun _ => rfl) (by decide) dX12_makes_68 h (fun μ68 h => ?_)
        refine xx_aload_n C 70 rfl 0 dX12_makes_69 rfl rfl ?_
        refine xx_getr (fi := 0) C 73 rfl (by decide) (ceM_0 _ _ _) rfl in_X12 (by decide) rfl w_1179 dX12_makes_70 ?_
        refine xx_bipush C 75 rfl dX12_makes_73 (by decide) ?_
        refine xx_iload_n C 76 rfl 1 dX12_makes_75 rfl rfl ?_
        refine xx_iadd C 77 rfl dX12_makes_76 ?_
        refine xx_aload_n C 78 rfl 0 dX12_makes_77 rfl rfl ?_
        refine xx_getr (fi := 0) C 81 rfl (by decide) (ceM_0 _ _ _) rfl in_X12 (by decide) rfl w_1179 dX12_makes_78 ?_
        refine xx_iconst C 82 rfl dX12_makes_81 ?_
        refine xx_iaload C 83 rfl (by decide) (fun _ => rfl) (by decide) dX12_makes_82 h (fun v82 h => ?_)
        refine xx_iastore C 84 rfl (by decide) (fun _ => rfl) (by decide) dX12_makes_83 h (fun μ83 h => ?_)
        refine xx_aload_n C 85 rfl 0 dX12_makes_84 rfl rfl ?_
        refine xx_getr (fi := 0) C 88 rfl (by decide) (ceM_0 _ _ _) rfl in_X12 (by decide) rfl w_1179 dX12_makes_85 ?_
        refine xx_bipush C 90 rfl dX12_makes_88 (by decide) ?_
        refine xx_iload_n C 91 rfl 1 dX12_makes_90 rfl rfl ?_
        refine xx_iadd C 92 rfl dX12_makes_91 ?_
        refine xx_aload_n C 93 rfl 0 dX12_makes_92 rfl rfl ?_
        refine xx_getr (fi := 0) C 96 rfl (by decide) (ceM_0 _ _ _) rfl in_X12 (by decide) rfl w_1179 dX12_makes_93 ?_
        refine xx_iconst C 97 rfl dX12_makes_96 ?_
        refine xx_iaload C 98 rfl (by decide) (fun _ => rfl) (by decide) dX12_makes_97 h (fun v97 h => ?_)
        refine xx_iconst C 99 rfl dX12_makes_98 ?_
        refine jn_r (fun J => ∀ (s0_127 : Int), J s0_127 = some (a, μr) → wx_ G X 9 ad (ceM G ad) μ83 0 0 127 [(0, .ref (ad 0)), (2, .int (iI x2_27))] [.int (iI s0_127), .int (iI (41 + x2_27)), .ref (ad 1)]) h (fun s0_127 h => ?_) (fun J127 K127 h => ?_)
        · refine xx_iastore C 128 rfl (by decide) (fun _ => rfl) (by decide) dX12_makes_127 h (fun μ127 h => ?_)
          refine xx_aload_n C 129 rfl 0 dX12_makes_128 rfl rfl ?_
          refine xx_getr (fi := 0) C 132 rfl (by decide) (ceM_0 _ _ _) rfl in_X12 (by decide) rfl w_1179 dX12_makes_129 ?_
          refine xx_iconst C 133 rfl dX12_makes_132 ?_
          refine xx_dup2 C 134 rfl dX12_makes_133 rfl rfl ?_
          refine xx_iaload C 135 rfl (by decide) (fun _ => rfl) (by decide) dX12_makes_134 h (fun v134 h => ?_)
          refine xx_iconst C 136 rfl dX12_makes_135 ?_
          refine xx_iadd C 137 rfl dX12_makes_136 ?_
          refine xx_iastore C 138 rfl (by decide) (fun _ => rfl) (by decide) dX12_makes_137 h (fun μ137 h => ?_)
          refine xx_aload_n C 139 rfl 0 dX12_makes_138 rfl rfl ?_
          refine xx_iload_n C 140 rfl 1 dX12_makes_139 rfl rfl ?_
          refine xx_cVi (As := [.int (iI x2_27)]) (st := []) (o := 0) C 143 rfl (by decide) (ceM_0 _ _ _) rfl rfl ca_X12_done cv_X12_done w_1256 rfl ⟨Nat.le_of_ble_eq_true rfl, Nat.le_of_ble_eq_true rfl⟩ ⟨Nat.le_of_ble_eq_true rfl, Nat.le_of_ble_eq_true rfl⟩ (Nat.le_of_ble_eq_true rfl) dX12_makes_140 (fun v140 μ140 e9 => c_X12_done _ _ v140 μ140 e9) h (fun v140 μ140 h => ?_) rfl
          exact xx_iret C E rfl ⟨Nat.le_of_ble_eq_true rfl, Nat.le_of_ble_eq_true rfl⟩ dX12_makes_143 h
        · refine jn_r (fun J => ∀ (_u : Unit), J _u = some (a, μr) → wx_ G X 9 ad (ceM G ad) μ83 0 0 122 [(0, .ref (ad 0)), (2, .int (iI x2_27))] [.int (iI (41 + x2_27)), .ref (ad 1)]) h (fun _ h => ?_) (fun J122 K122 h => ?_)
          · refine xx_iconst C 123 rfl dX12_makes_122 ?_
            refine xx_goto C 127 dX12_makes_123 (by decide) ?_
            exact K127 2 h
          · refine xx_icmp_eq (tgt := 122) C 102 rfl dX12_makes_99 (by decide) h (fun h => ?_) (fun h => ?_)
            · exact K122 () h
            · refine xx_aload_n C 103 rfl 0 dX12_makes_102 rfl rfl ?_
              refine xx_getr (fi := 0) C 106 rfl (by decide) (ceM_0 _ _ _) rfl in_X12 (by decide) rfl w_1179 dX12_makes_103 ?_
              refine xx_iconst C 107 rfl dX12_makes_106 ?_
              refine xx_iaload C 108 rfl (by decide) (fun _ => rfl) (by decide) dX12_makes_107 h (fun v107 h => ?_)
              refine xx_iconst C 109 rfl dX12_makes_108 ?_
              refine jn_r (fun J => ∀ (_u : Unit), J _u = some (a, μr) → wx_ G X 9 ad (ceM G ad) μ83 0 0 126 [(0, .ref (ad 0)), (2, .int (iI x2_27))] [.int (iI (41 + x2_27)), .ref (ad 1)]) h (fun _ h => ?_) (fun J126 K126 h => ?_)
              · refine xx_iconst C 127 rfl dX12_makes_126 ?_
                exact K127 0 h
              · refine xx_icmp_ne (tgt := 126) C 112 rfl dX12_makes_109 (by decide) h (fun h => ?_) (fun h => ?_)
                · exact K126 () h
                · refine xx_iload_n C 113 rfl 1 dX12_makes_112 rfl rfl ?_
                  refine xx_aload_n C 114 rfl 0 dX12_makes_113 rfl rfl ?_
                  refine xx_getr (fi := 0) C 117 rfl (by decide) (ceM_0 _ _ _) rfl in_X12 (by decide) rfl w_1179 dX12_makes_114 ?_
                  refine xx_iconst C 118 rfl dX12_makes_117 ?_
                  refine xx_iaload C 119 rfl (by decide) (fun _ => rfl) (by decide) dX12_makes_118 h (fun v118 h => ?_)
                  refine xx_icmp_lt (tgt := 126) C 122 rfl dX12_makes_119 (by decide) h (fun h => ?_) (fun h => ?_)
                  · exact K126 () h
                  · exact K122 () h
      · refine xx_if_eq (tgt := 67) C 63 rfl dX12_makes_60 (by decide) h (fun h => ?_) (fun h => ?_)
        · refine xx_iconst C 68 rfl dX12_makes_67 ?_
          refine xx_sub [0, 2] rfl ?_
          exact K68 0 h
        · refine xx_iconst C 64 rfl dX12_makes_63 ?_
          refine xx_goto C 68 dX12_makes_64 (by decide) ?_
          refine xx_sub [0, 2] rfl ?_
          exact K68 1 h
    · refine xx_aload_n C 34 rfl 0 dX12_makes_33 rfl rfl ?_
      refine xx_iconst C 35 rfl dX12_makes_34 ?_
      refine xx_bipush C 37 rfl dX12_makes_35 (by decide) ?_
      refine xx_cVi (As := [.int (iI 1), .int (iI 24)]) (st := []) (o := 0) C 40 rfl (by decide) (ceM_0 _ _ _) rfl rfl ca_X12_refused cv_X12_refused w_1252 rfl ⟨Nat.le_of_ble_eq_true rfl, Nat.le_of_ble_eq_true rfl⟩ ⟨Nat.le_of_ble_eq_true rfl, Nat.le_of_ble_eq_true rfl⟩ (Nat.le_of_ble_eq_true rfl) dX12_makes_37 (fun v37 μ37 e9 => c_X12_refused _ _ _ v37 μ37 e9) h (fun v37 μ37 h => ?_) rfl
      exact xx_iret C E rfl ⟨Nat.le_of_ble_eq_true rfl, Nat.le_of_ble_eq_true rfl⟩ dX12_makes_40 h
  · have L2 : ∀ (fu2 : Nat) (x2_2 : Int), f_X12_makes_L2 J27 μ fu2 x2_2 = some (a, μr) → wx_ G X 9 ad (ceM G ad) μ 0 0 2 [(0, .ref (ad 0)), (1, .int (iI a1)), (2, .int (iI x2_2))] [] := by
      intro fu2
      induction fu2 with
      | zero => intro x2_2 h; exact nn_ h
      | succ fu2 K2 =>
        intro x2_2 h
        rw [f_X12_makes_L2] at h
        generalize f_X12_makes_L2 J27 μ fu2 = R2 at K2 h
        refine xx_iload_n C 3 rfl 2 dX12_makes_2 rfl rfl ?_
        refine xx_bipush C 5 rfl dX12_makes_3 (by decide) ?_
        refine xx_icmp_ge (tgt := 27) C 8 rfl dX12_makes_5 (by decide) h (fun h => ?_) (fun h => ?_)
        · exact K27 x2_2 h
        · refine xx_aload_n C 9 rfl 0 dX12_makes_8 rfl rfl ?_
          refine xx_getr (fi := 0) C 12 rfl (by decide) (ceM_0 _ _ _) rfl in_X12 (by decide) rfl w_1179 dX12_makes_9 ?_
          refine xx_bipush C 14 rfl dX12_makes_12 (by decide) ?_
          refine xx_iload_n C 15 rfl 2 dX12_makes_14 rfl rfl ?_
          refine xx_iadd C 16 rfl dX12_makes_15 ?_
          refine xx_iaload C 17 rfl (by decide) (fun _ => rfl) (by decide) dX12_makes_16 h (fun v16 h => ?_)
          refine xx_iconst C 18 rfl dX12_makes_17 ?_
          refine xx_icmp_ne (tgt := 27) C 21 rfl dX12_makes_18 (by decide) h (fun h => ?_) (fun h => ?_)
          · exact K27 x2_2 h
          · refine xx_iincn C 24 rfl 2 (by decide) dX12_makes_21 rfl h (fun n21 h => ?_)
            refine xx_lv (lv1 := [(2, .int (iI n21)), (0, .ref (ad 0)), (1, .int (iI a1))]) rfl ?_
            refine xx_goto C 2 dX12_makes_24 (by decide) ?_
            refine xx_sub [1, 2, 0] rfl ?_
            exact K2 n21 h
    refine xx_sub [1, 2, 0] rfl ?_
    exact L2 _ _ h

def f_X12_ties (μ : mu_T) (a1 : Int) (a2 : Int) (a3 : Int) : Option (Int × mu_T) :=
  bd_ (f_X12_isUrn μ a1) (fun v2 => eq_ v2 0
      (some ((-11), μ))
      (bd_ (f_X12_in μ a2 0 3) (fun v11 => eq_ v11 0
      (some ((-11), μ))
      (bd_ (f_X12_isUrn μ a3) (fun v19 => eq_ v19 0
      (some ((-11), μ))
      (bd_ (f_X12_isDoomed μ a1) (fun v30 => eq_ v30 0
      (bd_ (f_X12_isDoomed μ a3) (fun v46 => eq_ v46 0
      (bd_ (f_X12_at μ a1 a2) (fun v66 => rd_ μ 1 293 v66 (fun v69 => bd_ (f_X12_at μ a1 a2) (fun v78 => wr_ μ 1 293 v78 a3 (fun μ82 => rd_ μ82 1 293 0 (fun v88 => eq_ v88 1
      (rd_ μ82 1 293 (41 + a1) (fun v101 => eq_ v101 2
      (bd_ (f_X12_greysIfWhite μ82 a3) (fun μ108 => bp_ (f_X12_done μ108 v69) (fun v114 μ114 => some (v114, μ114))))
      (bp_ (f_X12_done μ82 v69) (fun v114 μ114 => some (v114, μ114)))))
      (bp_ (f_X12_done μ82 v69) (fun v114 μ114 => some (v114, μ114)))))))))
      (bp_ (f_X12_refused μ 7 a3) (fun v56 μ56 => some (v56, μ56)))))
      (bp_ (f_X12_refused μ 7 a1) (fun v40 μ40 => some (v40, μ40))))))))))
set_option maxHeartbeats 4000000 in
set_option maxRecDepth 100000 in
theorem c_X12_ties {G : gp_} {ad : Nat → Nat} (μ : mu_T) (a1 : Int) (a2 : Int) (a3 : Int) (a : Int) (μr : mu_T) (h : f_X12_ties μ a1 a2 a3 = some (a, μr)) : mi_ yX12_ties cX12_ties 5 (some .int) ({ frames := 2, cells := 0, slots := 0, locals := 43 } : Room) G 9 ad (ceM G ad) [.ref (ad 0), .int (iI a1), .int (iI a2), .int (iI a3)] μ a μr := by
  refine mi_in (own := "UrnHeapModel") (lv := [(0, .ref (ad 0)), (1, .int (iI a1)), (2, .int (iI a2)), (3, .int (iI a3))]) (by decide) rfl rfl (Nat.le_of_ble_eq_true rfl) (fun X C E => ?_)
  unfold f_X12_ties at h
  refine xx_aload_n C 1 rfl 0 dX12_ties_0 rfl rfl ?_
  refine xx_iload_n C 2 rfl 1 dX12_ties_1 rfl rfl ?_
  refine xx_cVip (As := [.int (iI a1)]) (st := []) (o := 0) C 5 rfl (by decide) (ceM_0 _ _ _) rfl rfl ca_X12_isUrn cv_X12_isUrn w_1276 rfl ⟨Nat.le_of_ble_eq_true rfl, Nat.le_of_ble_eq_true rfl⟩ ⟨Nat.le_of_ble_eq_true rfl, Nat.le_of_ble_eq_true rfl⟩ (Nat.le_of_ble_eq_true rfl) dX12_ties_2 (fun v2 e9 => c_X12_isUrn _ _ v2 e9) h (fun v2 h => ?_) rfl
  refine xx_if_eq (tgt := 25) C 8 rfl dX12_ties_5 (by decide) h (fun h => ?_) (fun h => ?_)
  · refine xx_bipush C 27 rfl dX12_ties_25 (by decide) ?_
    exact xx_iret C E rfl ⟨Nat.le_of_ble_eq_true rfl, Nat.le_of_ble_eq_true rfl⟩ dX12_ties_27 h
  · refine xx_iload_n C 9 rfl 2 dX12_ties_8 rfl rfl ?_
    refine xx_iconst C 10 rfl dX12_ties_9 ?_
    refine xx_iconst C 11 rfl dX12_ties_10 ?_
    refine xx_cSip (As := [.int (iI a2), .int (iI 0), .int (iI 3)]) (st := []) C 14 rfl  ca_X12_in cs_X12_in w_1280 rfl ⟨Nat.le_of_ble_eq_true rfl, Nat.le_of_ble_eq_true rfl⟩ ⟨Nat.le_of_ble_eq_true rfl, Nat.le_of_ble_eq_true rfl⟩ (Nat.le_of_ble_eq_true rfl) dX12_ties_11 (fun v11 e9 => c_X12_in _ _ _ _ v11 e9) h (fun v11 h => ?_) rfl
    refine xx_if_eq (tgt := 25) C 17 rfl dX12_ties_14 (by decide) h (fun h => ?_) (fun h => ?_)
    · refine xx_bipush C 27 rfl dX12_ties_25 (by decide) ?_
      exact xx_iret C E rfl ⟨Nat.le_of_ble_eq_true rfl, Nat.le_of_ble_eq_true rfl⟩ dX12_ties_27 h
    · refine xx_aload_n C 18 rfl 0 dX12_ties_17 rfl rfl ?_
      refine xx_iload_n C 19 rfl 3 dX12_ties_18 rfl rfl ?_
      refine xx_cVip (As := [.int (iI a3)]) (st := []) (o := 0) C 22 rfl (by decide) (ceM_0 _ _ _) rfl rfl ca_X12_isUrn cv_X12_isUrn w_1276 rfl ⟨Nat.le_of_ble_eq_true rfl, Nat.le_of_ble_eq_true rfl⟩ ⟨Nat.le_of_ble_eq_true rfl, Nat.le_of_ble_eq_true rfl⟩ (Nat.le_of_ble_eq_true rfl) dX12_ties_19 (fun v19 e9 => c_X12_isUrn _ _ v19 e9) h (fun v19 h => ?_) rfl
      refine xx_if_ne (tgt := 28) C 25 rfl dX12_ties_22 (by decide) h (fun h => ?_) (fun h => ?_)
      · refine xx_aload_n C 29 rfl 0 dX12_ties_28 rfl rfl ?_
        refine xx_iload_n C 30 rfl 1 dX12_ties_29 rfl rfl ?_
        refine xx_cVip (As := [.int (iI a1)]) (st := []) (o := 0) C 33 rfl (by decide) (ceM_0 _ _ _) rfl rfl ca_X12_isDoomed cv_X12_isDoomed w_1283 rfl ⟨Nat.le_of_ble_eq_true rfl, Nat.le_of_ble_eq_true rfl⟩ ⟨Nat.le_of_ble_eq_true rfl, Nat.le_of_ble_eq_true rfl⟩ (Nat.le_of_ble_eq_true rfl) dX12_ties_30 (fun v30 e9 => c_X12_isDoomed _ _ v30 e9) h (fun v30 h => ?_) rfl
        refine xx_if_eq (tgt := 44) C 36 rfl dX12_ties_33 (by decide) h (fun h => ?_) (fun h => ?_)
        · refine xx_aload_n C 45 rfl 0 dX12_ties_44 rfl rfl ?_
          refine xx_iload_n C 46 rfl 3 dX12_ties_45 rfl rfl ?_
          refine xx_cVip (As := [.int (iI a3)]) (st := []) (o := 0) C 49 rfl (by decide) (ceM_0 _ _ _) rfl rfl ca_X12_isDoomed cv_X12_isDoomed w_1283 rfl ⟨Nat.le_of_ble_eq_true rfl, Nat.le_of_ble_eq_true rfl⟩ ⟨Nat.le_of_ble_eq_true rfl, Nat.le_of_ble_eq_true rfl⟩ (Nat.le_of_ble_eq_true rfl) dX12_ties_46 (fun v46 e9 => c_X12_isDoomed _ _ v46 e9) h (fun v46 h => ?_) rfl
          refine xx_if_eq (tgt := 60) C 52 rfl dX12_ties_49 (by decide) h (fun h => ?_) (fun h => ?_)
          · refine xx_aload_n C 61 rfl 0 dX12_ties_60 rfl rfl ?_
            refine xx_getr (fi := 0) C 64 rfl (by decide) (ceM_0 _ _ _) rfl in_X12 (by decide) rfl w_1179 dX12_ties_61 ?_
            refine xx_iload_n C 65 rfl 1 dX12_ties_64 rfl rfl ?_
            refine xx_iload_n C 66 rfl 2 dX12_ties_65 rfl rfl ?_
            refine xx_cSip (As := [.int (iI a1), .int (iI a2)]) (st := [.ref (ad 1)]) C 69 rfl  ca_X12_at cs_X12_at w_1176 rfl ⟨Nat.le_of_ble_eq_true rfl, Nat.le_of_ble_eq_true rfl⟩ ⟨Nat.le_of_ble_eq_true rfl, Nat.le_of_ble_eq_true rfl⟩ (Nat.le_of_ble_eq_true rfl) dX12_ties_66 (fun v66 e9 => c_X12_at _ _ _ v66 e9) h (fun v66 h => ?_) rfl
            refine xx_iaload C 70 rfl (by decide) (fun _ => rfl) (by decide) dX12_ties_69 h (fun v69 h => ?_)
            refine xx_istore (lv1 := [(4, .int (iI v69)), (0, .ref (ad 0)), (1, .int (iI a1)), (2, .int (iI a2)), (3, .int (iI a3))]) C 72 rfl (by decide) dX12_ties_70 rfl ?_
            refine xx_aload_n C 73 rfl 1 dX12_ties_72 rfl rfl ?_
            refine xx_getr (fi := 0) C 76 rfl (by decide) (ceM_0 _ _ _) rfl in_X12 (by decide) rfl w_1179 dX12_ties_73 ?_
            refine xx_iload_n C 77 rfl 2 dX12_ties_76 rfl rfl ?_
            refine xx_iload_n C 78 rfl 3 dX12_ties_77 rfl rfl ?_
            refine xx_cSip (As := [.int (iI a1), .int (iI a2)]) (st := [.ref (ad 1)]) C 81 rfl  ca_X12_at cs_X12_at w_1176 rfl ⟨Nat.le_of_ble_eq_true rfl, Nat.le_of_ble_eq_true rfl⟩ ⟨Nat.le_of_ble_eq_true rfl, Nat.le_of_ble_eq_true rfl⟩ (Nat.le_of_ble_eq_true rfl) dX12_ties_78 (fun v78 e9 => c_X12_at _ _ _ v78 e9) h (fun v78 h => ?_) rfl
            refine xx_iload_n C 82 rfl 4 dX12_ties_81 rfl rfl ?_
            refine xx_iastore C 83 rfl (by decide) (fun _ => rfl) (by decide) dX12_ties_82 h (fun μ82 h => ?_)
            refine xx_aload_n C 84 rfl 1 dX12_ties_83 rfl rfl ?_
            refine xx_getr (fi := 0) C 87 rfl (by decide) (ceM_0 _ _ _) rfl in_X12 (by decide) rfl w_1179 dX12_ties_84 ?_
            refine xx_iconst C 88 rfl dX12_ties_87 ?_
            refine xx_iaload C 89 rfl (by decide) (fun _ => rfl) (by decide) dX12_ties_88 h (fun v88 h => ?_)
            refine xx_iconst C 90 rfl dX12_ties_89 ?_
            refine xx_icmp_ne (tgt := 111) C 93 rfl dX12_ties_90 (by decide) h (fun h => ?_) (fun h => ?_)
            · refine xx_aload_n C 112 rfl 1 dX12_ties_111 rfl rfl ?_
              refine xx_iload C 114 rfl 0 dX12_ties_112 rfl ?_
              refine xx_cVi (As := [.int (iI v69)]) (st := []) (o := 0) C 117 rfl (by decide) (ceM_0 _ _ _) rfl rfl ca_X12_done cv_X12_done w_1256 rfl ⟨Nat.le_of_ble_eq_true rfl, Nat.le_of_ble_eq_true rfl⟩ ⟨Nat.le_of_ble_eq_true rfl, Nat.le_of_ble_eq_true rfl⟩ (Nat.le_of_ble_eq_true rfl) dX12_ties_114 (fun v114 μ114 e9 => c_X12_done _ _ v114 μ114 e9) h (fun v114 μ114 h => ?_) rfl
              exact xx_iret C E rfl ⟨Nat.le_of_ble_eq_true rfl, Nat.le_of_ble_eq_true rfl⟩ dX12_ties_117 h
            · refine xx_aload_n C 94 rfl 1 dX12_ties_93 rfl rfl ?_
              refine xx_getr (fi := 0) C 97 rfl (by decide) (ceM_0 _ _ _) rfl in_X12 (by decide) rfl w_1179 dX12_ties_94 ?_
              refine xx_bipush C 99 rfl dX12_ties_97 (by decide) ?_
              refine xx_iload_n C 100 rfl 2 dX12_ties_99 rfl rfl ?_
              refine xx_iadd C 101 rfl dX12_ties_100 ?_
              refine xx_iaload C 102 rfl (by decide) (fun _ => rfl) (by decide) dX12_ties_101 h (fun v101 h => ?_)
              refine xx_iconst C 103 rfl dX12_ties_102 ?_
              refine xx_icmp_ne (tgt := 111) C 106 rfl dX12_ties_103 (by decide) h (fun h => ?_) (fun h => ?_)
              · refine xx_aload_n C 112 rfl 1 dX12_ties_111 rfl rfl ?_
                refine xx_iload C 114 rfl 0 dX12_ties_112 rfl ?_
                refine xx_cVi (As := [.int (iI v69)]) (st := []) (o := 0) C 117 rfl (by decide) (ceM_0 _ _ _) rfl rfl ca_X12_done cv_X12_done w_1256 rfl ⟨Nat.le_of_ble_eq_true rfl, Nat.le_of_ble_eq_true rfl⟩ ⟨Nat.le_of_ble_eq_true rfl, Nat.le_of_ble_eq_true rfl⟩ (Nat.le_of_ble_eq_true rfl) dX12_ties_114 (fun v114 μ114 e9 => c_X12_done _ _ v114 μ114 e9) h (fun v114 μ114 h => ?_) rfl
                exact xx_iret C E rfl ⟨Nat.le_of_ble_eq_true rfl, Nat.le_of_ble_eq_true rfl⟩ dX12_ties_117 h
              · refine xx_aload_n C 107 rfl 1 dX12_ties_106 rfl rfl ?_
                refine xx_iload_n C 108 rfl 4 dX12_ties_107 rfl rfl ?_
                refine xx_cVv (As := [.int (iI a3)]) (st := []) (o := 0) C 111 rfl (by decide) (ceM_0 _ _ _) rfl rfl ca_X12_greysIfWhite cv_X12_greysIfWhite w_1287 rfl ⟨Nat.le_of_ble_eq_true rfl, Nat.le_of_ble_eq_true rfl⟩ ⟨Nat.le_of_ble_eq_true rfl, Nat.le_of_ble_eq_true rfl⟩ (Nat.le_of_ble_eq_true rfl) dX12_ties_108 (fun μ108 e9 => c_X12_greysIfWhite _ _ μ108 e9) h (fun μ108 h => ?_) rfl
                refine xx_aload_n C 112 rfl 1 dX12_ties_111 rfl rfl ?_
                refine xx_iload C 114 rfl 0 dX12_ties_112 rfl ?_
                refine xx_cVi (As := [.int (iI v69)]) (st := []) (o := 0) C 117 rfl (by decide) (ceM_0 _ _ _) rfl rfl ca_X12_done cv_X12_done w_1256 rfl ⟨Nat.le_of_ble_eq_true rfl, Nat.le_of_ble_eq_true rfl⟩ ⟨Nat.le_of_ble_eq_true rfl, Nat.le_of_ble_eq_true rfl⟩ (Nat.le_of_ble_eq_true rfl) dX12_ties_114 (fun v114 μ114 e9 => c_X12_done _ _ v114 μ114 e9) h (fun v114 μ114 h => ?_) rfl
                exact xx_iret C E rfl ⟨Nat.le_of_ble_eq_true rfl, Nat.le_of_ble_eq_true rfl⟩ dX12_ties_117 h
          · refine xx_aload_n C 53 rfl 0 dX12_ties_52 rfl rfl ?_
            refine xx_bipush C 55 rfl dX12_ties_53 (by decide) ?_
            refine xx_iload_n C 56 rfl 3 dX12_ties_55 rfl rfl ?_
            refine xx_cVi (As := [.int (iI 7), .int (iI a3)]) (st := []) (o := 0) C 59 rfl (by decide) (ceM_0 _ _ _) rfl rfl ca_X12_refused cv_X12_refused w_1252 rfl ⟨Nat.le_of_ble_eq_true rfl, Nat.le_of_ble_eq_true rfl⟩ ⟨Nat.le_of_ble_eq_true rfl, Nat.le_of_ble_eq_true rfl⟩ (Nat.le_of_ble_eq_true rfl) dX12_ties_56 (fun v56 μ56 e9 => c_X12_refused _ _ _ v56 μ56 e9) h (fun v56 μ56 h => ?_) rfl
            exact xx_iret C E rfl ⟨Nat.le_of_ble_eq_true rfl, Nat.le_of_ble_eq_true rfl⟩ dX12_ties_59 h
        · refine xx_aload_n C 37 rfl 0 dX12_ties_36 rfl rfl ?_
          refine xx_bipush C 39 rfl dX12_ties_37 (by decide) ?_
          refine xx_iload_n C 40 rfl 1 dX12_ties_39 rfl rfl ?_
          refine xx_cVi (As := [.int (iI 7), .int (iI a1)]) (st := []) (o := 0) C 43 rfl (by decide) (ceM_0 _ _ _) rfl rfl ca_X12_refused cv_X12_refused w_1252 rfl ⟨Nat.le_of_ble_eq_true rfl, Nat.le_of_ble_eq_true rfl⟩ ⟨Nat.le_of_ble_eq_true rfl, Nat.le_of_ble_eq_true rfl⟩ (Nat.le_of_ble_eq_true rfl) dX12_ties_40 (fun v40 μ40 e9 => c_X12_refused _ _ _ v40 μ40 e9) h (fun v40 μ40 h => ?_) rfl
          exact xx_iret C E rfl ⟨Nat.le_of_ble_eq_true rfl, Nat.le_of_ble_eq_true rfl⟩ dX12_ties_43 h
      · refine xx_bipush C 27 rfl dX12_ties_25 (by decide) ?_
        exact xx_iret C E rfl ⟨Nat.le_of_ble_eq_true rfl, Nat.le_of_ble_eq_true rfl⟩ dX12_ties_27 h

def f_X12_unties (μ : mu_T) (a1 : Int) (a2 : Int) : Option (Int × mu_T) :=
  bd_ (f_X12_isUrn μ a1) (fun v2 => eq_ v2 0
      (some ((-11), μ))
      (bd_ (f_X12_in μ a2 0 3) (fun v11 => eq_ v11 0
      (some ((-11), μ))
      (bd_ (f_X12_at μ a1 a2) (fun v26 => rd_ μ 1 293 v26 (fun v29 => eq_ v29 (-15)
      (bp_ (f_X12_refused μ 2 a2) (fun v40 μ40 => some (v40, μ40)))
      (bd_ (f_X12_at μ a1 a2) (fun v50 => wr_ μ 1 293 v50 (-15) (fun μ55 => bp_ (f_X12_done μ55 v29) (fun v58 μ58 => some (v58, μ58)))))))))))
set_option maxHeartbeats 4000000 in
set_option maxRecDepth 100000 in
theorem c_X12_unties {G : gp_} {ad : Nat → Nat} (μ : mu_T) (a1 : Int) (a2 : Int) (a : Int) (μr : mu_T) (h : f_X12_unties μ a1 a2 = some (a, μr)) : mi_ yX12_unties cX12_unties 4 (some .int) ({ frames := 2, cells := 0, slots := 0, locals := 43 } : Room) G 9 ad (ceM G ad) [.ref (ad 0), .int (iI a1), .int (iI a2)] μ a μr := by
  refine mi_in (own := "UrnHeapModel") (lv := [(0, .ref (ad 0)), (1, .int (iI a1)), (2, .int (iI a2))]) (by decide) rfl rfl (Nat.le_of_ble_eq_true rfl) (fun X C E => ?_)
  unfold f_X12_unties at h
  refine xx_aload_n C 1 rfl 0 dX12_unties_0 rfl rfl ?_
  refine xx_iload_n C 2 rfl 1 dX12_unties_1 rfl rfl ?_
  refine xx_cVip (As := [.int (iI a1)]) (st := []) (o := 0) C 5 rfl (by decide) (ceM_0 _ _ _) rfl rfl ca_X12_isUrn cv_X12_isUrn w_1276 rfl ⟨Nat.le_of_ble_eq_true rfl, Nat.le_of_ble_eq_true rfl⟩ ⟨Nat.le_of_ble_eq_true rfl, Nat.le_of_ble_eq_true rfl⟩ (Nat.le_of_ble_eq_true rfl) dX12_unties_2 (fun v2 e9 => c_X12_isUrn _ _ v2 e9) h (fun v2 h => ?_) rfl
  refine xx_if_eq (tgt := 17) C 8 rfl dX12_unties_5 (by decide) h (fun h => ?_) (fun h => ?_)
  · refine xx_bipush C 19 rfl dX12_unties_17 (by decide) ?_
    exact xx_iret C E rfl ⟨Nat.le_of_ble_eq_true rfl, Nat.le_of_ble_eq_true rfl⟩ dX12_unties_19 h
  · refine xx_iload_n C 9 rfl 2 dX12_unties_8 rfl rfl ?_
    refine xx_iconst C 10 rfl dX12_unties_9 ?_
    refine xx_iconst C 11 rfl dX12_unties_10 ?_
    refine xx_cSip (As := [.int (iI a2), .int (iI 0), .int (iI 3)]) (st := []) C 14 rfl  ca_X12_in cs_X12_in w_1280 rfl ⟨Nat.le_of_ble_eq_true rfl, Nat.le_of_ble_eq_true rfl⟩ ⟨Nat.le_of_ble_eq_true rfl, Nat.le_of_ble_eq_true rfl⟩ (Nat.le_of_ble_eq_true rfl) dX12_unties_11 (fun v11 e9 => c_X12_in _ _ _ _ v11 e9) h (fun v11 h => ?_) rfl
    refine xx_if_ne (tgt := 20) C 17 rfl dX12_unties_14 (by decide) h (fun h => ?_) (fun h => ?_)
    · refine xx_aload_n C 21 rfl 0 dX12_unties_20 rfl rfl ?_
      refine xx_getr (fi := 0) C 24 rfl (by decide) (ceM_0 _ _ _) rfl in_X12 (by decide) rfl w_1179 dX12_unties_21 ?_
      refine xx_iload_n C 25 rfl 1 dX12_unties_24 rfl rfl ?_
      refine xx_iload_n C 26 rfl 2 dX12_unties_25 rfl rfl ?_
      refine xx_cSip (As := [.int (iI a1), .int (iI a2)]) (st := [.ref (ad 1)]) C 29 rfl  ca_X12_at cs_X12_at w_1176 rfl ⟨Nat.le_of_ble_eq_true rfl, Nat.le_of_ble_eq_true rfl⟩ ⟨Nat.le_of_ble_eq_true rfl, Nat.le_of_ble_eq_true rfl⟩ (Nat.le_of_ble_eq_true rfl) dX12_unties_26 (fun v26 e9 => c_X12_at _ _ _ v26 e9) h (fun v26 h => ?_) rfl
      refine xx_iaload C 30 rfl (by decide) (fun _ => rfl) (by decide) dX12_unties_29 h (fun v29 h => ?_)
      refine xx_istore_n (lv1 := [(3, .int (iI v29)), (0, .ref (ad 0)), (1, .int (iI a1)), (2, .int (iI a2))]) C 31 rfl (by decide) dX12_unties_30 rfl rfl ?_
      refine xx_iload_n C 32 rfl 0 dX12_unties_31 rfl rfl ?_
      refine xx_bipush C 34 rfl dX12_unties_32 (by decide) ?_
      refine xx_icmp_ne (tgt := 44) C 37 rfl dX12_unties_34 (by decide) h (fun h => ?_) (fun h => ?_)
      · refine xx_aload_n C 45 rfl 1 dX12_unties_44 rfl rfl ?_
        refine xx_getr (fi := 0) C 48 rfl (by decide) (ceM_0 _ _ _) rfl in_X12 (by decide) rfl w_1179 dX12_unties_45 ?_
        refine xx_iload_n C 49 rfl 2 dX12_unties_48 rfl rfl ?_
        refine xx_iload_n C 50 rfl 3 dX12_unties_49 rfl rfl ?_
        refine xx_cSip (As := [.int (iI a1), .int (iI a2)]) (st := [.ref (ad 1)]) C 53 rfl  ca_X12_at cs_X12_at w_1176 rfl ⟨Nat.le_of_ble_eq_true rfl, Nat.le_of_ble_eq_true rfl⟩ ⟨Nat.le_of_ble_eq_true rfl, Nat.le_of_ble_eq_true rfl⟩ (Nat.le_of_ble_eq_true rfl) dX12_unties_50 (fun v50 e9 => c_X12_at _ _ _ v50 e9) h (fun v50 h => ?_) rfl
        refine xx_bipush C 55 rfl dX12_unties_53 (by decide) ?_
        refine xx_iastore C 56 rfl (by decide) (fun _ => rfl) (by decide) dX12_unties_55 h (fun μ55 h => ?_)
        refine xx_aload_n C 57 rfl 1 dX12_unties_56 rfl rfl ?_
        refine xx_iload_n C 58 rfl 0 dX12_unties_57 rfl rfl ?_
        refine xx_cVi (As := [.int (iI v29)]) (st := []) (o := 0) C 61 rfl (by decide) (ceM_0 _ _ _) rfl rfl ca_X12_done cv_X12_done w_1256 rfl ⟨Nat.le_of_ble_eq_true rfl, Nat.le_of_ble_eq_true rfl⟩ ⟨Nat.le_of_ble_eq_true rfl, Nat.le_of_ble_eq_true rfl⟩ (Nat.le_of_ble_eq_true rfl) dX12_unties_58 (fun v58 μ58 e9 => c_X12_done _ _ v58 μ58 e9) h (fun v58 μ58 h => ?_) rfl
        exact xx_iret C E rfl ⟨Nat.le_of_ble_eq_true rfl, Nat.le_of_ble_eq_true rfl⟩ dX12_unties_61 h
      · refine xx_aload_n C 38 rfl 1 dX12_unties_37 rfl rfl ?_
        refine xx_iconst C 39 rfl dX12_unties_38 ?_
        refine xx_iload_n C 40 rfl 3 dX12_unties_39 rfl rfl ?_
        refine xx_cVi (As := [.int (iI 2), .int (iI a2)]) (st := []) (o := 0) C 43 rfl (by decide) (ceM_0 _ _ _) rfl rfl ca_X12_refused cv_X12_refused w_1252 rfl ⟨Nat.le_of_ble_eq_true rfl, Nat.le_of_ble_eq_true rfl⟩ ⟨Nat.le_of_ble_eq_true rfl, Nat.le_of_ble_eq_true rfl⟩ (Nat.le_of_ble_eq_true rfl) dX12_unties_40 (fun v40 μ40 e9 => c_X12_refused _ _ _ v40 μ40 e9) h (fun v40 μ40 h => ?_) rfl
        exact xx_iret C E rfl ⟨Nat.le_of_ble_eq_true rfl, Nat.le_of_ble_eq_true rfl⟩ dX12_unties_43 h
    · refine xx_bipush C 19 rfl dX12_unties_17 (by decide) ?_
      exact xx_iret C E rfl ⟨Nat.le_of_ble_eq_true rfl, Nat.le_of_ble_eq_true rfl⟩ dX12_unties_19 h

def f_X12_weakens (μ : mu_T) (a1 : Int) (a2 : Int) : Option (Int × mu_T) :=
  bd_ (f_X12_isUrn μ a1) (fun v2 => eq_ v2 0
      (some ((-11), μ))
      (bd_ (f_X12_isUrn μ a2) (fun v10 => eq_ v10 0
      (some ((-11), μ))
      (bd_ (f_X12_isDoomed μ a1) (fun v21 => eq_ v21 0
      (bd_ (f_X12_isDoomed μ a2) (fun v37 => eq_ v37 0
      (rd_ μ 1 293 (113 + a1) (fun v59 => wr_ μ 1 293 (113 + a1) a2 (fun μ70 => bp_ (f_X12_done μ70 v59) (fun v73 μ73 => some (v73, μ73)))))
      (bp_ (f_X12_refused μ 7 a2) (fun v47 μ47 => some (v47, μ47)))))
      (bp_ (f_X12_refused μ 7 a1) (fun v31 μ31 => some (v31, μ31))))))))
set_option maxHeartbeats 4000000 in
set_option maxRecDepth 100000 in
theorem c_X12_weakens {G : gp_} {ad : Nat → Nat} (μ : mu_T) (a1 : Int) (a2 : Int) (a : Int) (μr : mu_T) (h : f_X12_weakens μ a1 a2 = some (a, μr)) : mi_ yX12_weakens cX12_weakens 4 (some .int) ({ frames := 2, cells := 0, slots := 0, locals := 43 } : Room) G 9 ad (ceM G ad) [.ref (ad 0), .int (iI a1), .int (iI a2)] μ a μr := by
  refine mi_in (own := "UrnHeapModel") (lv := [(0, .ref (ad 0)), (1, .int (iI a1)), (2, .int (iI a2))]) (by decide) rfl rfl (Nat.le_of_ble_eq_true rfl) (fun X C E => ?_)
  unfold f_X12_weakens at h
  refine xx_aload_n C 1 rfl 0 dX12_weakens_0 rfl rfl ?_
  refine xx_iload_n C 2 rfl 1 dX12_weakens_1 rfl rfl ?_
  refine xx_cVip (As := [.int (iI a1)]) (st := []) (o := 0) C 5 rfl (by decide) (ceM_0 _ _ _) rfl rfl ca_X12_isUrn cv_X12_isUrn w_1276 rfl ⟨Nat.le_of_ble_eq_true rfl, Nat.le_of_ble_eq_true rfl⟩ ⟨Nat.le_of_ble_eq_true rfl, Nat.le_of_ble_eq_true rfl⟩ (Nat.le_of_ble_eq_true rfl) dX12_weakens_2 (fun v2 e9 => c_X12_isUrn _ _ v2 e9) h (fun v2 h => ?_) rfl
  refine xx_if_eq (tgt := 16) C 8 rfl dX12_weakens_5 (by decide) h (fun h => ?_) (fun h => ?_)
  · refine xx_bipush C 18 rfl dX12_weakens_16 (by decide) ?_
    exact xx_iret C E rfl ⟨Nat.le_of_ble_eq_true rfl, Nat.le_of_ble_eq_true rfl⟩ dX12_weakens_18 h
  · refine xx_aload_n C 9 rfl 0 dX12_weakens_8 rfl rfl ?_
    refine xx_iload_n C 10 rfl 2 dX12_weakens_9 rfl rfl ?_
    refine xx_cVip (As := [.int (iI a2)]) (st := []) (o := 0) C 13 rfl (by decide) (ceM_0 _ _ _) rfl rfl ca_X12_isUrn cv_X12_isUrn w_1276 rfl ⟨Nat.le_of_ble_eq_true rfl, Nat.le_of_ble_eq_true rfl⟩ ⟨Nat.le_of_ble_eq_true rfl, Nat.le_of_ble_eq_true rfl⟩ (Nat.le_of_ble_eq_true rfl) dX12_weakens_10 (fun v10 e9 => c_X12_isUrn _ _ v10 e9) h (fun v10 h => ?_) rfl
    refine xx_if_ne (tgt := 19) C 16 rfl dX12_weakens_13 (by decide) h (fun h => ?_) (fun h => ?_)
    · refine xx_aload_n C 20 rfl 0 dX12_weakens_19 rfl rfl ?_
      refine xx_iload_n C 21 rfl 1 dX12_weakens_20 rfl rfl ?_
      refine xx_cVip (As := [.int (iI a1)]) (st := []) (o := 0) C 24 rfl (by decide) (ceM_0 _ _ _) rfl rfl ca_X12_isDoomed cv_X12_isDoomed w_1283 rfl ⟨Nat.le_of_ble_eq_true rfl, Nat.le_of_ble_eq_true rfl⟩ ⟨Nat.le_of_ble_eq_true rfl, Nat.le_of_ble_eq_true rfl⟩ (Nat.le_of_ble_eq_true rfl) dX12_weakens_21 (fun v21 e9 => c_X12_isDoomed _ _ v21 e9) h (fun v21 h => ?_) rfl
      refine xx_if_eq (tgt := 35) C 27 rfl dX12_weakens_24 (by decide) h (fun h => ?_) (fun h => ?_)
      · refine xx_aload_n C 36 rfl 0 dX12_weakens_35 rfl rfl ?_
        refine xx_iload_n C 37 rfl 2 dX12_weakens_36 rfl rfl ?_
        refine xx_cVip (As := [.int (iI a2)]) (st := []) (o := 0) C 40 rfl (by decide) (ceM_0 _ _ _) rfl rfl ca_X12_isDoomed cv_X12_isDoomed w_1283 rfl ⟨Nat.le_of_ble_eq_true rfl, Nat.le_of_ble_eq_true rfl⟩ ⟨Nat.le_of_ble_eq_true rfl, Nat.le_of_ble_eq_true rfl⟩ (Nat.le_of_ble_eq_true rfl) dX12_weakens_37 (fun v37 e9 => c_X12_isDoomed _ _ v37 e9) h (fun v37 h => ?_) rfl
        refine xx_if_eq (tgt := 51) C 43 rfl dX12_weakens_40 (by decide) h (fun h => ?_) (fun h => ?_)
        · refine xx_aload_n C 52 rfl 0 dX12_weakens_51 rfl rfl ?_
          refine xx_getr (fi := 0) C 55 rfl (by decide) (ceM_0 _ _ _) rfl in_X12 (by decide) rfl w_1179 dX12_weakens_52 ?_
          refine xx_bipush C 57 rfl dX12_weakens_55 (by decide) ?_
          refine xx_iload_n C 58 rfl 1 dX12_weakens_57 rfl rfl ?_
          refine xx_iadd C 59 rfl dX12_weakens_58 ?_
          refine xx_iaload C 60 rfl (by decide) (fun _ => rfl) (by decide) dX12_weakens_59 h (fun v59 h => ?_)
          refine xx_istore_n (lv1 := [(3, .int (iI v59)), (0, .ref (ad 0)), (1, .int (iI a1)), (2, .int (iI a2))]) C 61 rfl (by decide) dX12_weakens_60 rfl rfl ?_
          refine xx_aload_n C 62 rfl 1 dX12_weakens_61 rfl rfl ?_
          refine xx_getr (fi := 0) C 65 rfl (by decide) (ceM_0 _ _ _) rfl in_X12 (by decide) rfl w_1179 dX12_weakens_62 ?_
          refine xx_bipush C 67 rfl dX12_weakens_65 (by decide) ?_
          refine xx_iload_n C 68 rfl 2 dX12_weakens_67 rfl rfl ?_
          refine xx_iadd C 69 rfl dX12_weakens_68 ?_
          refine xx_iload_n C 70 rfl 3 dX12_weakens_69 rfl rfl ?_
          refine xx_iastore C 71 rfl (by decide) (fun _ => rfl) (by decide) dX12_weakens_70 h (fun μ70 h => ?_)
          refine xx_aload_n C 72 rfl 1 dX12_weakens_71 rfl rfl ?_
          refine xx_iload_n C 73 rfl 0 dX12_weakens_72 rfl rfl ?_
          refine xx_cVi (As := [.int (iI v59)]) (st := []) (o := 0) C 76 rfl (by decide) (ceM_0 _ _ _) rfl rfl ca_X12_done cv_X12_done w_1256 rfl ⟨Nat.le_of_ble_eq_true rfl, Nat.le_of_ble_eq_true rfl⟩ ⟨Nat.le_of_ble_eq_true rfl, Nat.le_of_ble_eq_true rfl⟩ (Nat.le_of_ble_eq_true rfl) dX12_weakens_73 (fun v73 μ73 e9 => c_X12_done _ _ v73 μ73 e9) h (fun v73 μ73 h => ?_) rfl
          exact xx_iret C E rfl ⟨Nat.le_of_ble_eq_true rfl, Nat.le_of_ble_eq_true rfl⟩ dX12_weakens_76 h
        · refine xx_aload_n C 44 rfl 0 dX12_weakens_43 rfl rfl ?_
          refine xx_bipush C 46 rfl dX12_weakens_44 (by decide) ?_
          refine xx_iload_n C 47 rfl 2 dX12_weakens_46 rfl rfl ?_
          refine xx_cVi (As := [.int (iI 7), .int (iI a2)]) (st := []) (o := 0) C 50 rfl (by decide) (ceM_0 _ _ _) rfl rfl ca_X12_refused cv_X12_refused w_1252 rfl ⟨Nat.le_of_ble_eq_true rfl, Nat.le_of_ble_eq_true rfl⟩ ⟨Nat.le_of_ble_eq_true rfl, Nat.le_of_ble_eq_true rfl⟩ (Nat.le_of_ble_eq_true rfl) dX12_weakens_47 (fun v47 μ47 e9 => c_X12_refused _ _ _ v47 μ47 e9) h (fun v47 μ47 h => ?_) rfl
          exact xx_iret C E rfl ⟨Nat.le_of_ble_eq_true rfl, Nat.le_of_ble_eq_true rfl⟩ dX12_weakens_50 h
      · refine xx_aload_n C 28 rfl 0 dX12_weakens_27 rfl rfl ?_
        refine xx_bipush C 30 rfl dX12_weakens_28 (by decide) ?_
        refine xx_iload_n C 31 rfl 1 dX12_weakens_30 rfl rfl ?_
        refine xx_cVi (As := [.int (iI 7), .int (iI a1)]) (st := []) (o := 0) C 34 rfl (by decide) (ceM_0 _ _ _) rfl rfl ca_X12_refused cv_X12_refused w_1252 rfl ⟨Nat.le_of_ble_eq_true rfl, Nat.le_of_ble_eq_true rfl⟩ ⟨Nat.le_of_ble_eq_true rfl, Nat.le_of_ble_eq_true rfl⟩ (Nat.le_of_ble_eq_true rfl) dX12_weakens_31 (fun v31 μ31 e9 => c_X12_refused _ _ _ v31 μ31 e9) h (fun v31 μ31 h => ?_) rfl
        exact xx_iret C E rfl ⟨Nat.le_of_ble_eq_true rfl, Nat.le_of_ble_eq_true rfl⟩ dX12_weakens_34 h
    · refine xx_bipush C 18 rfl dX12_weakens_16 (by decide) ?_
      exact xx_iret C E rfl ⟨Nat.le_of_ble_eq_true rfl, Nat.le_of_ble_eq_true rfl⟩ dX12_weakens_18 h

def f_X12_names (μ : mu_T) (a1 : Int) (a2 : Int) : Option (Int × mu_T) :=
  bd_ (f_X12_in μ a1 0 5) (fun v3 => eq_ v3 0
      (some ((-11), μ))
      (bd_ (f_X12_isUrn μ a2) (fun v11 => eq_ v11 0
      (some ((-11), μ))
      (bd_ (f_X12_isDoomed μ a2) (fun v22 => eq_ v22 0
      (rd_ μ 1 293 (11 + a1) (fun v44 => wr_ μ 1 293 (11 + a1) a2 (fun μ55 => rd_ μ55 1 293 0 (fun v61 => eq_ v61 1
      (bd_ (f_X12_greysIfWhite μ55 a2) (fun μ68 => bp_ (f_X12_done μ68 v44) (fun v73 μ73 => some (v73, μ73))))
      (bp_ (f_X12_done μ55 v44) (fun v73 μ73 => some (v73, μ73)))))))
      (bp_ (f_X12_refused μ 7 a2) (fun v32 μ32 => some (v32, μ32))))))))
set_option maxHeartbeats 4000000 in
set_option maxRecDepth 100000 in
theorem c_X12_names {G : gp_} {ad : Nat → Nat} (μ : mu_T) (a1 : Int) (a2 : Int) (a : Int) (μr : mu_T) (h : f_X12_names μ a1 a2 = some (a, μr)) : mi_ yX12_names cX12_names 4 (some .int) ({ frames := 2, cells := 0, slots := 0, locals := 43 } : Room) G 9 ad (ceM G ad) [.ref (ad 0), .int (iI a1), .int (iI a2)] μ a μr := by
  refine mi_in (own := "UrnHeapModel") (lv := [(0, .ref (ad 0)), (1, .int (iI a1)), (2, .int (iI a2))]) (by decide) rfl rfl (Nat.le_of_ble_eq_true rfl) (fun X C E => ?_)
  unfold f_X12_names at h
  refine xx_iload_n C 1 rfl 1 dX12_names_0 rfl rfl ?_
  refine xx_iconst C 2 rfl dX12_names_1 ?_
  refine xx_iconst C 3 rfl dX12_names_2 ?_
  refine xx_cSip (As := [.int (iI a1), .int (iI 0), .int (iI 5)]) (st := []) C 6 rfl  ca_X12_in cs_X12_in w_1280 rfl ⟨Nat.le_of_ble_eq_true rfl, Nat.le_of_ble_eq_true rfl⟩ ⟨Nat.le_of_ble_eq_true rfl, Nat.le_of_ble_eq_true rfl⟩ (Nat.le_of_ble_eq_true rfl) dX12_names_3 (fun v3 e9 => c_X12_in _ _ _ _ v3 e9) h (fun v3 h => ?_) rfl
  refine xx_if_eq (tgt := 17) C 9 rfl dX12_names_6 (by decide) h (fun h => ?_) (fun h => ?_)
  · refine xx_bipush C 19 rfl dX12_names_17 (by decide) ?_
    exact xx_iret C E rfl ⟨Nat.le_of_ble_eq_true rfl, Nat.le_of_ble_eq_true rfl⟩ dX12_names_19 h
  · refine xx_aload_n C 10 rfl 0 dX12_names_9 rfl rfl ?_
    refine xx_iload_n C 11 rfl 2 dX12_names_10 rfl rfl ?_
    refine xx_cVip (As := [.int (iI a2)]) (st := []) (o := 0) C 14 rfl (by decide) (ceM_0 _ _ _) rfl rfl ca_X12_isUrn cv_X12_isUrn w_1276 rfl ⟨Nat.le_of_ble_eq_true rfl, Nat.le_of_ble_eq_true rfl⟩ ⟨Nat.le_of_ble_eq_true rfl, Nat.le_of_ble_eq_true rfl⟩ (Nat.le_of_ble_eq_true rfl) dX12_names_11 (fun v11 e9 => c_X12_isUrn _ _ v11 e9) h (fun v11 h => ?_) rfl
    refine xx_if_ne (tgt := 20) C 17 rfl dX12_names_14 (by decide) h (fun h => ?_) (fun h => ?_)
    · refine xx_aload_n C 21 rfl 0 dX12_names_20 rfl rfl ?_
      refine xx_iload_n C 22 rfl 2 dX12_names_21 rfl rfl ?_
      refine xx_cVip (As := [.int (iI a2)]) (st := []) (o := 0) C 25 rfl (by decide) (ceM_0 _ _ _) rfl rfl ca_X12_isDoomed cv_X12_isDoomed w_1283 rfl ⟨Nat.le_of_ble_eq_true rfl, Nat.le_of_ble_eq_true rfl⟩ ⟨Nat.le_of_ble_eq_true rfl, Nat.le_of_ble_eq_true rfl⟩ (Nat.le_of_ble_eq_true rfl) dX12_names_22 (fun v22 e9 => c_X12_isDoomed _ _ v22 e9) h (fun v22 h => ?_) rfl
      refine xx_if_eq (tgt := 36) C 28 rfl dX12_names_25 (by decide) h (fun h => ?_) (fun h => ?_)
      · refine xx_aload_n C 37 rfl 0 dX12_names_36 rfl rfl ?_
        refine xx_getr (fi := 0) C 40 rfl (by decide) (ceM_0 _ _ _) rfl in_X12 (by decide) rfl w_1179 dX12_names_37 ?_
        refine xx_bipush C 42 rfl dX12_names_40 (by decide) ?_
        refine xx_iload_n C 43 rfl 1 dX12_names_42 rfl rfl ?_
        refine xx_iadd C 44 rfl dX12_names_43 ?_
        refine xx_iaload C 45 rfl (by decide) (fun _ => rfl) (by decide) dX12_names_44 h (fun v44 h => ?_)
        refine xx_istore_n (lv1 := [(3, .int (iI v44)), (0, .ref (ad 0)), (1, .int (iI a1)), (2, .int (iI a2))]) C 46 rfl (by decide) dX12_names_45 rfl rfl ?_
        refine xx_aload_n C 47 rfl 1 dX12_names_46 rfl rfl ?_
        refine xx_getr (fi := 0) C 50 rfl (by decide) (ceM_0 _ _ _) rfl in_X12 (by decide) rfl w_1179 dX12_names_47 ?_
        refine xx_bipush C 52 rfl dX12_names_50 (by decide) ?_
        refine xx_iload_n C 53 rfl 2 dX12_names_52 rfl rfl ?_
        refine xx_iadd C 54 rfl dX12_names_53 ?_
        refine xx_iload_n C 55 rfl 3 dX12_names_54 rfl rfl ?_
        refine xx_iastore C 56 rfl (by decide) (fun _ => rfl) (by decide) dX12_names_55 h (fun μ55 h => ?_)
        refine xx_aload_n C 57 rfl 1 dX12_names_56 rfl rfl ?_
        refine xx_getr (fi := 0) C 60 rfl (by decide) (ceM_0 _ _ _) rfl in_X12 (by decide) rfl w_1179 dX12_names_57 ?_
        refine xx_iconst C 61 rfl dX12_names_60 ?_
        refine xx_iaload C 62 rfl (by decide) (fun _ => rfl) (by decide) dX12_names_61 h (fun v61 h => ?_)
        refine xx_iconst C 63 rfl dX12_names_62 ?_
        refine xx_icmp_ne (tgt := 71) C 66 rfl dX12_names_63 (by decide) h (fun h => ?_) (fun h => ?_)
        · refine xx_aload_n C 72 rfl 1 dX12_names_71 rfl rfl ?_
          refine xx_iload_n C 73 rfl 0 dX12_names_72 rfl rfl ?_
          refine xx_cVi (As := [.int (iI v44)]) (st := []) (o := 0) C 76 rfl (by decide) (ceM_0 _ _ _) rfl rfl ca_X12_done cv_X12_done w_1256 rfl ⟨Nat.le_of_ble_eq_true rfl, Nat.le_of_ble_eq_true rfl⟩ ⟨Nat.le_of_ble_eq_true rfl, Nat.le_of_ble_eq_true rfl⟩ (Nat.le_of_ble_eq_true rfl) dX12_names_73 (fun v73 μ73 e9 => c_X12_done _ _ v73 μ73 e9) h (fun v73 μ73 h => ?_) rfl
          exact xx_iret C E rfl ⟨Nat.le_of_ble_eq_true rfl, Nat.le_of_ble_eq_true rfl⟩ dX12_names_76 h
        · refine xx_aload_n C 67 rfl 1 dX12_names_66 rfl rfl ?_
          refine xx_iload_n C 68 rfl 3 dX12_names_67 rfl rfl ?_
          refine xx_cVv (As := [.int (iI a2)]) (st := []) (o := 0) C 71 rfl (by decide) (ceM_0 _ _ _) rfl rfl ca_X12_greysIfWhite cv_X12_greysIfWhite w_1287 rfl ⟨Nat.le_of_ble_eq_true rfl, Nat.le_of_ble_eq_true rfl⟩ ⟨Nat.le_of_ble_eq_true rfl, Nat.le_of_ble_eq_true rfl⟩ (Nat.le_of_ble_eq_true rfl) dX12_names_68 (fun μ68 e9 => c_X12_greysIfWhite _ _ μ68 e9) h (fun μ68 h => ?_) rfl
          refine xx_aload_n C 72 rfl 1 dX12_names_71 rfl rfl ?_
          refine xx_iload_n C 73 rfl 0 dX12_names_72 rfl rfl ?_
          refine xx_cVi (As := [.int (iI v44)]) (st := []) (o := 0) C 76 rfl (by decide) (ceM_0 _ _ _) rfl rfl ca_X12_done cv_X12_done w_1256 rfl ⟨Nat.le_of_ble_eq_true rfl, Nat.le_of_ble_eq_true rfl⟩ ⟨Nat.le_of_ble_eq_true rfl, Nat.le_of_ble_eq_true rfl⟩ (Nat.le_of_ble_eq_true rfl) dX12_names_73 (fun v73 μ73 e9 => c_X12_done _ _ v73 μ73 e9) h (fun v73 μ73 h => ?_) rfl
          exact xx_iret C E rfl ⟨Nat.le_of_ble_eq_true rfl, Nat.le_of_ble_eq_true rfl⟩ dX12_names_76 h
      · refine xx_aload_n C 29 rfl 0 dX12_names_28 rfl rfl ?_
        refine xx_bipush C 31 rfl dX12_names_29 (by decide) ?_
        refine xx_iload_n C 32 rfl 2 dX12_names_31 rfl rfl ?_
        refine xx_cVi (As := [.int (iI 7), .int (iI a2)]) (st := []) (o := 0) C 35 rfl (by decide) (ceM_0 _ _ _) rfl rfl ca_X12_refused cv_X12_refused w_1252 rfl ⟨Nat.le_of_ble_eq_true rfl, Nat.le_of_ble_eq_true rfl⟩ ⟨Nat.le_of_ble_eq_true rfl, Nat.le_of_ble_eq_true rfl⟩ (Nat.le_of_ble_eq_true rfl) dX12_names_32 (fun v32 μ32 e9 => c_X12_refused _ _ _ v32 μ32 e9) h (fun v32 μ32 h => ?_) rfl
        exact xx_iret C E rfl ⟨Nat.le_of_ble_eq_true rfl, Nat.le_of_ble_eq_true rfl⟩ dX12_names_35 h
    · refine xx_bipush C 19 rfl dX12_names_17 (by decide) ?_
      exact xx_iret C E rfl ⟨Nat.le_of_ble_eq_true rfl, Nat.le_of_ble_eq_true rfl⟩ dX12_names_19 h

def f_X12_drops (μ : mu_T) (a1 : Int) : Option (Int × mu_T) :=
  bd_ (f_X12_in μ a1 0 5) (fun v3 => eq_ v3 0
      (some ((-11), μ))
      (rd_ μ 1 293 (11 + a1) (fun v20 => eq_ v20 (-15)
      (bp_ (f_X12_refused μ 3 a1) (fun v31 μ31 => some (v31, μ31)))
      (wr_ μ 1 293 (11 + a1) (-15) (fun μ45 => bp_ (f_X12_done μ45 v20) (fun v48 μ48 => some (v48, μ48)))))))
set_option maxHeartbeats 4000000 in
set_option maxRecDepth 100000 in
theorem c_X12_drops {G : gp_} {ad : Nat → Nat} (μ : mu_T) (a1 : Int) (a : Int) (μr : mu_T) (h : f_X12_drops μ a1 = some (a, μr)) : mi_ yX12_drops cX12_drops 3 (some .int) ({ frames := 1, cells := 0, slots := 0, locals := 22 } : Room) G 9 ad (ceM G ad) [.ref (ad 0), .int (iI a1)] μ a μr := by
  refine mi_in (own := "UrnHeapModel") (lv := [(0, .ref (ad 0)), (1, .int (iI a1))]) (by decide) rfl rfl (Nat.le_of_ble_eq_true rfl) (fun X C E => ?_)
  unfold f_X12_drops at h
  refine xx_iload_n C 1 rfl 1 dX12_drops_0 rfl rfl ?_
  refine xx_iconst C 2 rfl dX12_drops_1 ?_
  refine xx_iconst C 3 rfl dX12_drops_2 ?_
  refine xx_cSip (As := [.int (iI a1), .int (iI 0), .int (iI 5)]) (st := []) C 6 rfl  ca_X12_in cs_X12_in w_1280 rfl ⟨Nat.le_of_ble_eq_true rfl, Nat.le_of_ble_eq_true rfl⟩ ⟨Nat.le_of_ble_eq_true rfl, Nat.le_of_ble_eq_true rfl⟩ (Nat.le_of_ble_eq_true rfl) dX12_drops_3 (fun v3 e9 => c_X12_in _ _ _ _ v3 e9) h (fun v3 h => ?_) rfl
  refine xx_if_ne (tgt := 12) C 9 rfl dX12_drops_6 (by decide) h (fun h => ?_) (fun h => ?_)
  · refine xx_aload_n C 13 rfl 0 dX12_drops_12 rfl rfl ?_
    refine xx_getr (fi := 0) C 16 rfl (by decide) (ceM_0 _ _ _) rfl in_X12 (by decide) rfl w_1179 dX12_drops_13 ?_
    refine xx_bipush C 18 rfl dX12_drops_16 (by decide) ?_
    refine xx_iload_n C 19 rfl 1 dX12_drops_18 rfl rfl ?_
    refine xx_iadd C 20 rfl dX12_drops_19 ?_
    refine xx_iaload C 21 rfl (by decide) (fun _ => rfl) (by decide) dX12_drops_20 h (fun v20 h => ?_)
    refine xx_istore_n (lv1 := [(2, .int (iI v20)), (0, .ref (ad 0)), (1, .int (iI a1))]) C 22 rfl (by decide) dX12_drops_21 rfl rfl ?_
    refine xx_iload_n C 23 rfl 0 dX12_drops_22 rfl rfl ?_
    refine xx_bipush C 25 rfl dX12_drops_23 (by decide) ?_
    refine xx_icmp_ne (tgt := 35) C 28 rfl dX12_drops_25 (by decide) h (fun h => ?_) (fun h => ?_)
    · refine xx_aload_n C 36 rfl 1 dX12_drops_35 rfl rfl ?_
      refine xx_getr (fi := 0) C 39 rfl (by decide) (ceM_0 _ _ _) rfl in_X12 (by decide) rfl w_1179 dX12_drops_36 ?_
      refine xx_bipush C 41 rfl dX12_drops_39 (by decide) ?_
      refine xx_iload_n C 42 rfl 2 dX12_drops_41 rfl rfl ?_
      refine xx_iadd C 43 rfl dX12_drops_42 ?_
      refine xx_bipush C 45 rfl dX12_drops_43 (by decide) ?_
      refine xx_iastore C 46 rfl (by decide) (fun _ => rfl) (by decide) dX12_drops_45 h (fun μ45 h => ?_)
      refine xx_aload_n C 47 rfl 1 dX12_drops_46 rfl rfl ?_
      refine xx_iload_n C 48 rfl 0 dX12_drops_47 rfl rfl ?_
      refine xx_cVi (As := [.int (iI v20)]) (st := []) (o := 0) C 51 rfl (by decide) (ceM_0 _ _ _) rfl rfl ca_X12_done cv_X12_done w_1256 rfl ⟨Nat.le_of_ble_eq_true rfl, Nat.le_of_ble_eq_true rfl⟩ ⟨Nat.le_of_ble_eq_true rfl, Nat.le_of_ble_eq_true rfl⟩ (Nat.le_of_ble_eq_true rfl) dX12_drops_48 (fun v48 μ48 e9 => c_X12_done _ _ v48 μ48 e9) h (fun v48 μ48 h => ?_) rfl
      exact xx_iret C E rfl ⟨Nat.le_of_ble_eq_true rfl, Nat.le_of_ble_eq_true rfl⟩ dX12_drops_51 h
    · refine xx_aload_n C 29 rfl 1 dX12_drops_28 rfl rfl ?_
      refine xx_iconst C 30 rfl dX12_drops_29 ?_
      refine xx_iload_n C 31 rfl 2 dX12_drops_30 rfl rfl ?_
      refine xx_cVi (As := [.int (iI 3), .int (iI a1)]) (st := []) (o := 0) C 34 rfl (by decide) (ceM_0 _ _ _) rfl rfl ca_X12_refused cv_X12_refused w_1252 rfl ⟨Nat.le_of_ble_eq_true rfl, Nat.le_of_ble_eq_true rfl⟩ ⟨Nat.le_of_ble_eq_true rfl, Nat.le_of_ble_eq_true rfl⟩ (Nat.le_of_ble_eq_true rfl) dX12_drops_31 (fun v31 μ31 e9 => c_X12_refused _ _ _ v31 μ31 e9) h (fun v31 μ31 h => ?_) rfl
      exact xx_iret C E rfl ⟨Nat.le_of_ble_eq_true rfl, Nat.le_of_ble_eq_true rfl⟩ dX12_drops_34 h
  · refine xx_bipush C 11 rfl dX12_drops_9 (by decide) ?_
    exact xx_iret C E rfl ⟨Nat.le_of_ble_eq_true rfl, Nat.le_of_ble_eq_true rfl⟩ dX12_drops_11 h

def f_X12_stepsOn (μ : mu_T) (a1 : Int) : Option (Int × mu_T) :=
  bd_ (f_X12_in μ a1 1 99) (fun v4 => eq_ v4 0
      (some ((-12), μ))
      (rd_ μ 1 293 0 (fun v18 => eq_ v18 0
      (rd_ μ 1 293 2 (fun v29 => bp_ (f_X12_refused μ 5 v29) (fun v30 μ30 => some (v30, μ30))))
      (bp_ (f_X12_partsOn μ a1) (fun v39 μ39 => bp_ (f_X12_done μ39 v39) (fun v42 μ42 => some (v42, μ42)))))))
set_option maxHeartbeats 4000000 in
set_option maxRecDepth 100000 in
theorem c_X12_stepsOn {G : gp_} {ad : Nat → Nat} (μ : mu_T) (a1 : Int) (a : Int) (μr : mu_T) (h : f_X12_stepsOn μ a1 = some (a, μr)) : mi_ yX12_stepsOn cX12_stepsOn 2 (some .int) ({ frames := 6, cells := 0, slots := 0, locals := 129 } : Room) G 9 ad (ceM G ad) [.ref (ad 0), .int (iI a1)] μ a μr := by
  refine mi_in (own := "UrnHeapModel") (lv := [(0, .ref (ad 0)), (1, .int (iI a1))]) (by decide) rfl rfl (Nat.le_of_ble_eq_true rfl) (fun X C E => ?_)
  unfold f_X12_stepsOn at h
  refine xx_iload_n C 1 rfl 1 dX12_stepsOn_0 rfl rfl ?_
  refine xx_iconst C 2 rfl dX12_stepsOn_1 ?_
  refine xx_bipush C 4 rfl dX12_stepsOn_2 (by decide) ?_
  refine xx_cSip (As := [.int (iI a1), .int (iI 1), .int (iI 99)]) (st := []) C 7 rfl  ca_X12_in cs_X12_in w_1280 rfl ⟨Nat.le_of_ble_eq_true rfl, Nat.le_of_ble_eq_true rfl⟩ ⟨Nat.le_of_ble_eq_true rfl, Nat.le_of_ble_eq_true rfl⟩ (Nat.le_of_ble_eq_true rfl) dX12_stepsOn_4 (fun v4 e9 => c_X12_in _ _ _ _ v4 e9) h (fun v4 h => ?_) rfl
  refine xx_if_ne (tgt := 13) C 10 rfl dX12_stepsOn_7 (by decide) h (fun h => ?_) (fun h => ?_)
  · refine xx_aload_n C 14 rfl 0 dX12_stepsOn_13 rfl rfl ?_
    refine xx_getr (fi := 0) C 17 rfl (by decide) (ceM_0 _ _ _) rfl in_X12 (by decide) rfl w_1179 dX12_stepsOn_14 ?_
    refine xx_iconst C 18 rfl dX12_stepsOn_17 ?_
    refine xx_iaload C 19 rfl (by decide) (fun _ => rfl) (by decide) dX12_stepsOn_18 h (fun v18 h => ?_)
    refine xx_if_ne (tgt := 36) C 22 rfl dX12_stepsOn_19 (by decide) h (fun h => ?_) (fun h => ?_)
    · refine xx_aload_n C 37 rfl 0 dX12_stepsOn_36 rfl rfl ?_
      refine xx_aload_n C 38 rfl 0 dX12_stepsOn_37 rfl rfl ?_
      refine xx_iload_n C 39 rfl 1 dX12_stepsOn_38 rfl rfl ?_
      refine xx_cVi (As := [.int (iI a1)]) (st := [.ref (ad 0)]) (o := 0) C 42 rfl (by decide) (ceM_0 _ _ _) rfl rfl ca_X12_partsOn cv_X12_partsOn w_1367 rfl ⟨Nat.le_of_ble_eq_true rfl, Nat.le_of_ble_eq_true rfl⟩ ⟨Nat.le_of_ble_eq_true rfl, Nat.le_of_ble_eq_true rfl⟩ (Nat.le_of_ble_eq_true rfl) dX12_stepsOn_39 (fun v39 μ39 e9 => c_X12_partsOn _ _ v39 μ39 e9) h (fun v39 μ39 h => ?_) rfl
      refine xx_cVi (As := [.int (iI v39)]) (st := []) (o := 0) C 45 rfl (by decide) (ceM_0 _ _ _) rfl rfl ca_X12_done cv_X12_done w_1256 rfl ⟨Nat.le_of_ble_eq_true rfl, Nat.le_of_ble_eq_true rfl⟩ ⟨Nat.le_of_ble_eq_true rfl, Nat.le_of_ble_eq_true rfl⟩ (Nat.le_of_ble_eq_true rfl) dX12_stepsOn_42 (fun v42 μ42 e9 => c_X12_done _ _ v42 μ42 e9) h (fun v42 μ42 h => ?_) rfl
      exact xx_iret C E rfl ⟨Nat.le_of_ble_eq_true rfl, Nat.le_of_ble_eq_true rfl⟩ dX12_stepsOn_45 h
    · refine xx_aload_n C 23 rfl 0 dX12_stepsOn_22 rfl rfl ?_
      refine xx_iconst C 24 rfl dX12_stepsOn_23 ?_
      refine xx_aload_n C 25 rfl 0 dX12_stepsOn_24 rfl rfl ?_
      refine xx_getr (fi := 0) C 28 rfl (by decide) (ceM_0 _ _ _) rfl in_X12 (by decide) rfl w_1179 dX12_stepsOn_25 ?_
      refine xx_iconst C 29 rfl dX12_stepsOn_28 ?_
      refine xx_iaload C 30 rfl (by decide) (fun _ => rfl) (by decide) dX12_stepsOn_29 h (fun v29 h => ?_)
      refine xx_cVi (As := [.int (iI 5), .int (iI v29)]) (st := []) (o := 0) C 33 rfl (by decide) (ceM_0 _ _ _) rfl rfl ca_X12_refused cv_X12_refused w_1252 rfl ⟨Nat.le_of_ble_eq_true rfl, Nat.le_of_ble_eq_true rfl⟩ ⟨Nat.le_of_ble_eq_true rfl, Nat.le_of_ble_eq_true rfl⟩ (Nat.le_of_ble_eq_true rfl) dX12_stepsOn_30 (fun v30 μ30 e9 => c_X12_refused _ _ _ v30 μ30 e9) h (fun v30 μ30 h => ?_) rfl
      refine xx_goto C 45 dX12_stepsOn_33 (by decide) ?_
      exact xx_iret C E rfl ⟨Nat.le_of_ble_eq_true rfl, Nat.le_of_ble_eq_true rfl⟩ dX12_stepsOn_45 h
  · refine xx_bipush C 12 rfl dX12_stepsOn_10 (by decide) ?_
    exact xx_iret C E rfl ⟨Nat.le_of_ble_eq_true rfl, Nat.le_of_ble_eq_true rfl⟩ dX12_stepsOn_12 h

def f_X12_wholeRound (μ : mu_T)  : Option (Int × mu_T) :=
  rd_ μ 1 293 4 (fun v5 => rd_ μ 1 293 0 (fun v12 => jn_ (φ := Int → mu_T → Option (Int × mu_T)) (fun s0_24 μ24 => bp_ (f_X12_partsOn μ24 10000) (fun v29 μ29 => rd_ μ29 1 293 4 (fun v39 => bp_ (f_X12_done μ29 (v39 - v5)) (fun v42 μ42 => some (v42, μ42)))))
      (fun J24 => eq_ v12 0
      (bp_ (f_X12_beginsRound μ) (fun v17 μ17 => J24 v17 μ17))
      (J24 0 μ))))
set_option maxHeartbeats 4000000 in
set_option maxRecDepth 100000 in
theorem c_X12_wholeRound {G : gp_} {ad : Nat → Nat} (μ : mu_T)  (a : Int) (μr : mu_T) (h : f_X12_wholeRound μ  = some (a, μr)) : mi_ yX12_wholeRound cX12_wholeRound 4 (some .int) ({ frames := 6, cells := 0, slots := 0, locals := 129 } : Room) G 9 ad (ceM G ad) [.ref (ad 0)] μ a μr := by
  refine mi_in (own := "UrnHeapModel") (lv := [(0, .ref (ad 0))]) (by decide) rfl rfl (Nat.le_of_ble_eq_true rfl) (fun X C E => ?_)
  unfold f_X12_wholeRound at h
  refine xx_aload_n C 1 rfl 0 dX12_wholeRound_0 rfl rfl ?_
  refine xx_getr (fi := 0) C 4 rfl (by decide) (ceM_0 _ _ _) rfl in_X12 (by decide) rfl w_1179 dX12_wholeRound_1 ?_
  refine xx_iconst C 5 rfl dX12_wholeRound_4 ?_
  refine xx_iaload C 6 rfl (by decide) (fun _ => rfl) (by decide) dX12_wholeRound_5 h (fun v5 h => ?_)
  refine xx_istore_n (lv1 := [(1, .int (iI v5)), (0, .ref (ad 0))]) C 7 rfl (by decide) dX12_wholeRound_6 rfl rfl ?_
  refine xx_aload_n C 8 rfl 1 dX12_wholeRound_7 rfl rfl ?_
  refine xx_getr (fi := 0) C 11 rfl (by decide) (ceM_0 _ _ _) rfl in_X12 (by decide) rfl w_1179 dX12_wholeRound_8 ?_
  refine xx_iconst C 12 rfl dX12_wholeRound_11 ?_
  refine xx_iaload C 13 rfl (by decide) (fun _ => rfl) (by decide) dX12_wholeRound_12 h (fun v12 h => ?_)
  refine jn_r (fun J => ∀ (s0_24 : Int) (μ24 : mu_T), J s0_24 μ24 = some (a, μr) → wx_ G X 9 ad (ceM G ad) μ24 0 0 24 [(0, .ref (ad 0)), (1, .int (iI v5))] [.int (iI s0_24)]) h (fun s0_24 μ24 h => ?_) (fun J24 K24 h => ?_)
  · refine xx_istore_n (lv1 := [(2, .int (iI s0_24)), (0, .ref (ad 0)), (1, .int (iI v5))]) C 25 rfl (by decide) dX12_wholeRound_24 rfl rfl ?_
    refine xx_aload_n C 26 rfl 1 dX12_wholeRound_25 rfl rfl ?_
    refine xx_sipush C 29 rfl dX12_wholeRound_26 (by decide) ?_
    refine xx_cVi (As := [.int (iI 10000)]) (st := []) (o := 0) C 32 rfl (by decide) (ceM_0 _ _ _) rfl rfl ca_X12_partsOn cv_X12_partsOn w_1367 rfl ⟨Nat.le_of_ble_eq_true rfl, Nat.le_of_ble_eq_true rfl⟩ ⟨Nat.le_of_ble_eq_true rfl, Nat.le_of_ble_eq_true rfl⟩ (Nat.le_of_ble_eq_true rfl) dX12_wholeRound_29 (fun v29 μ29 e9 => c_X12_partsOn _ _ v29 μ29 e9) h (fun v29 μ29 h => ?_) rfl
    refine xx_istore_n (lv1 := [(3, .int (iI v29)), (2, .int (iI s0_24)), (0, .ref (ad 0)), (1, .int (iI v5))]) C 33 rfl (by decide) dX12_wholeRound_32 rfl rfl ?_
    refine xx_aload_n C 34 rfl 2 dX12_wholeRound_33 rfl rfl ?_
    refine xx_aload_n C 35 rfl 2 dX12_wholeRound_34 rfl rfl ?_
    refine xx_getr (fi := 0) C 38 rfl (by decide) (ceM_0 _ _ _) rfl in_X12 (by decide) rfl w_1179 dX12_wholeRound_35 ?_
    refine xx_iconst C 39 rfl dX12_wholeRound_38 ?_
    refine xx_iaload C 40 rfl (by decide) (fun _ => rfl) (by decide) dX12_wholeRound_39 h (fun v39 h => ?_)
    refine xx_iload_n C 41 rfl 3 dX12_wholeRound_40 rfl rfl ?_
    refine xx_isub C 42 rfl dX12_wholeRound_41 ?_
    refine xx_cVi (As := [.int (iI (v39 - v5))]) (st := []) (o := 0) C 45 rfl (by decide) (ceM_0 _ _ _) rfl rfl ca_X12_done cv_X12_done w_1256 rfl ⟨Nat.le_of_ble_eq_true rfl, Nat.le_of_ble_eq_true rfl⟩ ⟨Nat.le_of_ble_eq_true rfl, Nat.le_of_ble_eq_true rfl⟩ (Nat.le_of_ble_eq_true rfl) dX12_wholeRound_42 (fun v42 μ42 e9 => c_X12_done _ _ v42 μ42 e9) h (fun v42 μ42 h => ?_) rfl
    exact xx_iret C E rfl ⟨Nat.le_of_ble_eq_true rfl, Nat.le_of_ble_eq_true rfl⟩ dX12_wholeRound_45 h
  · refine xx_if_ne (tgt := 23) C 16 rfl dX12_wholeRound_13 (by decide) h (fun h => ?_) (fun h => ?_)
    · refine xx_iconst C 24 rfl dX12_wholeRound_23 ?_
      refine xx_sub [1, 0] rfl ?_
      exact K24 0 μ h
    · refine xx_aload_n C 17 rfl 1 dX12_wholeRound_16 rfl rfl ?_
      refine xx_cVi (As := []) (st := []) (o := 0) C 20 rfl (by decide) (ceM_0 _ _ _) rfl rfl ca_X12_beginsRound cv_X12_beginsRound w_1355 rfl ⟨Nat.le_of_ble_eq_true rfl, Nat.le_of_ble_eq_true rfl⟩ ⟨Nat.le_of_ble_eq_true rfl, Nat.le_of_ble_eq_true rfl⟩ (Nat.le_of_ble_eq_true rfl) dX12_wholeRound_17 (fun v17 μ17 e9 => c_X12_beginsRound _ v17 μ17 e9) h (fun v17 μ17 h => ?_) rfl
      refine xx_goto C 24 dX12_wholeRound_20 (by decide) ?_
      refine xx_sub [1, 0] rfl ?_
      exact K24 v17 μ17 h

def f_X12_doesRite_L45 (J84 : mu_T → Option (Int × mu_T)) : Nat → Int → mu_T → Option (Int × mu_T)
  | 0, _, _ => none
  | fu45 + 1, x2_45, μ45 => rd_ μ45 1 293 9 (fun v52 => lt_ x2_45 v52
      (rd_ μ45 1 293 ((257 + x2_45) + 1) (fun v76 => wr_ μ45 1 293 (257 + x2_45) v76 (fun μ77 => nm_ (x2_45 + 1) (fun n78 => (f_X12_doesRite_L45 J84 fu45) n78 μ77))))
      (J84 μ45))
def f_X12_doesRite (μ : mu_T)  : Option (Int × mu_T) :=
  rd_ μ 1 293 9 (fun v6 => eq_ v6 0
      (rd_ μ 1 293 5 (fun v18 => bp_ (f_X12_refused μ 6 v18) (fun v19 μ19 => some (v19, μ19))))
      (rd_ μ 1 293 257 (fun v30 => rd_ μ 1 293 9 (fun v39 => wr_ μ 1 293 9 (v39 - 1) (fun μ42 => jn_ (φ := mu_T → Option (Int × mu_T)) (fun μ84 => rd_ μ84 1 293 9 (fun v97 => wr_ μ84 1 293 (257 + v97) 0 (fun μ100 => wr_ μ100 1 293 (65 + v30) 0 (fun μ110 => rd_ μ110 1 293 5 (fun v117 => wr_ μ110 1 293 5 (v117 + 1) (fun μ120 => bp_ (f_X12_done μ120 v30) (fun v123 μ123 => some (v123, μ123))))))))
      (fun J84 => f_X12_doesRite_L45 J84 20000 0 μ42))))))
set_option maxHeartbeats 4000000 in
set_option maxRecDepth 100000 in
theorem c_X12_doesRite {G : gp_} {ad : Nat → Nat} (μ : mu_T)  (a : Int) (μr : mu_T) (h : f_X12_doesRite μ  = some (a, μr)) : mi_ yX12_doesRite cX12_doesRite 3 (some .int) ({ frames := 1, cells := 0, slots := 0, locals := 22 } : Room) G 9 ad (ceM G ad) [.ref (ad 0)] μ a μr := by
  refine mi_in (own := "UrnHeapModel") (lv := [(0, .ref (ad 0))]) (by decide) rfl rfl (Nat.le_of_ble_eq_true rfl) (fun X C E => ?_)
  unfold f_X12_doesRite at h
  refine xx_aload_n C 1 rfl 0 dX12_doesRite_0 rfl rfl ?_
  refine xx_getr (fi := 0) C 4 rfl (by decide) (ceM_0 _ _ _) rfl in_X12 (by decide) rfl w_1179 dX12_doesRite_1 ?_
  refine xx_bipush C 6 rfl dX12_doesRite_4 (by decide) ?_
  refine xx_iaload C 7 rfl (by decide) (fun _ => rfl) (by decide) dX12_doesRite_6 h (fun v6 h => ?_)
  refine xx_if_ne (tgt := 23) C 10 rfl dX12_doesRite_7 (by decide) h (fun h => ?_) (fun h => ?_)
  · refine xx_aload_n C 24 rfl 0 dX12_doesRite_23 rfl rfl ?_
    refine xx_getr (fi := 0) C 27 rfl (by decide) (ceM_0 _ _ _) rfl in_X12 (by decide) rfl w_1179 dX12_doesRite_24 ?_
    refine xx_sipush C 30 rfl dX12_doesRite_27 (by decide) ?_
    refine xx_iaload C 31 rfl (by decide) (fun _ => rfl) (by decide) dX12_doesRite_30 h (fun v30 h => ?_)
    refine xx_istore_n (lv1 := [(1, .int (iI v30)), (0, .ref (ad 0))]) C 32 rfl (by decide) dX12_doesRite_31 rfl rfl ?_
    refine xx_aload_n C 33 rfl 1 dX12_doesRite_32 rfl rfl ?_
    refine xx_getr (fi := 0) C 36 rfl (by decide) (ceM_0 _ _ _) rfl in_X12 (by decide) rfl w_1179 dX12_doesRite_33 ?_
    refine xx_bipush C 38 rfl dX12_doesRite_36 (by decide) ?_
    refine xx_dup2 C 39 rfl dX12_doesRite_38 rfl rfl ?_
    refine xx_iaload C 40 rfl (by decide) (fun _ => rfl) (by decide) dX12_doesRite_39 h (fun v39 h => ?_)
    refine xx_iconst C 41 rfl dX12_doesRite_40 ?_
    refine xx_isub C 42 rfl dX12_doesRite_41 ?_
    refine xx_iastore C 43 rfl (by decide) (fun _ => rfl) (by decide) dX12_doesRite_42 h (fun μ42 h => ?_)
    refine xx_iconst C 44 rfl dX12_doesRite_43 ?_
    refine xx_istore_n (lv1 := [(2, .int (iI 0)), (1, .int (iI v30)), (0, .ref (ad 0))]) C 45 rfl (by decide) dX12_doesRite_44 rfl rfl ?_
    refine jn_r (fun J => ∀ (μ84 : mu_T), J μ84 = some (a, μr) → wx_ G X 9 ad (ceM G ad) μ84 0 0 84 [(0, .ref (ad 0)), (1, .int (iI v30))] []) h (fun μ84 h => ?_) (fun J84 K84 h => ?_)
    · refine xx_aload_n C 85 rfl 0 dX12_doesRite_84 rfl rfl ?_
      refine xx_getr (fi := 0) C 88 rfl (by decide) (ceM_0 _ _ _) rfl in_X12 (by decide) rfl w_1179 dX12_doesRite_85 ?_
      refine xx_sipush C 91 rfl dX12_doesRite_88 (by decide) ?_
      refine xx_aload_n C 92 rfl 0 dX12_doesRite_91 rfl rfl ?_
      refine xx_getr (fi := 0) C 95 rfl (by decide) (ceM_0 _ _ _) rfl in_X12 (by decide) rfl w_1179 dX12_doesRite_92 ?_
      refine xx_bipush C 97 rfl dX12_doesRite_95 (by decide) ?_
      refine xx_iaload C 98 rfl (by decide) (fun _ => rfl) (by decide) dX12_doesRite_97 h (fun v97 h => ?_)
      refine xx_iadd C 99 rfl dX12_doesRite_98 ?_
      refine xx_iconst C 100 rfl dX12_doesRite_99 ?_
      refine xx_iastore C 101 rfl (by decide) (fun _ => rfl) (by decide) dX12_doesRite_100 h (fun μ100 h => ?_)
      refine xx_aload_n C 102 rfl 0 dX12_doesRite_101 rfl rfl ?_
      refine xx_getr (fi := 0) C 105 rfl (by decide) (ceM_0 _ _ _) rfl in_X12 (by decide) rfl w_1179 dX12_doesRite_102 ?_
      refine xx_bipush C 107 rfl dX12_doesRite_105 (by decide) ?_
      refine xx_iload_n C 108 rfl 1 dX12_doesRite_107 rfl rfl ?_
      refine xx_iadd C 109 rfl dX12_doesRite_108 ?_
      refine xx_iconst C 110 rfl dX12_doesRite_109 ?_
      refine xx_iastore C 111 rfl (by decide) (fun _ => rfl) (by decide) dX12_doesRite_110 h (fun μ110 h => ?_)
      refine xx_aload_n C 112 rfl 0 dX12_doesRite_111 rfl rfl ?_
      refine xx_getr (fi := 0) C 115 rfl (by decide) (ceM_0 _ _ _) rfl in_X12 (by decide) rfl w_1179 dX12_doesRite_112 ?_
      refine xx_iconst C 116 rfl dX12_doesRite_115 ?_
      refine xx_dup2 C 117 rfl dX12_doesRite_116 rfl rfl ?_
      refine xx_iaload C 118 rfl (by decide) (fun _ => rfl) (by decide) dX12_doesRite_117 h (fun v117 h => ?_)
      refine xx_iconst C 119 rfl dX12_doesRite_118 ?_
      refine xx_iadd C 120 rfl dX12_doesRite_119 ?_
      refine xx_iastore C 121 rfl (by decide) (fun _ => rfl) (by decide) dX12_doesRite_120 h (fun μ120 h => ?_)
      refine xx_aload_n C 122 rfl 0 dX12_doesRite_121 rfl rfl ?_
      refine xx_iload_n C 123 rfl 1 dX12_doesRite_122 rfl rfl ?_
      refine xx_cVi (As := [.int (iI v30)]) (st := []) (o := 0) C 126 rfl (by decide) (ceM_0 _ _ _) rfl rfl ca_X12_done cv_X12_done w_1256 rfl ⟨Nat.le_of_ble_eq_true rfl, Nat.le_of_ble_eq_true rfl⟩ ⟨Nat.le_of_ble_eq_true rfl, Nat.le_of_ble_eq_true rfl⟩ (Nat.le_of_ble_eq_true rfl) dX12_doesRite_123 (fun v123 μ123 e9 => c_X12_done _ _ v123 μ123 e9) h (fun v123 μ123 h => ?_) rfl
      exact xx_iret C E rfl ⟨Nat.le_of_ble_eq_true rfl, Nat.le_of_ble_eq_true rfl⟩ dX12_doesRite_126 h
    · have L45 : ∀ (fu45 : Nat) (x2_45 : Int) (μ45 : mu_T), f_X12_doesRite_L45 J84 fu45 x2_45 μ45 = some (a, μr) → wx_ G X 9 ad (ceM G ad) μ45 0 0 45 [(0, .ref (ad 0)), (1, .int (iI v30)), (2, .int (iI x2_45))] [] := by
        intro fu45
        induction fu45 with
        | zero => intro x2_45 μ45 h; exact nn_ h
        | succ fu45 K45 =>
          intro x2_45 μ45 h
          rw [f_X12_doesRite_L45] at h
          generalize f_X12_doesRite_L45 J84 fu45 = R45 at K45 h
          refine xx_iload_n C 46 rfl 2 dX12_doesRite_45 rfl rfl ?_
          refine xx_aload_n C 47 rfl 0 dX12_doesRite_46 rfl rfl ?_
          refine xx_getr (fi := 0) C 50 rfl (by decide) (ceM_0 _ _ _) rfl in_X12 (by decide) rfl w_1179 dX12_doesRite_47 ?_
          refine xx_bipush C 52 rfl dX12_doesRite_50 (by decide) ?_
          refine xx_iaload C 53 rfl (by decide) (fun _ => rfl) (by decide) dX12_doesRite_52 h (fun v52 h => ?_)
          refine xx_icmp_ge (tgt := 84) C 56 rfl dX12_doesRite_53 (by decide) h (fun h => ?_) (fun h => ?_)
          · refine xx_sub [0, 1] rfl ?_
            exact K84 μ45 h
          · refine xx_aload_n C 57 rfl 0 dX12_doesRite_56 rfl rfl ?_
            refine xx_getr (fi := 0) C 60 rfl (by decide) (ceM_0 _ _ _) rfl in_X12 (by decide) rfl w_1179 dX12_doesRite_57 ?_
            refine xx_sipush C 63 rfl dX12_doesRite_60 (by decide) ?_
            refine xx_iload_n C 64 rfl 2 dX12_doesRite_63 rfl rfl ?_
            refine xx_iadd C 65 rfl dX12_doesRite_64 ?_
            refine xx_aload_n C 66 rfl 0 dX12_doesRite_65 rfl rfl ?_
            refine xx_getr (fi := 0) C 69 rfl (by decide) (ceM_0 _ _ _) rfl in_X12 (by decide) rfl w_1179 dX12_doesRite_66 ?_
            refine xx_sipush C 72 rfl dX12_doesRite_69 (by decide) ?_
            refine xx_iload_n C 73 rfl 2 dX12_doesRite_72 rfl rfl ?_
            refine xx_iadd C 74 rfl dX12_doesRite_73 ?_
            refine xx_iconst C 75 rfl dX12_doesRite_74 ?_
            refine xx_iadd C 76 rfl dX12_doesRite_75 ?_
            refine xx_iaload C 77 rfl (by decide) (fun _ => rfl) (by decide) dX12_doesRite_76 h (fun v76 h => ?_)
            refine xx_iastore C 78 rfl (by decide) (fun _ => rfl) (by decide) dX12_doesRite_77 h (fun μ77 h => ?_)
            refine xx_iincn C 81 rfl 2 (by decide) dX12_doesRite_78 rfl h (fun n78 h => ?_)
            refine xx_lv (lv1 := [(2, .int (iI n78)), (0, .ref (ad 0)), (1, .int (iI v30))]) rfl ?_
            refine xx_goto C 45 dX12_doesRite_81 (by decide) ?_
            refine xx_sub [1, 2, 0] rfl ?_
            exact K45 n78 μ77 h
      refine xx_sub [2, 1, 0] rfl ?_
      exact L45 _ _ _ h
  · refine xx_aload_n C 11 rfl 0 dX12_doesRite_10 rfl rfl ?_
    refine xx_bipush C 13 rfl dX12_doesRite_11 (by decide) ?_
    refine xx_aload_n C 14 rfl 0 dX12_doesRite_13 rfl rfl ?_
    refine xx_getr (fi := 0) C 17 rfl (by decide) (ceM_0 _ _ _) rfl in_X12 (by decide) rfl w_1179 dX12_doesRite_14 ?_
    refine xx_iconst C 18 rfl dX12_doesRite_17 ?_
    refine xx_iaload C 19 rfl (by decide) (fun _ => rfl) (by decide) dX12_doesRite_18 h (fun v18 h => ?_)
    refine xx_cVi (As := [.int (iI 6), .int (iI v18)]) (st := []) (o := 0) C 22 rfl (by decide) (ceM_0 _ _ _) rfl rfl ca_X12_refused cv_X12_refused w_1252 rfl ⟨Nat.le_of_ble_eq_true rfl, Nat.le_of_ble_eq_true rfl⟩ ⟨Nat.le_of_ble_eq_true rfl, Nat.le_of_ble_eq_true rfl⟩ (Nat.le_of_ble_eq_true rfl) dX12_doesRite_19 (fun v19 μ19 e9 => c_X12_refused _ _ _ v19 μ19 e9) h (fun v19 μ19 h => ?_) rfl
    exact xx_iret C E rfl ⟨Nat.le_of_ble_eq_true rfl, Nat.le_of_ble_eq_true rfl⟩ dX12_doesRite_22 h

