theorem dL_sum_0 : decode cL_sum 0 = .ok (.lconst 0, 1) := by decide +kernel
theorem dL_sum_1 : decode cL_sum 1 = .ok (.lstore_n 1, 1) := by decide +kernel
theorem dL_sum_2 : decode cL_sum 2 = .ok (.iconst 0, 1) := by decide +kernel
theorem dL_sum_3 : decode cL_sum 3 = .ok (.istore_n 3, 1) := by decide +kernel
theorem dL_sum_4 : decode cL_sum 4 = .ok (.iload_n 3, 1) := by decide +kernel
theorem dL_sum_5 : decode cL_sum 5 = .ok (.bipush 14, 2) := by decide +kernel
theorem dL_sum_7 : decode cL_sum 7 = .ok (.if_icmp .ge 22, 3) := by decide +kernel
theorem dL_sum_10 : decode cL_sum 10 = .ok (.ldc2_w 131, 3) := by decide +kernel
theorem dL_sum_13 : decode cL_sum 13 = .ok (.lload_n 1, 1) := by decide +kernel
theorem dL_sum_14 : decode cL_sum 14 = .ok (.lmul, 1) := by decide +kernel
theorem dL_sum_15 : decode cL_sum 15 = .ok (.aload_n 0, 1) := by decide +kernel
theorem dL_sum_16 : decode cL_sum 16 = .ok (.iload_n 3, 1) := by decide +kernel
theorem dL_sum_17 : decode cL_sum 17 = .ok (.invokevirtual 45, 3) := by decide +kernel
theorem dL_sum_20 : decode cL_sum 20 = .ok (.i2l, 1) := by decide +kernel
theorem dL_sum_21 : decode cL_sum 21 = .ok (.ladd, 1) := by decide +kernel
theorem dL_sum_22 : decode cL_sum 22 = .ok (.lstore_n 1, 1) := by decide +kernel
theorem dL_sum_23 : decode cL_sum 23 = .ok (.iinc 3 1, 3) := by decide +kernel
theorem dL_sum_26 : decode cL_sum 26 = .ok (.goto (-22), 3) := by decide +kernel
theorem dL_sum_29 : decode cL_sum 29 = .ok (.iconst 0, 1) := by decide +kernel
theorem dL_sum_30 : decode cL_sum 30 = .ok (.istore_n 3, 1) := by decide +kernel
theorem dL_sum_31 : decode cL_sum 31 = .ok (.iload_n 3, 1) := by decide +kernel
theorem dL_sum_32 : decode cL_sum 32 = .ok (.bipush 24, 2) := by decide +kernel
theorem dL_sum_34 : decode cL_sum 34 = .ok (.if_icmp .ge 105, 3) := by decide +kernel
theorem dL_sum_37 : decode cL_sum 37 = .ok (.ldc2_w 131, 3) := by decide +kernel
theorem dL_sum_40 : decode cL_sum 40 = .ok (.lload_n 1, 1) := by decide +kernel
theorem dL_sum_41 : decode cL_sum 41 = .ok (.lmul, 1) := by decide +kernel
theorem dL_sum_42 : decode cL_sum 42 = .ok (.ldc2_w 133, 3) := by decide +kernel
theorem dL_sum_45 : decode cL_sum 45 = .ok (.aload_n 0, 1) := by decide +kernel
theorem dL_sum_46 : decode cL_sum 46 = .ok (.iload_n 3, 1) := by decide +kernel
theorem dL_sum_47 : decode cL_sum 47 = .ok (.invokevirtual 135, 3) := by decide +kernel
theorem dL_sum_50 : decode cL_sum 50 = .ok (.i2l, 1) := by decide +kernel
theorem dL_sum_51 : decode cL_sum 51 = .ok (.lmul, 1) := by decide +kernel
theorem dL_sum_52 : decode cL_sum 52 = .ok (.ladd, 1) := by decide +kernel
theorem dL_sum_53 : decode cL_sum 53 = .ok (.ldc2_w 138, 3) := by decide +kernel
theorem dL_sum_56 : decode cL_sum 56 = .ok (.aload_n 0, 1) := by decide +kernel
theorem dL_sum_57 : decode cL_sum 57 = .ok (.iload_n 3, 1) := by decide +kernel
theorem dL_sum_58 : decode cL_sum 58 = .ok (.invokevirtual 140, 3) := by decide +kernel
theorem dL_sum_61 : decode cL_sum 61 = .ok (.i2l, 1) := by decide +kernel
theorem dL_sum_62 : decode cL_sum 62 = .ok (.lmul, 1) := by decide +kernel
theorem dL_sum_63 : decode cL_sum 63 = .ok (.ladd, 1) := by decide +kernel
theorem dL_sum_64 : decode cL_sum 64 = .ok (.aload_n 0, 1) := by decide +kernel
theorem dL_sum_65 : decode cL_sum 65 = .ok (.iload_n 3, 1) := by decide +kernel
theorem dL_sum_66 : decode cL_sum 66 = .ok (.invokevirtual 143, 3) := by decide +kernel
theorem dL_sum_69 : decode cL_sum 69 = .ok (.i2l, 1) := by decide +kernel
theorem dL_sum_70 : decode cL_sum 70 = .ok (.ladd, 1) := by decide +kernel
theorem dL_sum_71 : decode cL_sum 71 = .ok (.lstore_n 1, 1) := by decide +kernel
theorem dL_sum_72 : decode cL_sum 72 = .ok (.iconst 0, 1) := by decide +kernel
theorem dL_sum_73 : decode cL_sum 73 = .ok (.istore 4, 2) := by decide +kernel
theorem dL_sum_75 : decode cL_sum 75 = .ok (.iload 4, 2) := by decide +kernel
theorem dL_sum_77 : decode cL_sum 77 = .ok (.bipush 6, 2) := by decide +kernel
theorem dL_sum_79 : decode cL_sum 79 = .ok (.if_icmp .ge 24, 3) := by decide +kernel
theorem dL_sum_82 : decode cL_sum 82 = .ok (.ldc2_w 131, 3) := by decide +kernel
theorem dL_sum_85 : decode cL_sum 85 = .ok (.lload_n 1, 1) := by decide +kernel
theorem dL_sum_86 : decode cL_sum 86 = .ok (.lmul, 1) := by decide +kernel
theorem dL_sum_87 : decode cL_sum 87 = .ok (.aload_n 0, 1) := by decide +kernel
theorem dL_sum_88 : decode cL_sum 88 = .ok (.iload_n 3, 1) := by decide +kernel
theorem dL_sum_89 : decode cL_sum 89 = .ok (.iload 4, 2) := by decide +kernel
theorem dL_sum_91 : decode cL_sum 91 = .ok (.invokevirtual 146, 3) := by decide +kernel
theorem dL_sum_94 : decode cL_sum 94 = .ok (.i2l, 1) := by decide +kernel
theorem dL_sum_95 : decode cL_sum 95 = .ok (.ladd, 1) := by decide +kernel
theorem dL_sum_96 : decode cL_sum 96 = .ok (.lstore_n 1, 1) := by decide +kernel
theorem dL_sum_97 : decode cL_sum 97 = .ok (.iinc 4 1, 3) := by decide +kernel
theorem dL_sum_100 : decode cL_sum 100 = .ok (.goto (-25), 3) := by decide +kernel
theorem dL_sum_103 : decode cL_sum 103 = .ok (.iconst 0, 1) := by decide +kernel
theorem dL_sum_104 : decode cL_sum 104 = .ok (.istore 4, 2) := by decide +kernel
theorem dL_sum_106 : decode cL_sum 106 = .ok (.iload 4, 2) := by decide +kernel
theorem dL_sum_108 : decode cL_sum 108 = .ok (.iconst 4, 1) := by decide +kernel
theorem dL_sum_109 : decode cL_sum 109 = .ok (.if_icmp .ge 24, 3) := by decide +kernel
theorem dL_sum_112 : decode cL_sum 112 = .ok (.ldc2_w 131, 3) := by decide +kernel
theorem dL_sum_115 : decode cL_sum 115 = .ok (.lload_n 1, 1) := by decide +kernel
theorem dL_sum_116 : decode cL_sum 116 = .ok (.lmul, 1) := by decide +kernel
theorem dL_sum_117 : decode cL_sum 117 = .ok (.aload_n 0, 1) := by decide +kernel
theorem dL_sum_118 : decode cL_sum 118 = .ok (.iload_n 3, 1) := by decide +kernel
theorem dL_sum_119 : decode cL_sum 119 = .ok (.iload 4, 2) := by decide +kernel
theorem dL_sum_121 : decode cL_sum 121 = .ok (.invokevirtual 149, 3) := by decide +kernel
theorem dL_sum_124 : decode cL_sum 124 = .ok (.i2l, 1) := by decide +kernel
theorem dL_sum_125 : decode cL_sum 125 = .ok (.ladd, 1) := by decide +kernel
theorem dL_sum_126 : decode cL_sum 126 = .ok (.lstore_n 1, 1) := by decide +kernel
theorem dL_sum_127 : decode cL_sum 127 = .ok (.iinc 4 1, 3) := by decide +kernel
theorem dL_sum_130 : decode cL_sum 130 = .ok (.goto (-24), 3) := by decide +kernel
theorem dL_sum_133 : decode cL_sum 133 = .ok (.iinc 3 1, 3) := by decide +kernel
theorem dL_sum_136 : decode cL_sum 136 = .ok (.goto (-105), 3) := by decide +kernel
theorem dL_sum_139 : decode cL_sum 139 = .ok (.iconst 0, 1) := by decide +kernel
theorem dL_sum_140 : decode cL_sum 140 = .ok (.istore_n 3, 1) := by decide +kernel
theorem dL_sum_141 : decode cL_sum 141 = .ok (.iload_n 3, 1) := by decide +kernel
theorem dL_sum_142 : decode cL_sum 142 = .ok (.bipush 6, 2) := by decide +kernel
theorem dL_sum_144 : decode cL_sum 144 = .ok (.if_icmp .ge 22, 3) := by decide +kernel
theorem dL_sum_147 : decode cL_sum 147 = .ok (.ldc2_w 131, 3) := by decide +kernel
theorem dL_sum_150 : decode cL_sum 150 = .ok (.lload_n 1, 1) := by decide +kernel
theorem dL_sum_151 : decode cL_sum 151 = .ok (.lmul, 1) := by decide +kernel
theorem dL_sum_152 : decode cL_sum 152 = .ok (.aload_n 0, 1) := by decide +kernel
theorem dL_sum_153 : decode cL_sum 153 = .ok (.iload_n 3, 1) := by decide +kernel
theorem dL_sum_154 : decode cL_sum 154 = .ok (.invokevirtual 152, 3) := by decide +kernel
theorem dL_sum_157 : decode cL_sum 157 = .ok (.i2l, 1) := by decide +kernel
theorem dL_sum_158 : decode cL_sum 158 = .ok (.ladd, 1) := by decide +kernel
theorem dL_sum_159 : decode cL_sum 159 = .ok (.lstore_n 1, 1) := by decide +kernel
theorem dL_sum_160 : decode cL_sum 160 = .ok (.iinc 3 1, 3) := by decide +kernel
theorem dL_sum_163 : decode cL_sum 163 = .ok (.goto (-22), 3) := by decide +kernel
theorem dL_sum_166 : decode cL_sum 166 = .ok (.lload_n 1, 1) := by decide +kernel
theorem dL_sum_167 : decode cL_sum 167 = .ok (.lreturn, 1) := by decide +kernel
theorem dL_isWhole_0 : decode cL_isWhole 0 = .ok (.iconst 0, 1) := by decide +kernel
theorem dL_isWhole_1 : decode cL_isWhole 1 = .ok (.istore_n 1, 1) := by decide +kernel
theorem dL_isWhole_2 : decode cL_isWhole 2 = .ok (.iconst 0, 1) := by decide +kernel
theorem dL_isWhole_3 : decode cL_isWhole 3 = .ok (.istore_n 2, 1) := by decide +kernel
theorem dL_isWhole_4 : decode cL_isWhole 4 = .ok (.iconst 0, 1) := by decide +kernel
theorem dL_isWhole_5 : decode cL_isWhole 5 = .ok (.istore_n 3, 1) := by decide +kernel
theorem dL_isWhole_6 : decode cL_isWhole 6 = .ok (.iconst 0, 1) := by decide +kernel
theorem dL_isWhole_7 : decode cL_isWhole 7 = .ok (.istore 4, 2) := by decide +kernel
theorem dL_isWhole_9 : decode cL_isWhole 9 = .ok (.iconst 0, 1) := by decide +kernel
theorem dL_isWhole_10 : decode cL_isWhole 10 = .ok (.istore 5, 2) := by decide +kernel
theorem dL_isWhole_12 : decode cL_isWhole 12 = .ok (.aload_n 0, 1) := by decide +kernel
theorem dL_isWhole_13 : decode cL_isWhole 13 = .ok (.invokevirtual 155, 3) := by decide +kernel
theorem dL_isWhole_16 : decode cL_isWhole 16 = .ok (.istore 6, 2) := by decide +kernel
theorem dL_isWhole_18 : decode cL_isWhole 18 = .ok (.aload_n 0, 1) := by decide +kernel
theorem dL_isWhole_19 : decode cL_isWhole 19 = .ok (.iconst 1, 1) := by decide +kernel
theorem dL_isWhole_20 : decode cL_isWhole 20 = .ok (.invokevirtual 45, 3) := by decide +kernel
theorem dL_isWhole_23 : decode cL_isWhole 23 = .ok (.istore 7, 2) := by decide +kernel
theorem dL_isWhole_25 : decode cL_isWhole 25 = .ok (.iconst 3, 1) := by decide +kernel
theorem dL_isWhole_26 : decode cL_isWhole 26 = .ok (.newarray .int, 2) := by decide +kernel
theorem dL_isWhole_28 : decode cL_isWhole 28 = .ok (.astore 8, 2) := by decide +kernel
theorem dL_isWhole_30 : decode cL_isWhole 30 = .ok (.iconst 0, 1) := by decide +kernel
theorem dL_isWhole_31 : decode cL_isWhole 31 = .ok (.istore 9, 2) := by decide +kernel
theorem dL_isWhole_33 : decode cL_isWhole 33 = .ok (.iload 9, 2) := by decide +kernel
theorem dL_isWhole_35 : decode cL_isWhole 35 = .ok (.bipush 6, 2) := by decide +kernel
theorem dL_isWhole_37 : decode cL_isWhole 37 = .ok (.if_icmp .ge 30, 3) := by decide +kernel
theorem dL_isWhole_40 : decode cL_isWhole 40 = .ok (.iload 4, 2) := by decide +kernel
theorem dL_isWhole_42 : decode cL_isWhole 42 = .ok (.aload_n 0, 1) := by decide +kernel
theorem dL_isWhole_43 : decode cL_isWhole 43 = .ok (.iload 9, 2) := by decide +kernel
theorem dL_isWhole_45 : decode cL_isWhole 45 = .ok (.invokevirtual 152, 3) := by decide +kernel
theorem dL_isWhole_48 : decode cL_isWhole 48 = .ok (.bipush (-15), 2) := by decide +kernel
theorem dL_isWhole_50 : decode cL_isWhole 50 = .ok (.if_icmp .ne 7, 3) := by decide +kernel
theorem dL_isWhole_53 : decode cL_isWhole 53 = .ok (.iconst 0, 1) := by decide +kernel
theorem dL_isWhole_54 : decode cL_isWhole 54 = .ok (.goto 4, 3) := by decide +kernel
theorem dL_isWhole_57 : decode cL_isWhole 57 = .ok (.iconst 1, 1) := by decide +kernel
theorem dL_isWhole_58 : decode cL_isWhole 58 = .ok (.iadd, 1) := by decide +kernel
theorem dL_isWhole_59 : decode cL_isWhole 59 = .ok (.istore 4, 2) := by decide +kernel
theorem dL_isWhole_61 : decode cL_isWhole 61 = .ok (.iinc 9 1, 3) := by decide +kernel
theorem dL_isWhole_64 : decode cL_isWhole 64 = .ok (.goto (-31), 3) := by decide +kernel
theorem dL_isWhole_67 : decode cL_isWhole 67 = .ok (.iconst 0, 1) := by decide +kernel
theorem dL_isWhole_68 : decode cL_isWhole 68 = .ok (.istore 9, 2) := by decide +kernel
theorem dL_isWhole_70 : decode cL_isWhole 70 = .ok (.iload 9, 2) := by decide +kernel
theorem dL_isWhole_72 : decode cL_isWhole 72 = .ok (.bipush 24, 2) := by decide +kernel
theorem dL_isWhole_74 : decode cL_isWhole 74 = .ok (.if_icmp .ge 473, 3) := by decide +kernel
theorem dL_isWhole_77 : decode cL_isWhole 77 = .ok (.aload_n 0, 1) := by decide +kernel
theorem dL_isWhole_78 : decode cL_isWhole 78 = .ok (.iload 9, 2) := by decide +kernel
theorem dL_isWhole_80 : decode cL_isWhole 80 = .ok (.iconst 0, 1) := by decide +kernel
theorem dL_isWhole_81 : decode cL_isWhole 81 = .ok (.invokevirtual 146, 3) := by decide +kernel
theorem dL_isWhole_84 : decode cL_isWhole 84 = .ok (.bipush (-11), 2) := by decide +kernel
theorem dL_isWhole_86 : decode cL_isWhole 86 = .ok (.if_icmp .ne 6, 3) := by decide +kernel
theorem dL_isWhole_89 : decode cL_isWhole 89 = .ok (.goto 452, 3) := by decide +kernel
theorem dL_isWhole_92 : decode cL_isWhole 92 = .ok (.iinc 1 1, 3) := by decide +kernel
theorem dL_isWhole_95 : decode cL_isWhole 95 = .ok (.iload 5, 2) := by decide +kernel
theorem dL_isWhole_97 : decode cL_isWhole 97 = .ok (.iconst 1, 1) := by decide +kernel
theorem dL_isWhole_98 : decode cL_isWhole 98 = .ok (.iload 9, 2) := by decide +kernel
theorem dL_isWhole_100 : decode cL_isWhole 100 = .ok (.ishl, 1) := by decide +kernel
theorem dL_isWhole_101 : decode cL_isWhole 101 = .ok (.ior, 1) := by decide +kernel
theorem dL_isWhole_102 : decode cL_isWhole 102 = .ok (.istore 5, 2) := by decide +kernel
theorem dL_isWhole_104 : decode cL_isWhole 104 = .ok (.aload_n 0, 1) := by decide +kernel
theorem dL_isWhole_105 : decode cL_isWhole 105 = .ok (.iload 9, 2) := by decide +kernel
theorem dL_isWhole_107 : decode cL_isWhole 107 = .ok (.iconst 0, 1) := by decide +kernel
theorem dL_isWhole_108 : decode cL_isWhole 108 = .ok (.invokevirtual 146, 3) := by decide +kernel
theorem dL_isWhole_111 : decode cL_isWhole 111 = .ok (.istore 10, 2) := by decide +kernel
theorem dL_isWhole_113 : decode cL_isWhole 113 = .ok (.aload 8, 2) := by decide +kernel
theorem dL_isWhole_115 : decode cL_isWhole 115 = .ok (.iload 10, 2) := by decide +kernel
theorem dL_isWhole_117 : decode cL_isWhole 117 = .ok (.dup2, 1) := by decide +kernel
theorem dL_isWhole_118 : decode cL_isWhole 118 = .ok (.iaload, 1) := by decide +kernel
theorem dL_isWhole_119 : decode cL_isWhole 119 = .ok (.iconst 1, 1) := by decide +kernel
theorem dL_isWhole_120 : decode cL_isWhole 120 = .ok (.iadd, 1) := by decide +kernel
theorem dL_isWhole_121 : decode cL_isWhole 121 = .ok (.iastore, 1) := by decide +kernel
theorem dL_isWhole_122 : decode cL_isWhole 122 = .ok (.iload_n 2, 1) := by decide +kernel
theorem dL_isWhole_123 : decode cL_isWhole 123 = .ok (.aload_n 0, 1) := by decide +kernel
theorem dL_isWhole_124 : decode cL_isWhole 124 = .ok (.iload 9, 2) := by decide +kernel
theorem dL_isWhole_126 : decode cL_isWhole 126 = .ok (.iconst 3, 1) := by decide +kernel
theorem dL_isWhole_127 : decode cL_isWhole 127 = .ok (.invokevirtual 146, 3) := by decide +kernel
theorem dL_isWhole_130 : decode cL_isWhole 130 = .ok (.iadd, 1) := by decide +kernel
theorem dL_isWhole_131 : decode cL_isWhole 131 = .ok (.istore_n 2, 1) := by decide +kernel
theorem dL_isWhole_132 : decode cL_isWhole 132 = .ok (.iload_n 3, 1) := by decide +kernel
theorem dL_isWhole_133 : decode cL_isWhole 133 = .ok (.aload_n 0, 1) := by decide +kernel
theorem dL_isWhole_134 : decode cL_isWhole 134 = .ok (.iload 9, 2) := by decide +kernel
theorem dL_isWhole_136 : decode cL_isWhole 136 = .ok (.iconst 2, 1) := by decide +kernel
theorem dL_isWhole_137 : decode cL_isWhole 137 = .ok (.invokevirtual 146, 3) := by decide +kernel
theorem dL_isWhole_140 : decode cL_isWhole 140 = .ok (.iadd, 1) := by decide +kernel
theorem dL_isWhole_141 : decode cL_isWhole 141 = .ok (.istore_n 3, 1) := by decide +kernel
theorem dL_isWhole_142 : decode cL_isWhole 142 = .ok (.iload 6, 2) := by decide +kernel
theorem dL_isWhole_144 : decode cL_isWhole 144 = .ok (.iload 9, 2) := by decide +kernel
theorem dL_isWhole_146 : decode cL_isWhole 146 = .ok (.ishr, 1) := by decide +kernel
theorem dL_isWhole_147 : decode cL_isWhole 147 = .ok (.iconst 1, 1) := by decide +kernel
theorem dL_isWhole_148 : decode cL_isWhole 148 = .ok (.iand, 1) := by decide +kernel
theorem dL_isWhole_149 : decode cL_isWhole 149 = .ok (.iconst 1, 1) := by decide +kernel
theorem dL_isWhole_150 : decode cL_isWhole 150 = .ok (.if_icmp .ne 7, 3) := by decide +kernel
theorem dL_isWhole_153 : decode cL_isWhole 153 = .ok (.iconst 1, 1) := by decide +kernel
theorem dL_isWhole_154 : decode cL_isWhole 154 = .ok (.goto 4, 3) := by decide +kernel
theorem dL_isWhole_157 : decode cL_isWhole 157 = .ok (.iconst 0, 1) := by decide +kernel
theorem dL_isWhole_158 : decode cL_isWhole 158 = .ok (.istore 11, 2) := by decide +kernel
theorem dL_isWhole_160 : decode cL_isWhole 160 = .ok (.aload_n 0, 1) := by decide +kernel
theorem dL_isWhole_161 : decode cL_isWhole 161 = .ok (.iload 9, 2) := by decide +kernel
theorem dL_isWhole_163 : decode cL_isWhole 163 = .ok (.invokevirtual 158, 3) := by decide +kernel
theorem dL_isWhole_166 : decode cL_isWhole 166 = .ok (.istore 12, 2) := by decide +kernel
theorem dL_isWhole_168 : decode cL_isWhole 168 = .ok (.iload 7, 2) := by decide +kernel
theorem dL_isWhole_170 : decode cL_isWhole 170 = .ok (.iconst 2, 1) := by decide +kernel
theorem dL_isWhole_171 : decode cL_isWhole 171 = .ok (.if_icmp .ne 22, 3) := by decide +kernel
theorem dL_isWhole_174 : decode cL_isWhole 174 = .ok (.iload 10, 2) := by decide +kernel
theorem dL_isWhole_176 : decode cL_isWhole 176 = .ok (.ifCond .ne 17, 3) := by decide +kernel
theorem dL_isWhole_179 : decode cL_isWhole 179 = .ok (.iload 9, 2) := by decide +kernel
theorem dL_isWhole_181 : decode cL_isWhole 181 = .ok (.aload_n 0, 1) := by decide +kernel
theorem dL_isWhole_182 : decode cL_isWhole 182 = .ok (.iconst 2, 1) := by decide +kernel
theorem dL_isWhole_183 : decode cL_isWhole 183 = .ok (.invokevirtual 45, 3) := by decide +kernel
theorem dL_isWhole_186 : decode cL_isWhole 186 = .ok (.if_icmp .lt 7, 3) := by decide +kernel
theorem dL_isWhole_189 : decode cL_isWhole 189 = .ok (.iconst 1, 1) := by decide +kernel
theorem dL_isWhole_190 : decode cL_isWhole 190 = .ok (.goto 4, 3) := by decide +kernel
theorem dL_isWhole_193 : decode cL_isWhole 193 = .ok (.iconst 0, 1) := by decide +kernel
theorem dL_isWhole_194 : decode cL_isWhole 194 = .ok (.istore 13, 2) := by decide +kernel
theorem dL_isWhole_196 : decode cL_isWhole 196 = .ok (.iload 11, 2) := by decide +kernel
theorem dL_isWhole_198 : decode cL_isWhole 198 = .ok (.iload 12, 2) := by decide +kernel
theorem dL_isWhole_200 : decode cL_isWhole 200 = .ok (.ifCond .lt 7, 3) := by decide +kernel
theorem dL_isWhole_203 : decode cL_isWhole 203 = .ok (.iconst 1, 1) := by decide +kernel
theorem dL_isWhole_204 : decode cL_isWhole 204 = .ok (.goto 4, 3) := by decide +kernel
theorem dL_isWhole_207 : decode cL_isWhole 207 = .ok (.iconst 0, 1) := by decide +kernel
theorem dL_isWhole_208 : decode cL_isWhole 208 = .ok (.if_icmp .ne 40, 3) := by decide +kernel
theorem dL_isWhole_211 : decode cL_isWhole 211 = .ok (.iload 12, 2) := by decide +kernel
theorem dL_isWhole_213 : decode cL_isWhole 213 = .ok (.bipush 24, 2) := by decide +kernel
theorem dL_isWhole_215 : decode cL_isWhole 215 = .ok (.if_icmp .ge 33, 3) := by decide +kernel
theorem dL_isWhole_218 : decode cL_isWhole 218 = .ok (.iload 11, 2) := by decide +kernel
theorem dL_isWhole_220 : decode cL_isWhole 220 = .ok (.ifCond .ne 12, 3) := by decide +kernel
theorem dL_isWhole_223 : decode cL_isWhole 223 = .ok (.aload_n 0, 1) := by decide +kernel
theorem dL_isWhole_224 : decode cL_isWhole 224 = .ok (.iload 9, 2) := by decide +kernel
theorem dL_isWhole_226 : decode cL_isWhole 226 = .ok (.invokevirtual 161, 3) := by decide +kernel
theorem dL_isWhole_229 : decode cL_isWhole 229 = .ok (.ifCond .ne 19, 3) := by decide +kernel
theorem dL_isWhole_232 : decode cL_isWhole 232 = .ok (.aload_n 0, 1) := by decide +kernel
theorem dL_isWhole_233 : decode cL_isWhole 233 = .ok (.iload 9, 2) := by decide +kernel
theorem dL_isWhole_235 : decode cL_isWhole 235 = .ok (.invokevirtual 161, 3) := by decide +kernel
theorem dL_isWhole_238 : decode cL_isWhole 238 = .ok (.bipush (-64), 2) := by decide +kernel
theorem dL_isWhole_240 : decode cL_isWhole 240 = .ok (.iand, 1) := by decide +kernel
theorem dL_isWhole_241 : decode cL_isWhole 241 = .ok (.ifCond .ne 7, 3) := by decide +kernel
theorem dL_isWhole_244 : decode cL_isWhole 244 = .ok (.iconst 1, 1) := by decide +kernel
theorem dL_isWhole_245 : decode cL_isWhole 245 = .ok (.goto 4, 3) := by decide +kernel
theorem dL_isWhole_248 : decode cL_isWhole 248 = .ok (.iconst 0, 1) := by decide +kernel
theorem dL_isWhole_249 : decode cL_isWhole 249 = .ok (.istore 14, 2) := by decide +kernel
theorem dL_isWhole_251 : decode cL_isWhole 251 = .ok (.iload 7, 2) := by decide +kernel
theorem dL_isWhole_253 : decode cL_isWhole 253 = .ok (.ifCond .gt 8, 3) := by decide +kernel
theorem dL_isWhole_256 : decode cL_isWhole 256 = .ok (.iload 10, 2) := by decide +kernel
theorem dL_isWhole_258 : decode cL_isWhole 258 = .ok (.ifCond .ne 29, 3) := by decide +kernel
theorem dL_isWhole_261 : decode cL_isWhole 261 = .ok (.iload 7, 2) := by decide +kernel
theorem dL_isWhole_263 : decode cL_isWhole 263 = .ok (.iconst 1, 1) := by decide +kernel
theorem dL_isWhole_264 : decode cL_isWhole 264 = .ok (.if_icmp .eq 9, 3) := by decide +kernel
theorem dL_isWhole_267 : decode cL_isWhole 267 = .ok (.iload 10, 2) := by decide +kernel
theorem dL_isWhole_269 : decode cL_isWhole 269 = .ok (.iconst 1, 1) := by decide +kernel
theorem dL_isWhole_270 : decode cL_isWhole 270 = .ok (.if_icmp .eq 17, 3) := by decide +kernel
theorem dL_isWhole_273 : decode cL_isWhole 273 = .ok (.iload 13, 2) := by decide +kernel
theorem dL_isWhole_275 : decode cL_isWhole 275 = .ok (.ifCond .eq 8, 3) := by decide +kernel
theorem dL_isWhole_278 : decode cL_isWhole 278 = .ok (.iload 11, 2) := by decide +kernel
theorem dL_isWhole_280 : decode cL_isWhole 280 = .ok (.ifCond .ne 7, 3) := by decide +kernel
theorem dL_isWhole_283 : decode cL_isWhole 283 = .ok (.iconst 1, 1) := by decide +kernel
theorem dL_isWhole_284 : decode cL_isWhole 284 = .ok (.goto 4, 3) := by decide +kernel
theorem dL_isWhole_287 : decode cL_isWhole 287 = .ok (.iconst 0, 1) := by decide +kernel
theorem dL_isWhole_288 : decode cL_isWhole 288 = .ok (.istore 15, 2) := by decide +kernel
theorem dL_isWhole_290 : decode cL_isWhole 290 = .ok (.bipush (-15), 2) := by decide +kernel
theorem dL_isWhole_292 : decode cL_isWhole 292 = .ok (.istore 16, 2) := by decide +kernel
theorem dL_isWhole_294 : decode cL_isWhole 294 = .ok (.iconst 0, 1) := by decide +kernel
theorem dL_isWhole_295 : decode cL_isWhole 295 = .ok (.istore 17, 2) := by decide +kernel
theorem dL_isWhole_297 : decode cL_isWhole 297 = .ok (.iload 17, 2) := by decide +kernel
theorem dL_isWhole_299 : decode cL_isWhole 299 = .ok (.iconst 4, 1) := by decide +kernel
theorem dL_isWhole_300 : decode cL_isWhole 300 = .ok (.if_icmp .ge 131, 3) := by decide +kernel
theorem dL_isWhole_303 : decode cL_isWhole 303 = .ok (.aload_n 0, 1) := by decide +kernel
theorem dL_isWhole_304 : decode cL_isWhole 304 = .ok (.iload 9, 2) := by decide +kernel
theorem dL_isWhole_306 : decode cL_isWhole 306 = .ok (.iload 17, 2) := by decide +kernel
theorem dL_isWhole_308 : decode cL_isWhole 308 = .ok (.invokevirtual 149, 3) := by decide +kernel
theorem dL_isWhole_311 : decode cL_isWhole 311 = .ok (.istore 18, 2) := by decide +kernel
theorem dL_isWhole_313 : decode cL_isWhole 313 = .ok (.iload 18, 2) := by decide +kernel
theorem dL_isWhole_315 : decode cL_isWhole 315 = .ok (.iload 9, 2) := by decide +kernel
theorem dL_isWhole_317 : decode cL_isWhole 317 = .ok (.if_icmp .ne 6, 3) := by decide +kernel
theorem dL_isWhole_320 : decode cL_isWhole 320 = .ok (.iconst 1, 1) := by decide +kernel
theorem dL_isWhole_321 : decode cL_isWhole 321 = .ok (.istore 16, 2) := by decide +kernel
theorem dL_isWhole_323 : decode cL_isWhole 323 = .ok (.iload 18, 2) := by decide +kernel
theorem dL_isWhole_325 : decode cL_isWhole 325 = .ok (.ifCond .lt 30, 3) := by decide +kernel
theorem dL_isWhole_328 : decode cL_isWhole 328 = .ok (.iload 11, 2) := by decide +kernel
theorem dL_isWhole_330 : decode cL_isWhole 330 = .ok (.ifCond .eq 25, 3) := by decide +kernel
theorem dL_isWhole_333 : decode cL_isWhole 333 = .ok (.aload_n 0, 1) := by decide +kernel
theorem dL_isWhole_334 : decode cL_isWhole 334 = .ok (.iload 18, 2) := by decide +kernel
theorem dL_isWhole_336 : decode cL_isWhole 336 = .ok (.invokevirtual 158, 3) := by decide +kernel
theorem dL_isWhole_339 : decode cL_isWhole 339 = .ok (.ifCond .lt 20, 3) := by decide +kernel
theorem dL_isWhole_342 : decode cL_isWhole 342 = .ok (.aload_n 0, 1) := by decide +kernel
theorem dL_isWhole_343 : decode cL_isWhole 343 = .ok (.iload 18, 2) := by decide +kernel
theorem dL_isWhole_345 : decode cL_isWhole 345 = .ok (.invokevirtual 158, 3) := by decide +kernel
theorem dL_isWhole_348 : decode cL_isWhole 348 = .ok (.iload 12, 2) := by decide +kernel
theorem dL_isWhole_350 : decode cL_isWhole 350 = .ok (.iconst 1, 1) := by decide +kernel
theorem dL_isWhole_351 : decode cL_isWhole 351 = .ok (.iadd, 1) := by decide +kernel
theorem dL_isWhole_352 : decode cL_isWhole 352 = .ok (.if_icmp .gt 7, 3) := by decide +kernel
theorem dL_isWhole_355 : decode cL_isWhole 355 = .ok (.iconst 1, 1) := by decide +kernel
theorem dL_isWhole_356 : decode cL_isWhole 356 = .ok (.goto 4, 3) := by decide +kernel
theorem dL_isWhole_359 : decode cL_isWhole 359 = .ok (.iconst 0, 1) := by decide +kernel
theorem dL_isWhole_360 : decode cL_isWhole 360 = .ok (.istore 19, 2) := by decide +kernel
theorem dL_isWhole_362 : decode cL_isWhole 362 = .ok (.iload 18, 2) := by decide +kernel
theorem dL_isWhole_364 : decode cL_isWhole 364 = .ok (.bipush (-15), 2) := by decide +kernel
theorem dL_isWhole_366 : decode cL_isWhole 366 = .ok (.if_icmp .eq 13, 3) := by decide +kernel
theorem dL_isWhole_369 : decode cL_isWhole 369 = .ok (.aload_n 0, 1) := by decide +kernel
theorem dL_isWhole_370 : decode cL_isWhole 370 = .ok (.iload 18, 2) := by decide +kernel
theorem dL_isWhole_372 : decode cL_isWhole 372 = .ok (.iconst 0, 1) := by decide +kernel
theorem dL_isWhole_373 : decode cL_isWhole 373 = .ok (.invokevirtual 146, 3) := by decide +kernel
theorem dL_isWhole_376 : decode cL_isWhole 376 = .ok (.ifCond .lt 7, 3) := by decide +kernel
theorem dL_isWhole_379 : decode cL_isWhole 379 = .ok (.iconst 1, 1) := by decide +kernel
theorem dL_isWhole_380 : decode cL_isWhole 380 = .ok (.goto 4, 3) := by decide +kernel
theorem dL_isWhole_383 : decode cL_isWhole 383 = .ok (.iconst 0, 1) := by decide +kernel
theorem dL_isWhole_384 : decode cL_isWhole 384 = .ok (.istore 20, 2) := by decide +kernel
theorem dL_isWhole_386 : decode cL_isWhole 386 = .ok (.iload 19, 2) := by decide +kernel
theorem dL_isWhole_388 : decode cL_isWhole 388 = .ok (.ifCond .eq 35, 3) := by decide +kernel
theorem dL_isWhole_391 : decode cL_isWhole 391 = .ok (.iload 20, 2) := by decide +kernel
theorem dL_isWhole_393 : decode cL_isWhole 393 = .ok (.ifCond .eq 30, 3) := by decide +kernel
theorem dL_isWhole_396 : decode cL_isWhole 396 = .ok (.iload 7, 2) := by decide +kernel
theorem dL_isWhole_398 : decode cL_isWhole 398 = .ok (.iconst 1, 1) := by decide +kernel
theorem dL_isWhole_399 : decode cL_isWhole 399 = .ok (.if_icmp .ne 26, 3) := by decide +kernel
theorem dL_isWhole_402 : decode cL_isWhole 402 = .ok (.iload 10, 2) := by decide +kernel
theorem dL_isWhole_404 : decode cL_isWhole 404 = .ok (.iconst 2, 1) := by decide +kernel
theorem dL_isWhole_405 : decode cL_isWhole 405 = .ok (.if_icmp .ne 20, 3) := by decide +kernel
theorem dL_isWhole_408 : decode cL_isWhole 408 = .ok (.iload 18, 2) := by decide +kernel
theorem dL_isWhole_410 : decode cL_isWhole 410 = .ok (.ifCond .lt 15, 3) := by decide +kernel
theorem dL_isWhole_413 : decode cL_isWhole 413 = .ok (.aload_n 0, 1) := by decide +kernel
theorem dL_isWhole_414 : decode cL_isWhole 414 = .ok (.iload 18, 2) := by decide +kernel
theorem dL_isWhole_416 : decode cL_isWhole 416 = .ok (.iconst 0, 1) := by decide +kernel
theorem dL_isWhole_417 : decode cL_isWhole 417 = .ok (.invokevirtual 146, 3) := by decide +kernel
theorem dL_isWhole_420 : decode cL_isWhole 420 = .ok (.ifCond .ne 5, 3) := by decide +kernel
theorem dL_isWhole_423 : decode cL_isWhole 423 = .ok (.iconst 0, 1) := by decide +kernel
theorem dL_isWhole_424 : decode cL_isWhole 424 = .ok (.ireturn, 1) := by decide +kernel
theorem dL_isWhole_425 : decode cL_isWhole 425 = .ok (.iinc 17 1, 3) := by decide +kernel
theorem dL_isWhole_428 : decode cL_isWhole 428 = .ok (.goto (-131), 3) := by decide +kernel
theorem dL_isWhole_431 : decode cL_isWhole 431 = .ok (.aload_n 0, 1) := by decide +kernel
theorem dL_isWhole_432 : decode cL_isWhole 432 = .ok (.iload 9, 2) := by decide +kernel
theorem dL_isWhole_434 : decode cL_isWhole 434 = .ok (.invokevirtual 164, 3) := by decide +kernel
theorem dL_isWhole_437 : decode cL_isWhole 437 = .ok (.istore 17, 2) := by decide +kernel
theorem dL_isWhole_439 : decode cL_isWhole 439 = .ok (.iload 16, 2) := by decide +kernel
theorem dL_isWhole_441 : decode cL_isWhole 441 = .ok (.iconst 1, 1) := by decide +kernel
theorem dL_isWhole_442 : decode cL_isWhole 442 = .ok (.if_icmp .ne 7, 3) := by decide +kernel
theorem dL_isWhole_445 : decode cL_isWhole 445 = .ok (.iconst 1, 1) := by decide +kernel
theorem dL_isWhole_446 : decode cL_isWhole 446 = .ok (.goto 4, 3) := by decide +kernel
theorem dL_isWhole_449 : decode cL_isWhole 449 = .ok (.iconst 0, 1) := by decide +kernel
theorem dL_isWhole_450 : decode cL_isWhole 450 = .ok (.iload 17, 2) := by decide +kernel
theorem dL_isWhole_452 : decode cL_isWhole 452 = .ok (.iconst 1, 1) := by decide +kernel
theorem dL_isWhole_453 : decode cL_isWhole 453 = .ok (.if_icmp .ne 7, 3) := by decide +kernel
theorem dL_isWhole_456 : decode cL_isWhole 456 = .ok (.iconst 1, 1) := by decide +kernel
theorem dL_isWhole_457 : decode cL_isWhole 457 = .ok (.goto 4, 3) := by decide +kernel
theorem dL_isWhole_460 : decode cL_isWhole 460 = .ok (.iconst 0, 1) := by decide +kernel
theorem dL_isWhole_461 : decode cL_isWhole 461 = .ok (.if_icmp .ne 27, 3) := by decide +kernel
theorem dL_isWhole_464 : decode cL_isWhole 464 = .ok (.iload 17, 2) := by decide +kernel
theorem dL_isWhole_466 : decode cL_isWhole 466 = .ok (.bipush (-15), 2) := by decide +kernel
theorem dL_isWhole_468 : decode cL_isWhole 468 = .ok (.if_icmp .eq 16, 3) := by decide +kernel
theorem dL_isWhole_471 : decode cL_isWhole 471 = .ok (.iload 17, 2) := by decide +kernel
theorem dL_isWhole_473 : decode cL_isWhole 473 = .ok (.iconst 1, 1) := by decide +kernel
theorem dL_isWhole_474 : decode cL_isWhole 474 = .ok (.if_icmp .lt 14, 3) := by decide +kernel
theorem dL_isWhole_477 : decode cL_isWhole 477 = .ok (.iload 17, 2) := by decide +kernel
theorem dL_isWhole_479 : decode cL_isWhole 479 = .ok (.bipush 24, 2) := by decide +kernel
theorem dL_isWhole_481 : decode cL_isWhole 481 = .ok (.if_icmp .gt 7, 3) := by decide +kernel
theorem dL_isWhole_484 : decode cL_isWhole 484 = .ok (.iconst 1, 1) := by decide +kernel
theorem dL_isWhole_485 : decode cL_isWhole 485 = .ok (.goto 4, 3) := by decide +kernel
theorem dL_isWhole_488 : decode cL_isWhole 488 = .ok (.iconst 0, 1) := by decide +kernel
theorem dL_isWhole_489 : decode cL_isWhole 489 = .ok (.istore 18, 2) := by decide +kernel
theorem dL_isWhole_491 : decode cL_isWhole 491 = .ok (.aload_n 0, 1) := by decide +kernel
theorem dL_isWhole_492 : decode cL_isWhole 492 = .ok (.iload 9, 2) := by decide +kernel
theorem dL_isWhole_494 : decode cL_isWhole 494 = .ok (.iconst 1, 1) := by decide +kernel
theorem dL_isWhole_495 : decode cL_isWhole 495 = .ok (.invokevirtual 146, 3) := by decide +kernel
theorem dL_isWhole_498 : decode cL_isWhole 498 = .ok (.iconst 2, 1) := by decide +kernel
theorem dL_isWhole_499 : decode cL_isWhole 499 = .ok (.if_icmp .ne 13, 3) := by decide +kernel
theorem dL_isWhole_502 : decode cL_isWhole 502 = .ok (.iload 11, 2) := by decide +kernel
theorem dL_isWhole_504 : decode cL_isWhole 504 = .ok (.ifCond .eq 12, 3) := by decide +kernel
theorem dL_isWhole_507 : decode cL_isWhole 507 = .ok (.iload 12, 2) := by decide +kernel
theorem dL_isWhole_509 : decode cL_isWhole 509 = .ok (.ifCond .ne 7, 3) := by decide +kernel
theorem dL_isWhole_512 : decode cL_isWhole 512 = .ok (.iconst 1, 1) := by decide +kernel
theorem dL_isWhole_513 : decode cL_isWhole 513 = .ok (.goto 4, 3) := by decide +kernel
theorem dL_isWhole_516 : decode cL_isWhole 516 = .ok (.iconst 0, 1) := by decide +kernel
theorem dL_isWhole_517 : decode cL_isWhole 517 = .ok (.istore 19, 2) := by decide +kernel
theorem dL_isWhole_519 : decode cL_isWhole 519 = .ok (.iload 14, 2) := by decide +kernel
theorem dL_isWhole_521 : decode cL_isWhole 521 = .ok (.ifCond .eq 18, 3) := by decide +kernel
theorem dL_isWhole_524 : decode cL_isWhole 524 = .ok (.iload 15, 2) := by decide +kernel
theorem dL_isWhole_526 : decode cL_isWhole 526 = .ok (.ifCond .eq 13, 3) := by decide +kernel
theorem dL_isWhole_529 : decode cL_isWhole 529 = .ok (.iload 18, 2) := by decide +kernel
theorem dL_isWhole_531 : decode cL_isWhole 531 = .ok (.ifCond .eq 8, 3) := by decide +kernel
theorem dL_isWhole_534 : decode cL_isWhole 534 = .ok (.iload 19, 2) := by decide +kernel
theorem dL_isWhole_536 : decode cL_isWhole 536 = .ok (.ifCond .ne 5, 3) := by decide +kernel
theorem dL_isWhole_539 : decode cL_isWhole 539 = .ok (.iconst 0, 1) := by decide +kernel
theorem dL_isWhole_540 : decode cL_isWhole 540 = .ok (.ireturn, 1) := by decide +kernel
theorem dL_isWhole_541 : decode cL_isWhole 541 = .ok (.iinc 9 1, 3) := by decide +kernel
theorem dL_isWhole_544 : decode cL_isWhole 544 = .ok (.goto (-474), 3) := by decide +kernel
theorem dL_isWhole_547 : decode cL_isWhole 547 = .ok (.iconst 1, 1) := by decide +kernel
theorem dL_isWhole_548 : decode cL_isWhole 548 = .ok (.istore 9, 2) := by decide +kernel
theorem dL_isWhole_550 : decode cL_isWhole 550 = .ok (.iload 9, 2) := by decide +kernel
theorem dL_isWhole_552 : decode cL_isWhole 552 = .ok (.iload_n 1, 1) := by decide +kernel
theorem dL_isWhole_553 : decode cL_isWhole 553 = .ok (.if_icmp .ge 98, 3) := by decide +kernel
theorem dL_isWhole_556 : decode cL_isWhole 556 = .ok (.aload_n 0, 1) := by decide +kernel
theorem dL_isWhole_557 : decode cL_isWhole 557 = .ok (.iload 9, 2) := by decide +kernel
theorem dL_isWhole_559 : decode cL_isWhole 559 = .ok (.iconst 1, 1) := by decide +kernel
theorem dL_isWhole_560 : decode cL_isWhole 560 = .ok (.isub, 1) := by decide +kernel
theorem dL_isWhole_561 : decode cL_isWhole 561 = .ok (.invokevirtual 167, 3) := by decide +kernel
theorem dL_isWhole_564 : decode cL_isWhole 564 = .ok (.istore 10, 2) := by decide +kernel
theorem dL_isWhole_566 : decode cL_isWhole 566 = .ok (.aload_n 0, 1) := by decide +kernel
theorem dL_isWhole_567 : decode cL_isWhole 567 = .ok (.iload 9, 2) := by decide +kernel
theorem dL_isWhole_569 : decode cL_isWhole 569 = .ok (.invokevirtual 167, 3) := by decide +kernel
theorem dL_isWhole_572 : decode cL_isWhole 572 = .ok (.istore 11, 2) := by decide +kernel
theorem dL_isWhole_574 : decode cL_isWhole 574 = .ok (.aload_n 0, 1) := by decide +kernel
theorem dL_isWhole_575 : decode cL_isWhole 575 = .ok (.iload 10, 2) := by decide +kernel
theorem dL_isWhole_577 : decode cL_isWhole 577 = .ok (.iconst 3, 1) := by decide +kernel
theorem dL_isWhole_578 : decode cL_isWhole 578 = .ok (.invokevirtual 146, 3) := by decide +kernel
theorem dL_isWhole_581 : decode cL_isWhole 581 = .ok (.aload_n 0, 1) := by decide +kernel
theorem dL_isWhole_582 : decode cL_isWhole 582 = .ok (.iload 11, 2) := by decide +kernel
theorem dL_isWhole_584 : decode cL_isWhole 584 = .ok (.iconst 3, 1) := by decide +kernel
theorem dL_isWhole_585 : decode cL_isWhole 585 = .ok (.invokevirtual 146, 3) := by decide +kernel
theorem dL_isWhole_588 : decode cL_isWhole 588 = .ok (.if_icmp .eq 21, 3) := by decide +kernel
theorem dL_isWhole_591 : decode cL_isWhole 591 = .ok (.aload_n 0, 1) := by decide +kernel
theorem dL_isWhole_592 : decode cL_isWhole 592 = .ok (.iload 10, 2) := by decide +kernel
theorem dL_isWhole_594 : decode cL_isWhole 594 = .ok (.iconst 3, 1) := by decide +kernel
theorem dL_isWhole_595 : decode cL_isWhole 595 = .ok (.invokevirtual 146, 3) := by decide +kernel
theorem dL_isWhole_598 : decode cL_isWhole 598 = .ok (.aload_n 0, 1) := by decide +kernel
theorem dL_isWhole_599 : decode cL_isWhole 599 = .ok (.iload 11, 2) := by decide +kernel
theorem dL_isWhole_601 : decode cL_isWhole 601 = .ok (.iconst 3, 1) := by decide +kernel
theorem dL_isWhole_602 : decode cL_isWhole 602 = .ok (.invokevirtual 146, 3) := by decide +kernel
theorem dL_isWhole_605 : decode cL_isWhole 605 = .ok (.isub, 1) := by decide +kernel
theorem dL_isWhole_606 : decode cL_isWhole 606 = .ok (.goto 18, 3) := by decide +kernel
theorem dL_isWhole_609 : decode cL_isWhole 609 = .ok (.aload_n 0, 1) := by decide +kernel
theorem dL_isWhole_610 : decode cL_isWhole 610 = .ok (.iload 10, 2) := by decide +kernel
theorem dL_isWhole_612 : decode cL_isWhole 612 = .ok (.iconst 2, 1) := by decide +kernel
theorem dL_isWhole_613 : decode cL_isWhole 613 = .ok (.invokevirtual 146, 3) := by decide +kernel
theorem dL_isWhole_616 : decode cL_isWhole 616 = .ok (.aload_n 0, 1) := by decide +kernel
theorem dL_isWhole_617 : decode cL_isWhole 617 = .ok (.iload 11, 2) := by decide +kernel
theorem dL_isWhole_619 : decode cL_isWhole 619 = .ok (.iconst 2, 1) := by decide +kernel
theorem dL_isWhole_620 : decode cL_isWhole 620 = .ok (.invokevirtual 146, 3) := by decide +kernel
theorem dL_isWhole_623 : decode cL_isWhole 623 = .ok (.isub, 1) := by decide +kernel
theorem dL_isWhole_624 : decode cL_isWhole 624 = .ok (.istore 12, 2) := by decide +kernel
theorem dL_isWhole_626 : decode cL_isWhole 626 = .ok (.iload 12, 2) := by decide +kernel
theorem dL_isWhole_628 : decode cL_isWhole 628 = .ok (.ifCond .lt 15, 3) := by decide +kernel
theorem dL_isWhole_631 : decode cL_isWhole 631 = .ok (.iload 12, 2) := by decide +kernel
theorem dL_isWhole_633 : decode cL_isWhole 633 = .ok (.ifCond .ne 12, 3) := by decide +kernel
theorem dL_isWhole_636 : decode cL_isWhole 636 = .ok (.iload 10, 2) := by decide +kernel
theorem dL_isWhole_638 : decode cL_isWhole 638 = .ok (.iload 11, 2) := by decide +kernel
theorem dL_isWhole_640 : decode cL_isWhole 640 = .ok (.if_icmp .le 5, 3) := by decide +kernel
theorem dL_isWhole_643 : decode cL_isWhole 643 = .ok (.iconst 0, 1) := by decide +kernel
theorem dL_isWhole_644 : decode cL_isWhole 644 = .ok (.ireturn, 1) := by decide +kernel
theorem dL_isWhole_645 : decode cL_isWhole 645 = .ok (.iinc 9 1, 3) := by decide +kernel
theorem dL_isWhole_648 : decode cL_isWhole 648 = .ok (.goto (-98), 3) := by decide +kernel
theorem dL_isWhole_651 : decode cL_isWhole 651 = .ok (.aload_n 0, 1) := by decide +kernel
theorem dL_isWhole_652 : decode cL_isWhole 652 = .ok (.iconst 3, 1) := by decide +kernel
theorem dL_isWhole_653 : decode cL_isWhole 653 = .ok (.invokevirtual 45, 3) := by decide +kernel
theorem dL_isWhole_656 : decode cL_isWhole 656 = .ok (.iload_n 1, 1) := by decide +kernel
theorem dL_isWhole_657 : decode cL_isWhole 657 = .ok (.if_icmp .ne 128, 3) := by decide +kernel
theorem dL_isWhole_660 : decode cL_isWhole 660 = .ok (.aload_n 0, 1) := by decide +kernel
theorem dL_isWhole_661 : decode cL_isWhole 661 = .ok (.iconst 4, 1) := by decide +kernel
theorem dL_isWhole_662 : decode cL_isWhole 662 = .ok (.invokevirtual 45, 3) := by decide +kernel
theorem dL_isWhole_665 : decode cL_isWhole 665 = .ok (.aload 8, 2) := by decide +kernel
theorem dL_isWhole_667 : decode cL_isWhole 667 = .ok (.iconst 0, 1) := by decide +kernel
theorem dL_isWhole_668 : decode cL_isWhole 668 = .ok (.iaload, 1) := by decide +kernel
theorem dL_isWhole_669 : decode cL_isWhole 669 = .ok (.if_icmp .ne 116, 3) := by decide +kernel
theorem dL_isWhole_672 : decode cL_isWhole 672 = .ok (.aload_n 0, 1) := by decide +kernel
theorem dL_isWhole_673 : decode cL_isWhole 673 = .ok (.iconst 5, 1) := by decide +kernel
theorem dL_isWhole_674 : decode cL_isWhole 674 = .ok (.invokevirtual 45, 3) := by decide +kernel
theorem dL_isWhole_677 : decode cL_isWhole 677 = .ok (.aload 8, 2) := by decide +kernel
theorem dL_isWhole_679 : decode cL_isWhole 679 = .ok (.iconst 1, 1) := by decide +kernel
theorem dL_isWhole_680 : decode cL_isWhole 680 = .ok (.iaload, 1) := by decide +kernel
theorem dL_isWhole_681 : decode cL_isWhole 681 = .ok (.if_icmp .ne 104, 3) := by decide +kernel
theorem dL_isWhole_684 : decode cL_isWhole 684 = .ok (.aload_n 0, 1) := by decide +kernel
theorem dL_isWhole_685 : decode cL_isWhole 685 = .ok (.bipush 6, 2) := by decide +kernel
theorem dL_isWhole_687 : decode cL_isWhole 687 = .ok (.invokevirtual 45, 3) := by decide +kernel
theorem dL_isWhole_690 : decode cL_isWhole 690 = .ok (.aload 8, 2) := by decide +kernel
theorem dL_isWhole_692 : decode cL_isWhole 692 = .ok (.iconst 2, 1) := by decide +kernel
theorem dL_isWhole_693 : decode cL_isWhole 693 = .ok (.iaload, 1) := by decide +kernel
theorem dL_isWhole_694 : decode cL_isWhole 694 = .ok (.if_icmp .ne 91, 3) := by decide +kernel
theorem dL_isWhole_697 : decode cL_isWhole 697 = .ok (.aload_n 0, 1) := by decide +kernel
theorem dL_isWhole_698 : decode cL_isWhole 698 = .ok (.bipush 7, 2) := by decide +kernel
theorem dL_isWhole_700 : decode cL_isWhole 700 = .ok (.invokevirtual 45, 3) := by decide +kernel
theorem dL_isWhole_703 : decode cL_isWhole 703 = .ok (.iload_n 1, 1) := by decide +kernel
theorem dL_isWhole_704 : decode cL_isWhole 704 = .ok (.aload_n 0, 1) := by decide +kernel
theorem dL_isWhole_705 : decode cL_isWhole 705 = .ok (.bipush 8, 2) := by decide +kernel
theorem dL_isWhole_707 : decode cL_isWhole 707 = .ok (.invokevirtual 45, 3) := by decide +kernel
theorem dL_isWhole_710 : decode cL_isWhole 710 = .ok (.iadd, 1) := by decide +kernel
theorem dL_isWhole_711 : decode cL_isWhole 711 = .ok (.if_icmp .ne 74, 3) := by decide +kernel
theorem dL_isWhole_714 : decode cL_isWhole 714 = .ok (.aload_n 0, 1) := by decide +kernel
theorem dL_isWhole_715 : decode cL_isWhole 715 = .ok (.bipush 12, 2) := by decide +kernel
theorem dL_isWhole_717 : decode cL_isWhole 717 = .ok (.invokevirtual 45, 3) := by decide +kernel
theorem dL_isWhole_720 : decode cL_isWhole 720 = .ok (.iload 4, 2) := by decide +kernel
theorem dL_isWhole_722 : decode cL_isWhole 722 = .ok (.if_icmp .ne 63, 3) := by decide +kernel
theorem dL_isWhole_725 : decode cL_isWhole 725 = .ok (.iload_n 2, 1) := by decide +kernel
theorem dL_isWhole_726 : decode cL_isWhole 726 = .ok (.iload_n 3, 1) := by decide +kernel
theorem dL_isWhole_727 : decode cL_isWhole 727 = .ok (.iload 4, 2) := by decide +kernel
theorem dL_isWhole_729 : decode cL_isWhole 729 = .ok (.iadd, 1) := by decide +kernel
theorem dL_isWhole_730 : decode cL_isWhole 730 = .ok (.if_icmp .ne 55, 3) := by decide +kernel
theorem dL_isWhole_733 : decode cL_isWhole 733 = .ok (.aload_n 0, 1) := by decide +kernel
theorem dL_isWhole_734 : decode cL_isWhole 734 = .ok (.aload 8, 2) := by decide +kernel
theorem dL_isWhole_736 : decode cL_isWhole 736 = .ok (.iconst 1, 1) := by decide +kernel
theorem dL_isWhole_737 : decode cL_isWhole 737 = .ok (.iaload, 1) := by decide +kernel
theorem dL_isWhole_738 : decode cL_isWhole 738 = .ok (.invokevirtual 140, 3) := by decide +kernel
theorem dL_isWhole_741 : decode cL_isWhole 741 = .ok (.bipush (-11), 2) := by decide +kernel
theorem dL_isWhole_743 : decode cL_isWhole 743 = .ok (.if_icmp .ne 42, 3) := by decide +kernel
theorem dL_isWhole_746 : decode cL_isWhole 746 = .ok (.aload 8, 2) := by decide +kernel
theorem dL_isWhole_748 : decode cL_isWhole 748 = .ok (.iconst 1, 1) := by decide +kernel
theorem dL_isWhole_749 : decode cL_isWhole 749 = .ok (.iaload, 1) := by decide +kernel
theorem dL_isWhole_750 : decode cL_isWhole 750 = .ok (.ifCond .eq 16, 3) := by decide +kernel
theorem dL_isWhole_753 : decode cL_isWhole 753 = .ok (.aload_n 0, 1) := by decide +kernel
theorem dL_isWhole_754 : decode cL_isWhole 754 = .ok (.aload 8, 2) := by decide +kernel
theorem dL_isWhole_756 : decode cL_isWhole 756 = .ok (.iconst 1, 1) := by decide +kernel
theorem dL_isWhole_757 : decode cL_isWhole 757 = .ok (.iaload, 1) := by decide +kernel
theorem dL_isWhole_758 : decode cL_isWhole 758 = .ok (.iconst 1, 1) := by decide +kernel
theorem dL_isWhole_759 : decode cL_isWhole 759 = .ok (.isub, 1) := by decide +kernel
theorem dL_isWhole_760 : decode cL_isWhole 760 = .ok (.invokevirtual 140, 3) := by decide +kernel
theorem dL_isWhole_763 : decode cL_isWhole 763 = .ok (.ifCond .lt 22, 3) := by decide +kernel
theorem dL_isWhole_766 : decode cL_isWhole 766 = .ok (.aload_n 0, 1) := by decide +kernel
theorem dL_isWhole_767 : decode cL_isWhole 767 = .ok (.aload_n 0, 1) := by decide +kernel
theorem dL_isWhole_768 : decode cL_isWhole 768 = .ok (.bipush 9, 2) := by decide +kernel
theorem dL_isWhole_770 : decode cL_isWhole 770 = .ok (.invokevirtual 45, 3) := by decide +kernel
theorem dL_isWhole_773 : decode cL_isWhole 773 = .ok (.invokevirtual 135, 3) := by decide +kernel
theorem dL_isWhole_776 : decode cL_isWhole 776 = .ok (.bipush (-11), 2) := by decide +kernel
theorem dL_isWhole_778 : decode cL_isWhole 778 = .ok (.if_icmp .ne 7, 3) := by decide +kernel
theorem dL_isWhole_781 : decode cL_isWhole 781 = .ok (.iconst 1, 1) := by decide +kernel
theorem dL_isWhole_782 : decode cL_isWhole 782 = .ok (.goto 4, 3) := by decide +kernel
theorem dL_isWhole_785 : decode cL_isWhole 785 = .ok (.iconst 0, 1) := by decide +kernel
theorem dL_isWhole_786 : decode cL_isWhole 786 = .ok (.istore 9, 2) := by decide +kernel
theorem dL_isWhole_788 : decode cL_isWhole 788 = .ok (.iload_n 1, 1) := by decide +kernel
theorem dL_isWhole_789 : decode cL_isWhole 789 = .ok (.ifCond .ne 7, 3) := by decide +kernel
theorem dL_isWhole_792 : decode cL_isWhole 792 = .ok (.dconst 0, 1) := by decide +kernel
theorem dL_isWhole_793 : decode cL_isWhole 793 = .ok (.goto 8, 3) := by decide +kernel
theorem dL_isWhole_796 : decode cL_isWhole 796 = .ok (.iload_n 2, 1) := by decide +kernel
theorem dL_isWhole_797 : decode cL_isWhole 797 = .ok (.i2d, 1) := by decide +kernel
theorem dL_isWhole_798 : decode cL_isWhole 798 = .ok (.iload_n 1, 1) := by decide +kernel
theorem dL_isWhole_799 : decode cL_isWhole 799 = .ok (.i2d, 1) := by decide +kernel
theorem dL_isWhole_800 : decode cL_isWhole 800 = .ok (.ddiv, 1) := by decide +kernel
theorem dL_isWhole_801 : decode cL_isWhole 801 = .ok (.dstore 10, 2) := by decide +kernel
theorem dL_isWhole_803 : decode cL_isWhole 803 = .ok (.iload_n 1, 1) := by decide +kernel
theorem dL_isWhole_804 : decode cL_isWhole 804 = .ok (.ifCond .ne 7, 3) := by decide +kernel
theorem dL_isWhole_807 : decode cL_isWhole 807 = .ok (.fconst 0, 1) := by decide +kernel
theorem dL_isWhole_808 : decode cL_isWhole 808 = .ok (.goto 12, 3) := by decide +kernel
theorem dL_isWhole_811 : decode cL_isWhole 811 = .ok (.iload 6, 2) := by decide +kernel
theorem dL_isWhole_813 : decode cL_isWhole 813 = .ok (.invokestatic 170, 3) := by decide +kernel
theorem dL_isWhole_816 : decode cL_isWhole 816 = .ok (.i2f, 1) := by decide +kernel
theorem dL_isWhole_817 : decode cL_isWhole 817 = .ok (.iload_n 1, 1) := by decide +kernel
theorem dL_isWhole_818 : decode cL_isWhole 818 = .ok (.i2f, 1) := by decide +kernel
theorem dL_isWhole_819 : decode cL_isWhole 819 = .ok (.fdiv, 1) := by decide +kernel
theorem dL_isWhole_820 : decode cL_isWhole 820 = .ok (.fstore 12, 2) := by decide +kernel
theorem dL_isWhole_822 : decode cL_isWhole 822 = .ok (.iload 9, 2) := by decide +kernel
theorem dL_isWhole_824 : decode cL_isWhole 824 = .ok (.ifCond .eq 79, 3) := by decide +kernel
theorem dL_isWhole_827 : decode cL_isWhole 827 = .ok (.iload 6, 2) := by decide +kernel
theorem dL_isWhole_829 : decode cL_isWhole 829 = .ok (.aload_n 0, 1) := by decide +kernel
theorem dL_isWhole_830 : decode cL_isWhole 830 = .ok (.invokevirtual 175, 3) := by decide +kernel
theorem dL_isWhole_833 : decode cL_isWhole 833 = .ok (.if_icmp .ne 70, 3) := by decide +kernel
theorem dL_isWhole_836 : decode cL_isWhole 836 = .ok (.iload 6, 2) := by decide +kernel
theorem dL_isWhole_838 : decode cL_isWhole 838 = .ok (.iload 5, 2) := by decide +kernel
theorem dL_isWhole_840 : decode cL_isWhole 840 = .ok (.iconst (-1), 1) := by decide +kernel
theorem dL_isWhole_841 : decode cL_isWhole 841 = .ok (.ixor, 1) := by decide +kernel
theorem dL_isWhole_842 : decode cL_isWhole 842 = .ok (.iand, 1) := by decide +kernel
theorem dL_isWhole_843 : decode cL_isWhole 843 = .ok (.ifCond .ne 60, 3) := by decide +kernel
theorem dL_isWhole_846 : decode cL_isWhole 846 = .ok (.aload_n 0, 1) := by decide +kernel
theorem dL_isWhole_847 : decode cL_isWhole 847 = .ok (.invokevirtual 178, 3) := by decide +kernel
theorem dL_isWhole_850 : decode cL_isWhole 850 = .ok (.iload 6, 2) := by decide +kernel
theorem dL_isWhole_852 : decode cL_isWhole 852 = .ok (.iload 5, 2) := by decide +kernel
theorem dL_isWhole_854 : decode cL_isWhole 854 = .ok (.iconst (-1), 1) := by decide +kernel
theorem dL_isWhole_855 : decode cL_isWhole 855 = .ok (.ixor, 1) := by decide +kernel
theorem dL_isWhole_856 : decode cL_isWhole 856 = .ok (.ior, 1) := by decide +kernel
theorem dL_isWhole_857 : decode cL_isWhole 857 = .ok (.iand, 1) := by decide +kernel
theorem dL_isWhole_858 : decode cL_isWhole 858 = .ok (.ifCond .ne 45, 3) := by decide +kernel
theorem dL_isWhole_861 : decode cL_isWhole 861 = .ok (.aload_n 0, 1) := by decide +kernel
theorem dL_isWhole_862 : decode cL_isWhole 862 = .ok (.invokevirtual 181, 3) := by decide +kernel
theorem dL_isWhole_865 : decode cL_isWhole 865 = .ok (.iconst 1, 1) := by decide +kernel
theorem dL_isWhole_866 : decode cL_isWhole 866 = .ok (.if_icmp .ne 37, 3) := by decide +kernel
theorem dL_isWhole_869 : decode cL_isWhole 869 = .ok (.aload_n 0, 1) := by decide +kernel
theorem dL_isWhole_870 : decode cL_isWhole 870 = .ok (.invokevirtual 184, 3) := by decide +kernel
theorem dL_isWhole_873 : decode cL_isWhole 873 = .ok (.dload 10, 2) := by decide +kernel
theorem dL_isWhole_875 : decode cL_isWhole 875 = .ok (.dcmp .l, 1) := by decide +kernel
theorem dL_isWhole_876 : decode cL_isWhole 876 = .ok (.ifCond .ne 27, 3) := by decide +kernel
theorem dL_isWhole_879 : decode cL_isWhole 879 = .ok (.aload_n 0, 1) := by decide +kernel
theorem dL_isWhole_880 : decode cL_isWhole 880 = .ok (.invokevirtual 188, 3) := by decide +kernel
theorem dL_isWhole_883 : decode cL_isWhole 883 = .ok (.fload 12, 2) := by decide +kernel
theorem dL_isWhole_885 : decode cL_isWhole 885 = .ok (.fcmp .l, 1) := by decide +kernel
theorem dL_isWhole_886 : decode cL_isWhole 886 = .ok (.ifCond .ne 17, 3) := by decide +kernel
theorem dL_isWhole_889 : decode cL_isWhole 889 = .ok (.aload_n 0, 1) := by decide +kernel
theorem dL_isWhole_890 : decode cL_isWhole 890 = .ok (.iload_n 1, 1) := by decide +kernel
theorem dL_isWhole_891 : decode cL_isWhole 891 = .ok (.invokevirtual 167, 3) := by decide +kernel
theorem dL_isWhole_894 : decode cL_isWhole 894 = .ok (.bipush (-11), 2) := by decide +kernel
theorem dL_isWhole_896 : decode cL_isWhole 896 = .ok (.if_icmp .ne 7, 3) := by decide +kernel
theorem dL_isWhole_899 : decode cL_isWhole 899 = .ok (.iconst 1, 1) := by decide +kernel
theorem dL_isWhole_900 : decode cL_isWhole 900 = .ok (.goto 4, 3) := by decide +kernel
theorem dL_isWhole_903 : decode cL_isWhole 903 = .ok (.iconst 0, 1) := by decide +kernel
theorem dL_isWhole_904 : decode cL_isWhole 904 = .ok (.ireturn, 1) := by decide +kernel
def f_L_sum_o132_L141 (μ : mu_T) : Nat → Int → Int → Option Int
  | 0, _, _ => none
  | fu141 + 1, x1_141, x3_141 => lt_ x3_141 6
      (bd_ (f_X11_named μ x3_141) (fun v154 => il_ v154 (fun v157 => nm_ (((31 * x1_141) + v157)) (fun n159 => nm_ (x3_141 + 1) (fun n160 => (f_L_sum_o132_L141 μ fu141) n159 n160)))))
      (some x1_141)
def f_L_sum_o132_L106 (J133 : Int → Option Int) (x3_31 : Int) (μ : mu_T) : Nat → Int → Int → Option Int
  | 0, _, _ => none
  | fu106 + 1, x1_106, x4_106 => lt_ x4_106 4
      (bd_ (f_X11_threadOf μ x3_31 x4_106) (fun v121 => il_ v121 (fun v124 => nm_ (((31 * x1_106) + v124)) (fun n126 => nm_ (x4_106 + 1) (fun n127 => (f_L_sum_o132_L106 J133 x3_31 μ fu106) n126 n127)))))
      (J133 x1_106)
def f_L_sum_o132_L75 (J103 : Int → Option Int) (x3_31 : Int) (μ : mu_T) : Nat → Int → Int → Option Int
  | 0, _, _ => none
  | fu75 + 1, x1_75, x4_75 => lt_ x4_75 6
      (bd_ (f_X11_urnOf μ x3_31 x4_75) (fun v91 => il_ v91 (fun v94 => nm_ (((31 * x1_75) + v94)) (fun n96 => nm_ (x4_75 + 1) (fun n97 => (f_L_sum_o132_L75 J103 x3_31 μ fu75) n96 n97)))))
      (J103 x1_75)
def f_L_sum_o132_L31 (J139 : Int → Option Int) (μ : mu_T) : Nat → Int → Int → Option Int
  | 0, _, _ => none
  | fu31 + 1, x1_31, x3_31 => lt_ x3_31 24
      (bd_ (f_X11_due μ x3_31) (fun v47 => il_ v47 (fun v50 => bd_ (f_X11_grey μ x3_31) (fun v58 => il_ v58 (fun v61 => bd_ (f_X11_freed μ x3_31) (fun v66 => il_ v66 (fun v69 => nm_ (((((31 * x1_31) + (7 * v50)) + (5 * v61)) + v69)) (fun n71 => jn_ (φ := Int → Option Int) (fun x1_103 => jn_ (φ := Int → Option Int) (fun x1_133 => nm_ (x3_31 + 1) (fun n133 => (f_L_sum_o132_L31 J139 μ fu31) x1_133 n133))
      (fun J133 => f_L_sum_o132_L106 J133 x3_31 μ 20000 x1_103 0))
      (fun J103 => f_L_sum_o132_L75 J103 x3_31 μ 20000 n71 0)))))))))
      (J139 x1_31)
def f_L_sum_o132_L4 (J29 : Int → Option Int) (μ : mu_T) : Nat → Int → Int → Option Int
  | 0, _, _ => none
  | fu4 + 1, x1_4, x3_4 => lt_ x3_4 14
      (bd_ (f_X11_account μ x3_4) (fun v17 => il_ v17 (fun v20 => nm_ (((31 * x1_4) + v20)) (fun n22 => nm_ (x3_4 + 1) (fun n23 => (f_L_sum_o132_L4 J29 μ fu4) n22 n23)))))
      (J29 x1_4)
def f_L_sum_o132 (μ : mu_T)  : Option Int :=
  jn_ (φ := Int → Option Int) (fun x1_29 => jn_ (φ := Int → Option Int) (fun x1_139 => f_L_sum_o132_L141 μ 20000 x1_139 0)
      (fun J139 => f_L_sum_o132_L31 J139 μ 20000 x1_29 0))
      (fun J29 => f_L_sum_o132_L4 J29 μ 20000 0 0)
set_option maxHeartbeats 4000000 in
set_option maxRecDepth 100000 in
theorem c_L_sum_o132 {G : gp_} {ad : Nat → Nat} (μ : mu_T)  (a : Int) (h : f_L_sum_o132 μ  = some a) : ml_ yL_sum cL_sum 5 (some .long) ({ frames := 4, cells := 0, slots := 0, locals := 87 } : Room) G 151 ad (ceX G ad) [.ref (ad 132)] μ a μ := by
  refine ml_in (own := "UrnHeapLaw") (lv := [(0, .ref (ad 132))]) (by decide) rfl rfl (Nat.le_of_ble_eq_true rfl) (fun X C E => ?_)
  unfold f_L_sum_o132 at h
  refine xx_lconst0 C 1 rfl dL_sum_0 ?_
  refine xx_lstore_n (lv1 := [(1, .long (iL 0)), (0, .ref (ad 132))]) C 2 rfl (by decide) dL_sum_1 rfl rfl ?_
  refine xx_iconst C 3 rfl dL_sum_2 ?_
  refine xx_istore_n (lv1 := [(3, .int (iI 0)), (1, .long (iL 0)), (0, .ref (ad 132))]) C 4 rfl (by decide) dL_sum_3 rfl rfl ?_
  refine jn_r (fun J => ∀ (x1_29 : Int), J x1_29 = some a → wx_ G X 151 ad (ceX G ad) μ 0 0 29 [(0, .ref (ad 132)), (1, .long (iL x1_29))] []) h (fun x1_29 h => ?_) (fun J29 K29 h => ?_)
  · refine xx_iconst C 30 rfl dL_sum_29 ?_
    refine xx_istore_n (lv1 := [(3, .int (iI 0)), (0, .ref (ad 132)), (1, .long (iL x1_29))]) C 31 rfl (by decide) dL_sum_30 rfl rfl ?_
    refine jn_r (fun J => ∀ (x1_139 : Int), J x1_139 = some a → wx_ G X 151 ad (ceX G ad) μ 0 0 139 [(0, .ref (ad 132)), (1, .long (iL x1_139))] []) h (fun x1_139 h => ?_) (fun J139 K139 h => ?_)
    · refine xx_iconst C 140 rfl dL_sum_139 ?_
      refine xx_istore_n (lv1 := [(3, .int (iI 0)), (0, .ref (ad 132)), (1, .long (iL x1_139))]) C 141 rfl (by decide) dL_sum_140 rfl rfl ?_
      have L141 : ∀ (fu141 : Nat) (x1_141 : Int) (x3_141 : Int), f_L_sum_o132_L141 μ fu141 x1_141 x3_141 = some a → wx_ G X 151 ad (ceX G ad) μ 0 0 141 [(0, .ref (ad 132)), (1, .long (iL x1_141)), (3, .int (iI x3_141))] [] := by
        intro fu141
        induction fu141 with
        | zero => intro x1_141 x3_141 h; exact nn_ h
        | succ fu141 K141 =>
          intro x1_141 x3_141 h
          rw [f_L_sum_o132_L141] at h
          generalize f_L_sum_o132_L141 μ fu141 = R141 at K141 h
          refine xx_iload_n C 142 rfl 2 dL_sum_141 rfl rfl ?_
          refine xx_bipush C 144 rfl dL_sum_142 (by decide) ?_
          refine xx_icmp_ge (tgt := 166) C 147 rfl dL_sum_144 (by decide) h (fun h => ?_) (fun h => ?_)
          · refine xx_lload_n C 167 rfl 1 dL_sum_166 rfl rfl ?_
            exact xx_lretp C E rfl ⟨Nat.le_of_ble_eq_true rfl, Nat.le_of_ble_eq_true rfl⟩ dL_sum_167 h
          · refine xx_ldc2l C 150 rfl (v := 31) w_964 dL_sum_147 ?_
            refine xx_lload_n C 151 rfl 1 dL_sum_150 rfl rfl ?_
            refine xx_lmul C 152 rfl dL_sum_151 ?_
            refine xx_aload_n C 153 rfl 0 dL_sum_152 rfl rfl ?_
            refine xx_iload_n C 154 rfl 2 dL_sum_153 rfl rfl ?_
            refine xx_cVip (As := [.int (iI x3_141)]) (st := [.long (iL (31 * x1_141))]) (o := 132) C 157 rfl (by decide) (ceX_132 _ _ _) rfl rfl ca_X11_named cv_X11_named w_1004 rfl ⟨Nat.le_of_ble_eq_true rfl, Nat.le_of_ble_eq_true rfl⟩ ⟨Nat.le_of_ble_eq_true rfl, Nat.le_of_ble_eq_true rfl⟩ (Nat.le_of_ble_eq_true rfl) dL_sum_154 (fun v154 e9 => c_X11_named _ _ v154 e9) h (fun v154 h => ?_) rfl
            refine xx_i2l C 158 rfl dL_sum_157 h (fun v157 h => ?_)
            refine xx_ladd C 159 rfl dL_sum_158 ?_
            refine xx_nmL C h (fun n159 h => ?_)
            refine xx_lstore_n (lv1 := [(1, .long (iL n159)), (0, .ref (ad 132)), (3, .int (iI x3_141))]) C 160 rfl (by decide) dL_sum_159 rfl rfl ?_
            refine xx_iincn C 163 rfl 2 (by decide) dL_sum_160 rfl h (fun n160 h => ?_)
            refine xx_lv (lv1 := [(3, .int (iI n160)), (1, .long (iL n159)), (0, .ref (ad 132))]) rfl ?_
            refine xx_goto C 141 dL_sum_163 (by decide) ?_
            refine xx_sub [2, 1, 0] rfl ?_
            exact K141 n159 n160 h
      refine xx_sub [1, 2, 0] rfl ?_
      exact L141 _ _ _ h
    · have L31 : ∀ (fu31 : Nat) (x1_31 : Int) (x3_31 : Int), f_L_sum_o132_L31 J139 μ fu31 x1_31 x3_31 = some a → wx_ G X 151 ad (ceX G ad) μ 0 0 31 [(0, .ref (ad 132)), (1, .long (iL x1_31)), (3, .int (iI x3_31))] [] := by
        intro fu31
        induction fu31 with
        | zero => intro x1_31 x3_31 h; exact nn_ h
        | succ fu31 K31 =>
          intro x1_31 x3_31 h
          rw [f_L_sum_o132_L31] at h
          generalize f_L_sum_o132_L31 J139 μ fu31 = R31 at K31 h
          refine xx_iload_n C 32 rfl 2 dL_sum_31 rfl rfl ?_
          refine xx_bipush C 34 rfl dL_sum_32 (by decide) ?_
          refine xx_icmp_ge (tgt := 139) C 37 rfl dL_sum_34 (by decide) h (fun h => ?_) (fun h => ?_)
          · refine xx_sub [0, 1] rfl ?_
            exact K139 x1_31 h
          · refine xx_ldc2l C 40 rfl (v := 31) w_964 dL_sum_37 ?_
            refine xx_lload_n C 41 rfl 1 dL_sum_40 rfl rfl ?_
            refine xx_lmul C 42 rfl dL_sum_41 ?_
            refine xx_ldc2l C 45 rfl (v := 7) w_965 dL_sum_42 ?_
            refine xx_aload_n C 46 rfl 0 dL_sum_45 rfl rfl ?_
            refine xx_iload_n C 47 rfl 2 dL_sum_46 rfl rfl ?_
            refine xx_cVip (As := [.int (iI x3_31)]) (st := [.long (iL 7), .long (iL (31 * x1_31))]) (o := 132) C 50 rfl (by decide) (ceX_132 _ _ _) rfl rfl ca_X11_due cv_X11_due w_966 rfl ⟨Nat.le_of_ble_eq_true rfl, Nat.le_of_ble_eq_true rfl⟩ ⟨Nat.le_of_ble_eq_true rfl, Nat.le_of_ble_eq_true rfl⟩ (Nat.le_of_ble_eq_true rfl) dL_sum_47 (fun v47 e9 => c_X11_due _ _ v47 e9) h (fun v47 h => ?_) rfl
            refine xx_i2l C 51 rfl dL_sum_50 h (fun v50 h => ?_)
            refine xx_lmul C 52 rfl dL_sum_51 ?_
            refine xx_ladd C 53 rfl dL_sum_52 ?_
            refine xx_ldc2l C 56 rfl (v := 5) w_971 dL_sum_53 ?_
            refine xx_aload_n C 57 rfl 0 dL_sum_56 rfl rfl ?_
            refine xx_iload_n C 58 rfl 2 dL_sum_57 rfl rfl ?_
            refine xx_cVip (As := [.int (iI x3_31)]) (st := [.long (iL 5), .long (iL ((31 * x1_31) + (7 * v50)))]) (o := 132) C 61 rfl (by decide) (ceX_132 _ _ _) rfl rfl ca_X11_grey cv_X11_grey w_972 rfl ⟨Nat.le_of_ble_eq_true rfl, Nat.le_of_ble_eq_true rfl⟩ ⟨Nat.le_of_ble_eq_true rfl, Nat.le_of_ble_eq_true rfl⟩ (Nat.le_of_ble_eq_true rfl) dL_sum_58 (fun v58 e9 => c_X11_grey _ _ v58 e9) h (fun v58 h => ?_) rfl
            refine xx_i2l C 62 rfl dL_sum_61 h (fun v61 h => ?_)
            refine xx_lmul C 63 rfl dL_sum_62 ?_
            refine xx_ladd C 64 rfl dL_sum_63 ?_
            refine xx_aload_n C 65 rfl 0 dL_sum_64 rfl rfl ?_
            refine xx_iload_n C 66 rfl 2 dL_sum_65 rfl rfl ?_
            refine xx_cVip (As := [.int (iI x3_31)]) (st := [.long (iL (((31 * x1_31) + (7 * v50)) + (5 * v61)))]) (o := 132) C 69 rfl (by decide) (ceX_132 _ _ _) rfl rfl ca_X11_freed cv_X11_freed w_976 rfl ⟨Nat.le_of_ble_eq_true rfl, Nat.le_of_ble_eq_true rfl⟩ ⟨Nat.le_of_ble_eq_true rfl, Nat.le_of_ble_eq_true rfl⟩ (Nat.le_of_ble_eq_true rfl) dL_sum_66 (fun v66 e9 => c_X11_freed _ _ v66 e9) h (fun v66 h => ?_) rfl
            refine xx_i2l C 70 rfl dL_sum_69 h (fun v69 h => ?_)
            refine xx_ladd C 71 rfl dL_sum_70 ?_
            refine xx_nmL C h (fun n71 h => ?_)
            refine xx_lstore_n (lv1 := [(1, .long (iL n71)), (0, .ref (ad 132)), (3, .int (iI x3_31))]) C 72 rfl (by decide) dL_sum_71 rfl rfl ?_
            refine xx_iconst C 73 rfl dL_sum_72 ?_
            refine xx_istore (lv1 := [(4, .int (iI 0)), (1, .long (iL n71)), (0, .ref (ad 132)), (3, .int (iI x3_31))]) C 75 rfl (by decide) dL_sum_73 rfl ?_
            refine jn_r (fun J => ∀ (x1_103 : Int), J x1_103 = some a → wx_ G X 151 ad (ceX G ad) μ 0 0 103 [(0, .ref (ad 132)), (1, .long (iL x1_103)), (3, .int (iI x3_31))] []) h (fun x1_103 h => ?_) (fun J103 K103 h => ?_)
            · refine xx_iconst C 104 rfl dL_sum_103 ?_
              refine xx_istore (lv1 := [(4, .int (iI 0)), (0, .ref (ad 132)), (1, .long (iL x1_103)), (3, .int (iI x3_31))]) C 106 rfl (by decide) dL_sum_104 rfl ?_
              refine jn_r (fun J => ∀ (x1_133 : Int), J x1_133 = some a → wx_ G X 151 ad (ceX G ad) μ 0 0 133 [(0, .ref (ad 132)), (1, .long (iL x1_133)), (3, .int (iI x3_31))] []) h (fun x1_133 h => ?_) (fun J133 K133 h => ?_)
              · refine xx_iincn C 136 rfl 2 (by decide) dL_sum_133 rfl h (fun n133 h => ?_)
                refine xx_lv (lv1 := [(3, .int (iI n133)), (0, .ref (ad 132)), (1, .long (iL x1_133))]) rfl ?_
                refine xx_goto C 31 dL_sum_136 (by decide) ?_
                refine xx_sub [1, 2, 0] rfl ?_
                exact K31 x1_133 n133 h
              · have L106 : ∀ (fu106 : Nat) (x1_106 : Int) (x4_106 : Int), f_L_sum_o132_L106 J133 x3_31 μ fu106 x1_106 x4_106 = some a → wx_ G X 151 ad (ceX G ad) μ 0 0 106 [(0, .ref (ad 132)), (1, .long (iL x1_106)), (3, .int (iI x3_31)), (4, .int (iI x4_106))] [] := by
                  intro fu106
                  induction fu106 with
                  | zero => intro x1_106 x4_106 h; exact nn_ h
                  | succ fu106 K106 =>
                    intro x1_106 x4_106 h
                    rw [f_L_sum_o132_L106] at h
                    generalize f_L_sum_o132_L106 J133 x3_31 μ fu106 = R106 at K106 h
                    refine xx_iload C 108 rfl 3 dL_sum_106 rfl ?_
                    refine xx_iconst C 109 rfl dL_sum_108 ?_
                    refine xx_icmp_ge (tgt := 133) C 112 rfl dL_sum_109 (by decide) h (fun h => ?_) (fun h => ?_)
                    · refine xx_sub [0, 1, 2] rfl ?_
                      exact K133 x1_106 h
                    · refine xx_ldc2l C 115 rfl (v := 31) w_964 dL_sum_112 ?_
                      refine xx_lload_n C 116 rfl 1 dL_sum_115 rfl rfl ?_
                      refine xx_lmul C 117 rfl dL_sum_116 ?_
                      refine xx_aload_n C 118 rfl 0 dL_sum_117 rfl rfl ?_
                      refine xx_iload_n C 119 rfl 2 dL_sum_118 rfl rfl ?_
                      refine xx_iload C 121 rfl 3 dL_sum_119 rfl ?_
                      refine xx_cVip (As := [.int (iI x3_31), .int (iI x4_106)]) (st := [.long (iL (31 * x1_106))]) (o := 132) C 124 rfl (by decide) (ceX_132 _ _ _) rfl rfl ca_X11_threadOf cv_X11_threadOf w_998 rfl ⟨Nat.le_of_ble_eq_true rfl, Nat.le_of_ble_eq_true rfl⟩ ⟨Nat.le_of_ble_eq_true rfl, Nat.le_of_ble_eq_true rfl⟩ (Nat.le_of_ble_eq_true rfl) dL_sum_121 (fun v121 e9 => c_X11_threadOf _ _ _ v121 e9) h (fun v121 h => ?_) rfl
                      refine xx_i2l C 125 rfl dL_sum_124 h (fun v124 h => ?_)
                      refine xx_ladd C 126 rfl dL_sum_125 ?_
                      refine xx_nmL C h (fun n126 h => ?_)
                      refine xx_lstore_n (lv1 := [(1, .long (iL n126)), (0, .ref (ad 132)), (3, .int (iI x3_31)), (4, .int (iI x4_106))]) C 127 rfl (by decide) dL_sum_126 rfl rfl ?_
                      refine xx_iincn C 130 rfl 3 (by decide) dL_sum_127 rfl h (fun n127 h => ?_)
                      refine xx_lv (lv1 := [(4, .int (iI n127)), (1, .long (iL n126)), (0, .ref (ad 132)), (3, .int (iI x3_31))]) rfl ?_
                      refine xx_goto C 106 dL_sum_130 (by decide) ?_
                      refine xx_sub [2, 1, 3, 0] rfl ?_
                      exact K106 n126 n127 h
                refine xx_sub [1, 2, 3, 0] rfl ?_
                exact L106 _ _ _ h
            · have L75 : ∀ (fu75 : Nat) (x1_75 : Int) (x4_75 : Int), f_L_sum_o132_L75 J103 x3_31 μ fu75 x1_75 x4_75 = some a → wx_ G X 151 ad (ceX G ad) μ 0 0 75 [(0, .ref (ad 132)), (1, .long (iL x1_75)), (3, .int (iI x3_31)), (4, .int (iI x4_75))] [] := by
                intro fu75
                induction fu75 with
                | zero => intro x1_75 x4_75 h; exact nn_ h
                | succ fu75 K75 =>
                  intro x1_75 x4_75 h
                  rw [f_L_sum_o132_L75] at h
                  generalize f_L_sum_o132_L75 J103 x3_31 μ fu75 = R75 at K75 h
                  refine xx_iload C 77 rfl 3 dL_sum_75 rfl ?_
                  refine xx_bipush C 79 rfl dL_sum_77 (by decide) ?_
                  refine xx_icmp_ge (tgt := 103) C 82 rfl dL_sum_79 (by decide) h (fun h => ?_) (fun h => ?_)
                  · refine xx_sub [0, 1, 2] rfl ?_
                    exact K103 x1_75 h
                  · refine xx_ldc2l C 85 rfl (v := 31) w_964 dL_sum_82 ?_
                    refine xx_lload_n C 86 rfl 1 dL_sum_85 rfl rfl ?_
                    refine xx_lmul C 87 rfl dL_sum_86 ?_
                    refine xx_aload_n C 88 rfl 0 dL_sum_87 rfl rfl ?_
                    refine xx_iload_n C 89 rfl 2 dL_sum_88 rfl rfl ?_
                    refine xx_iload C 91 rfl 3 dL_sum_89 rfl ?_
                    refine xx_cVip (As := [.int (iI x3_31), .int (iI x4_75)]) (st := [.long (iL (31 * x1_75))]) (o := 132) C 94 rfl (by decide) (ceX_132 _ _ _) rfl rfl ca_X11_urnOf cv_X11_urnOf w_984 rfl ⟨Nat.le_of_ble_eq_true rfl, Nat.le_of_ble_eq_true rfl⟩ ⟨Nat.le_of_ble_eq_true rfl, Nat.le_of_ble_eq_true rfl⟩ (Nat.le_of_ble_eq_true rfl) dL_sum_91 (fun v91 e9 => c_X11_urnOf _ _ _ v91 e9) h (fun v91 h => ?_) rfl
                    refine xx_i2l C 95 rfl dL_sum_94 h (fun v94 h => ?_)
                    refine xx_ladd C 96 rfl dL_sum_95 ?_
                    refine xx_nmL C h (fun n96 h => ?_)
                    refine xx_lstore_n (lv1 := [(1, .long (iL n96)), (0, .ref (ad 132)), (3, .int (iI x3_31)), (4, .int (iI x4_75))]) C 97 rfl (by decide) dL_sum_96 rfl rfl ?_
                    refine xx_iincn C 100 rfl 3 (by decide) dL_sum_97 rfl h (fun n97 h => ?_)
                    refine xx_lv (lv1 := [(4, .int (iI n97)), (1, .long (iL n96)), (0, .ref (ad 132)), (3, .int (iI x3_31))]) rfl ?_
                    refine xx_goto C 75 dL_sum_100 (by decide) ?_
                    refine xx_sub [2, 1, 3, 0] rfl ?_
                    exact K75 n96 n97 h
              refine xx_sub [2, 1, 3, 0] rfl ?_
              exact L75 _ _ _ h
      refine xx_sub [1, 2, 0] rfl ?_
      exact L31 _ _ _ h
  · have L4 : ∀ (fu4 : Nat) (x1_4 : Int) (x3_4 : Int), f_L_sum_o132_L4 J29 μ fu4 x1_4 x3_4 = some a → wx_ G X 151 ad (ceX G ad) μ 0 0 4 [(0, .ref (ad 132)), (1, .long (iL x1_4)), (3, .int (iI x3_4))] [] := by
      intro fu4
      induction fu4 with
      | zero => intro x1_4 x3_4 h; exact nn_ h
      | succ fu4 K4 =>
        intro x1_4 x3_4 h
        rw [f_L_sum_o132_L4] at h
        generalize f_L_sum_o132_L4 J29 μ fu4 = R4 at K4 h
        refine xx_iload_n C 5 rfl 2 dL_sum_4 rfl rfl ?_
        refine xx_bipush C 7 rfl dL_sum_5 (by decide) ?_
        refine xx_icmp_ge (tgt := 29) C 10 rfl dL_sum_7 (by decide) h (fun h => ?_) (fun h => ?_)
        · refine xx_sub [0, 1] rfl ?_
          exact K29 x1_4 h
        · refine xx_ldc2l C 13 rfl (v := 31) w_964 dL_sum_10 ?_
          refine xx_lload_n C 14 rfl 1 dL_sum_13 rfl rfl ?_
          refine xx_lmul C 15 rfl dL_sum_14 ?_
          refine xx_aload_n C 16 rfl 0 dL_sum_15 rfl rfl ?_
          refine xx_iload_n C 17 rfl 2 dL_sum_16 rfl rfl ?_
          refine xx_cVip (As := [.int (iI x3_4)]) (st := [.long (iL (31 * x1_4))]) (o := 132) C 20 rfl (by decide) (ceX_132 _ _ _) rfl rfl ca_X11_account cv_X11_account w_365 rfl ⟨Nat.le_of_ble_eq_true rfl, Nat.le_of_ble_eq_true rfl⟩ ⟨Nat.le_of_ble_eq_true rfl, Nat.le_of_ble_eq_true rfl⟩ (Nat.le_of_ble_eq_true rfl) dL_sum_17 (fun v17 e9 => c_X11_account _ _ v17 e9) h (fun v17 h => ?_) rfl
          refine xx_i2l C 21 rfl dL_sum_20 h (fun v20 h => ?_)
          refine xx_ladd C 22 rfl dL_sum_21 ?_
          refine xx_nmL C h (fun n22 h => ?_)
          refine xx_lstore_n (lv1 := [(1, .long (iL n22)), (0, .ref (ad 132)), (3, .int (iI x3_4))]) C 23 rfl (by decide) dL_sum_22 rfl rfl ?_
          refine xx_iincn C 26 rfl 2 (by decide) dL_sum_23 rfl h (fun n23 h => ?_)
          refine xx_lv (lv1 := [(3, .int (iI n23)), (1, .long (iL n22)), (0, .ref (ad 132))]) rfl ?_
          refine xx_goto C 4 dL_sum_26 (by decide) ?_
          refine xx_sub [2, 1, 0] rfl ?_
          exact K4 n22 n23 h
    refine xx_sub [2, 1, 0] rfl ?_
    exact L4 _ _ _ h

def f_L_isWhole_o132_L550 (J651 : mu_T → Option (Int × mu_T)) (x1_547 : Int) : Nat → Int → mu_T → Option (Int × mu_T)
  | 0, _, _ => none
  | fu550 + 1, x9_550, μ550 => lt_ x9_550 x1_547
      (be_ μ550 (f_X11_ranked μ550 (x9_550 - 1)) (fun v561 μ561 => be_ μ561 (f_X11_ranked μ561 x9_550) (fun v569 μ569 => bd_ (f_X11_urnOf μ569 v561 3) (fun v578 => bd_ (f_X11_urnOf μ569 v569 3) (fun v585 => jn_ (φ := Int → Option (Int × mu_T)) (fun s0_624 => lt_ s0_624 0
      (none)
      (jn_ (φ := Unit → Option (Int × mu_T)) (fun _ => nm_ (x9_550 + 1) (fun n645 => (f_L_isWhole_o132_L550 J651 x1_547 fu550) n645 μ569))
      (fun J645 => eq_ s0_624 0
      (lt_ v569 v561
      (none)
      (J645 ()))
      (J645 ()))))
      (fun J624 => eq_ v578 v585
      (bd_ (f_X11_urnOf μ569 v561 2) (fun v613 => bd_ (f_X11_urnOf μ569 v569 2) (fun v620 => J624 (v613 - v620))))
      (bd_ (f_X11_urnOf μ569 v561 3) (fun v595 => bd_ (f_X11_urnOf μ569 v569 3) (fun v602 => J624 (v595 - v602))))))))))
      (J651 μ550)
def f_L_isWhole_o132_L297 (J431 : Int → Option (Int × mu_T)) (v20 : Int) (x9_70 : Int) (v108 : Int) (s0_158 : Int) (v163 : Int) (μ121 : mu_T) : Nat → Int → Int → Option (Int × mu_T)
  | 0, _, _ => none
  | fu297 + 1, x16_297, x17_297 => lt_ x17_297 4
      (bd_ (f_X11_threadOf μ121 x9_70 x17_297) (fun v308 => jn_ (φ := Int → Option (Int × mu_T)) (fun x16_323 => jn_ (φ := Unit → Option (Int × mu_T)) (fun _ => jn_ (φ := Unit → Option (Int × mu_T)) (fun _ => eq_ 1 0
      (none)
      (eq_ 1 0
      (none)
      (jn_ (φ := Unit → Option (Int × mu_T)) (fun _ => nm_ (x17_297 + 1) (fun n425 => (f_L_isWhole_o132_L297 J431 v20 x9_70 v108 s0_158 v163 μ121 fu297) x16_323 n425))
      (fun J425 => eq_ v20 1
      (eq_ v108 2
      (lt_ v308 0
      (J425 ())
      (bd_ (f_X11_urnOf μ121 v308 0) (fun v417 => eq_ v417 0
      (none)
      (J425 ()))))
      (J425 ()))
      (J425 ())))))
      (fun J379 => eq_ v308 (-15)
      (J379 ())
      (bd_ (f_X11_urnOf μ121 v308 0) (fun v373 => lt_ v373 0
      (none)
      (J379 ())))))
      (fun J355 => lt_ v308 0
      (J355 ())
      (eq_ s0_158 0
      (J355 ())
      (bd_ (f_X11_depth μ121 v308) (fun v336 => lt_ v336 0
      (none)
      (bd_ (f_X11_depth μ121 v308) (fun v345 => lt_ (v163 + 1) v345
      (none)
      (J355 ()))))))))
      (fun J323 => eq_ v308 x9_70
      (J323 1)
      (J323 x16_297))))
      (J431 x16_297)
def f_L_isWhole_o132_L70 (J547 : Int → Int → Int → Int → mu_T → Option (Int × mu_T)) (v13 : Int) (v20 : Int) : Nat → Int → Int → Int → Int → Int → mu_T → Option (Int × mu_T)
  | 0, _, _, _, _, _, _ => none
  | fu70 + 1, x1_70, x2_70, x3_70, x5_70, x9_70, μ70 => lt_ x9_70 24
      (bd_ (f_X11_urnOf μ70 x9_70 0) (fun v81 => jn_ (φ := Int → Int → Int → Int → mu_T → Option (Int × mu_T)) (fun x1_541 x2_541 x3_541 x5_541 μ541 => nm_ (x9_70 + 1) (fun n541 => (f_L_isWhole_o132_L70 J547 v13 v20 fu70) x1_541 x2_541 x3_541 x5_541 n541 μ541))
      (fun J541 => eq_ v81 (-11)
      (J541 x1_70 x2_70 x3_70 x5_70 μ70)
      (nm_ (x1_70 + 1) (fun n92 => nm_ ((or_ x5_70 (sl_ 1 x9_70))) (fun n102 => bd_ (f_X11_urnOf μ70 x9_70 0) (fun v108 => rd_ μ70 151 3 v108 (fun v118 => wr_ μ70 151 3 v108 (v118 + 1) (fun μ121 => bd_ (f_X11_urnOf μ121 x9_70 3) (fun v127 => nm_ ((x2_70 + v127)) (fun n131 => bd_ (f_X11_urnOf μ121 x9_70 2) (fun v137 => nm_ ((x3_70 + v137)) (fun n141 => jn_ (φ := Int → Option (Int × mu_T)) (fun s0_158 => bd_ (f_X11_depth μ121 x9_70) (fun v163 => jn_ (φ := Int → Option (Int × mu_T)) (fun s0_194 => jn_ (φ := Int → Option (Int × mu_T)) (fun s0_208 => eq_ s0_158 s0_208
      (lt_ v163 24
      (jn_ (φ := Unit → Option (Int × mu_T)) (fun _ => bd_ (f_X11_keepers μ121 x9_70) (fun v235 => eq_ (an_ v235 (-64)) 0
      (jn_ (φ := Unit → Option (Int × mu_T)) (fun _ => jn_ (φ := Unit → Option (Int × mu_T)) (fun _ => jn_ (φ := Unit → Option (Int × mu_T)) (fun _ => jn_ (φ := Int → Option (Int × mu_T)) (fun x16_431 => bd_ (f_X11_ring μ121 x9_70) (fun v434 => jn_ (φ := Int → Option (Int × mu_T)) (fun s0_450 => jn_ (φ := Int → Option (Int × mu_T)) (fun s0_461 => eq_ s0_450 s0_461
      (jn_ (φ := Unit → Option (Int × mu_T)) (fun _ => bd_ (f_X11_urnOf μ121 x9_70 1) (fun v495 => jn_ (φ := Unit → Option (Int × mu_T)) (fun _ => eq_ 1 0
      (none)
      (eq_ 1 0
      (none)
      (eq_ 1 0
      (none)
      (eq_ 1 0
      (none)
      (J541 n92 n131 n141 n102 μ121)))))
      (fun J512 => eq_ v495 2
      (eq_ s0_158 0
      (none)
      (eq_ v163 0
      (J512 ())
      (none)))
      (J512 ()))))
      (fun J484 => eq_ v434 (-15)
      (J484 ())
      (lt_ v434 1
      (none)
      (lt_ 24 v434
      (none)
      (J484 ())))))
      (none))
      (fun J461 => eq_ v434 1
      (J461 1)
      (J461 0)))
      (fun J450 => eq_ x16_431 1
      (J450 1)
      (J450 0))))
      (fun J431 => f_L_isWhole_o132_L297 J431 v20 x9_70 v108 s0_158 v163 μ121 20000 (-15) 0))
      (fun J283 => eq_ s0_194 0
      (J283 ())
      (eq_ s0_158 0
      (J283 ())
      (none))))
      (fun J273 => eq_ v20 1
      (J273 ())
      (eq_ v108 1
      (none)
      (J273 ()))))
      (fun J261 => lt_ 0 v20
      (J261 ())
      (eq_ v108 0
      (J261 ())
      (none))))
      (none)))
      (fun J232 => eq_ s0_158 0
      (bd_ (f_X11_keepers μ121 x9_70) (fun v226 => eq_ v226 0
      (J232 ())
      (none)))
      (J232 ())))
      (none))
      (none))
      (fun J208 => lt_ v163 0
      (J208 0)
      (J208 1)))
      (fun J194 => jn_ (φ := Unit → Option (Int × mu_T)) (fun _ => J194 0)
      (fun J193 => eq_ v20 2
      (eq_ v108 0
      (bd_ (f_X11_account μ121 2) (fun v183 => lt_ x9_70 v183
      (J193 ())
      (J194 1)))
      (J193 ()))
      (J193 ())))))
      (fun J158 => eq_ (an_ (sr_ v13 x9_70) 1) 1
      (J158 1)
      (J158 0)))))))))))))))
      (J547 x1_70 x2_70 x3_70 x5_70 μ70)
def f_L_isWhole_o132_L33 (J67 : Int → Option (Int × mu_T)) (μ26 : mu_T) : Nat → Int → Int → Option (Int × mu_T)
  | 0, _, _ => none
  | fu33 + 1, x4_33, x9_33 => lt_ x9_33 6
      (bd_ (f_X11_named μ26 x9_33) (fun v45 => jn_ (φ := Int → Option (Int × mu_T)) (fun s0_58 => nm_ ((x4_33 + s0_58)) (fun n59 => nm_ (x9_33 + 1) (fun n61 => (f_L_isWhole_o132_L33 J67 μ26 fu33) n59 n61)))
      (fun J58 => eq_ v45 (-15)
      (J58 0)
      (J58 1))))
      (J67 x4_33)
def f_L_isWhole_o132 (μ : mu_T)  : Option (Int × mu_T) :=
  bd_ (f_X11_live μ) (fun v13 => bd_ (f_X11_account μ 1) (fun v20 => mm_ (um_ μ 151 (fun _ => 0)) (fun μ26 => jn_ (φ := Int → Option (Int × mu_T)) (fun x4_67 => jn_ (φ := Int → Int → Int → Int → mu_T → Option (Int × mu_T)) (fun x1_547 x2_547 x3_547 x5_547 μ547 => jn_ (φ := mu_T → Option (Int × mu_T)) (fun μ651 => bd_ (f_X11_account μ651 3) (fun v653 => eq_ v653 x1_547
      (bd_ (f_X11_account μ651 4) (fun v662 => rd_ μ651 151 3 0 (fun v668 => eq_ v662 v668
      (bd_ (f_X11_account μ651 5) (fun v674 => rd_ μ651 151 3 1 (fun v680 => eq_ v674 v680
      (bd_ (f_X11_account μ651 6) (fun v687 => rd_ μ651 151 3 2 (fun v693 => eq_ v687 v693
      (bd_ (f_X11_account μ651 7) (fun v700 => bd_ (f_X11_account μ651 8) (fun v707 => eq_ v700 (x1_547 + v707)
      (bd_ (f_X11_account μ651 12) (fun v717 => eq_ v717 x4_67
      (eq_ x2_547 (x3_547 + x4_67)
      (rd_ μ651 151 3 1 (fun v737 => bd_ (f_X11_grey μ651 v737) (fun v738 => eq_ v738 (-11)
      (rd_ μ651 151 3 1 (fun v749 => jn_ (φ := Unit → Option (Int × mu_T)) (fun _ => bd_ (f_X11_account μ651 9) (fun v770 => bd_ (f_X11_due μ651 v770) (fun v773 => eq_ v773 (-11)
      (jn_ (φ := UInt64 → Option (Int × mu_T)) (fun s0_801 => jn_ (φ := UInt32 → Option (Int × mu_T)) (fun s0_820 => eq_ 1 0
      (none)
      (bd_ (f_X11_liveAgain μ651) (fun v830 => eq_ v13 v830
      (eq_ (an_ v13 (xo_ x5_547 (-1))) 0
      (bd_ (f_X11_wouldFree μ651) (fun v847 => eq_ (an_ v847 (or_ v13 (xo_ x5_547 (-1)))) 0
      (bd_ (f_X11_isBalanced μ651) (fun v862 => eq_ v862 1
      (bd_ (f_X11_meanHeld μ651) (fun v870 => dc_ v870 s0_801 (eq_ 0 0
      (bd_ (f_X11_liveShare μ651) (fun v880 => fc_ v880 s0_820 (eq_ 0 0
      (be_ μ651 (f_X11_ranked μ651 x1_547) (fun v891 μ891 => eq_ v891 (-11)
      (some (1, μ891))
      (none)))
      (none))))
      (none))))
      (none)))
      (none)))
      (none))
      (none))))
      (fun J820 => eq_ x1_547 0
      (J820 (FP.fconst0))
      (bd_ (f_J6_bitCount_0f7a4 μ651 v13) (fun v813 => fd_ (FP.i2f (iI v813)) (FP.i2f (iI x1_547)) (fun v819 => J820 v819)))))
      (fun J801 => eq_ x1_547 0
      (J801 (FP.dconst0))
      (dd_ (FP.i2d (iI x2_547)) (FP.i2d (iI x1_547)) (fun v800 => J801 v800))))
      (none))))
      (fun J766 => eq_ v749 0
      (J766 ())
      (rd_ μ651 151 3 1 (fun v757 => bd_ (f_X11_grey μ651 (v757 - 1)) (fun v760 => lt_ v760 0
      (none)
      (J766 ())))))))
      (none))))
      (none))
      (none)))
      (none))))
      (none))))
      (none))))
      (none))))
      (none)))
      (fun J651 => f_L_isWhole_o132_L550 J651 x1_547 20000 1 μ547))
      (fun J547 => f_L_isWhole_o132_L70 J547 v13 v20 20000 0 0 0 0 0 μ26))
      (fun J67 => f_L_isWhole_o132_L33 J67 μ26 20000 0 0))))
set_option maxHeartbeats 4000000 in
set_option maxRecDepth 100000 in
theorem c_L_isWhole_o132 {G : gp_} {ad : Nat → Nat} (μ : mu_T)  (a : Int) (μr : mu_T) (h : f_L_isWhole_o132 μ  = some (a, μr)) : mi_ yL_isWhole cL_isWhole 21 (some .boolean) ({ frames := 8, cells := 1, slots := 3, locals := 176 } : Room) G 151 ad (ceX G ad) [.ref (ad 132)] μ a μr := by
  refine mi_in (own := "UrnHeapLaw") (lv := [(0, .ref (ad 132))]) (by decide) rfl rfl (Nat.le_of_ble_eq_true rfl) (fun X C E => ?_)
  unfold f_L_isWhole_o132 at h
  refine xx_iconst C 1 rfl dL_isWhole_0 ?_
  refine xx_istore_n (lv1 := [(1, .int (iI 0)), (0, .ref (ad 132))]) C 2 rfl (by decide) dL_isWhole_1 rfl rfl ?_
  refine xx_iconst C 3 rfl dL_isWhole_2 ?_
  refine xx_istore_n (lv1 := [(2, .int (iI 0)), (1, .int (iI 0)), (0, .ref (ad 132))]) C 4 rfl (by decide) dL_isWhole_3 rfl rfl ?_
  refine xx_iconst C 5 rfl dL_isWhole_4 ?_
  refine xx_istore_n (lv1 := [(3, .int (iI 0)), (2, .int (iI 0)), (1, .int (iI 0)), (0, .ref (ad 132))]) C 6 rfl (by decide) dL_isWhole_5 rfl rfl ?_
  refine xx_iconst C 7 rfl dL_isWhole_6 ?_
  refine xx_istore (lv1 := [(4, .int (iI 0)), (3, .int (iI 0)), (2, .int (iI 0)), (1, .int (iI 0)), (0, .ref (ad 132))]) C 9 rfl (by decide) dL_isWhole_7 rfl ?_
  refine xx_iconst C 10 rfl dL_isWhole_9 ?_
  refine xx_istore (lv1 := [(5, .int (iI 0)), (4, .int (iI 0)), (3, .int (iI 0)), (2, .int (iI 0)), (1, .int (iI 0)), (0, .ref (ad 132))]) C 12 rfl (by decide) dL_isWhole_10 rfl ?_
  refine xx_aload_n C 13 rfl 5 dL_isWhole_12 rfl rfl ?_
  refine xx_cVip (As := []) (st := []) (o := 132) C 16 rfl (by decide) (ceX_132 _ _ _) rfl rfl ca_X11_live cv_X11_live w_1012 rfl ⟨Nat.le_of_ble_eq_true rfl, Nat.le_of_ble_eq_true rfl⟩ ⟨Nat.le_of_ble_eq_true rfl, Nat.le_of_ble_eq_true rfl⟩ (Nat.le_of_ble_eq_true rfl) dL_isWhole_13 (fun v13 e9 => c_X11_live _ v13 e9) h (fun v13 h => ?_) rfl
  refine xx_istore (lv1 := [(6, .int (iI v13)), (5, .int (iI 0)), (4, .int (iI 0)), (3, .int (iI 0)), (2, .int (iI 0)), (1, .int (iI 0)), (0, .ref (ad 132))]) C 18 rfl (by decide) dL_isWhole_16 rfl ?_
  refine xx_aload_n C 19 rfl 6 dL_isWhole_18 rfl rfl ?_
  refine xx_iconst C 20 rfl dL_isWhole_19 ?_
  refine xx_cVip (As := [.int (iI 1)]) (st := []) (o := 132) C 23 rfl (by decide) (ceX_132 _ _ _) rfl rfl ca_X11_account cv_X11_account w_365 rfl ⟨Nat.le_of_ble_eq_true rfl, Nat.le_of_ble_eq_true rfl⟩ ⟨Nat.le_of_ble_eq_true rfl, Nat.le_of_ble_eq_true rfl⟩ (Nat.le_of_ble_eq_true rfl) dL_isWhole_20 (fun v20 e9 => c_X11_account _ _ v20 e9) h (fun v20 h => ?_) rfl
  refine xx_istore (lv1 := [(7, .int (iI v20)), (6, .int (iI v13)), (5, .int (iI 0)), (4, .int (iI 0)), (3, .int (iI 0)), (2, .int (iI 0)), (1, .int (iI 0)), (0, .ref (ad 132))]) C 25 rfl (by decide) dL_isWhole_23 rfl ?_
  refine xx_iconst C 26 rfl dL_isWhole_25 ?_
  refine xx_newi C 28 rfl w_79 ⟨Nat.le_of_ble_eq_true rfl, Nat.le_of_ble_eq_true rfl⟩ dL_isWhole_26 h (fun x26 μ26 h => ?_)
  refine xx_astore (lv1 := [(8, .ref x26), (7, .int (iI v20)), (6, .int (iI v13)), (5, .int (iI 0)), (4, .int (iI 0)), (3, .int (iI 0)), (2, .int (iI 0)), (1, .int (iI 0)), (0, .ref (ad 132))]) C 30 rfl (by decide) dL_isWhole_28 rfl ?_
  refine xx_iconst C 31 rfl dL_isWhole_30 ?_
  refine xx_istore (lv1 := [(9, .int (iI 0)), (8, .ref x26), (7, .int (iI v20)), (6, .int (iI v13)), (5, .int (iI 0)), (4, .int (iI 0)), (3, .int (iI 0)), (2, .int (iI 0)), (1, .int (iI 0)), (0, .ref (ad 132))]) C 33 rfl (by decide) dL_isWhole_31 rfl ?_
  refine jn_r (fun J => ∀ (x4_67 : Int), J x4_67 = some (a, μr) → wx_ G X 152 (a9_ ad x26) (cI_ G (ceX G ad)) μ26 1 3 67 [(0, .ref (ad 132)), (1, .int (iI 0)), (2, .int (iI 0)), (3, .int (iI 0)), (4, .int (iI x4_67)), (5, .int (iI 0)), (6, .int (iI v13)), (7, .int (iI v20)), (8, .ref x26)] []) h (fun x4_67 h => ?_) (fun J67 K67 h => ?_)
  · refine xx_iconst C 68 rfl dL_isWhole_67 ?_
    refine xx_istore (lv1 := [(9, .int (iI 0)), (0, .ref (ad 132)), (1, .int (iI 0)), (2, .int (iI 0)), (3, .int (iI 0)), (4, .int (iI x4_67)), (5, .int (iI 0)), (6, .int (iI v13)), (7, .int (iI v20)), (8, .ref x26)]) C 70 rfl (by decide) dL_isWhole_68 rfl ?_
    refine jn_r (fun J => ∀ (x1_547 : Int) (x2_547 : Int) (x3_547 : Int) (x5_547 : Int) (μ547 : mu_T), J x1_547 x2_547 x3_547 x5_547 μ547 = some (a, μr) → wx_ G X 152 (a9_ ad x26) (cI_ G (ceX G ad)) μ547 1 3 547 [(0, .ref (ad 132)), (1, .int (iI x1_547)), (2, .int (iI x2_547)), (3, .int (iI x3_547)), (4, .int (iI x4_67)), (5, .int (iI x5_547)), (6, .int (iI v13)), (8, .ref x26)] []) h (fun x1_547 x2_547 x3_547 x5_547 μ547 h => ?_) (fun J547 K547 h => ?_)
    · refine xx_iconst C 548 rfl dL_isWhole_547 ?_
      refine xx_istore (lv1 := [(9, .int (iI 1)), (0, .ref (ad 132)), (1, .int (iI x1_547)), (2, .int (iI x2_547)), (3, .int (iI x3_547)), (4, .int (iI x4_67)), (5, .int (iI x5_547)), (6, .int (iI v13)), (8, .ref x26)]) C 550 rfl (by decide) dL_isWhole_548 rfl ?_
      refine jn_r (fun J => ∀ (μ651 : mu_T), J μ651 = some (a, μr) → wx_ G X 152 (a9_ ad x26) (cI_ G (ceX G ad)) μ651 1 3 651 [(0, .ref (ad 132)), (1, .int (iI x1_547)), (2, .int (iI x2_547)), (3, .int (iI x3_547)), (4, .int (iI x4_67)), (5, .int (iI x5_547)), (6, .int (iI v13)), (8, .ref x26)] []) h (fun μ651 h => ?_) (fun J651 K651 h => ?_)
      · refine xx_aload_n C 652 rfl 0 dL_isWhole_651 rfl rfl ?_
        refine xx_iconst C 653 rfl dL_isWhole_652 ?_
        refine xe_cVip (As := [.int (iI 3)]) (st := []) (o := 132) C 656 rfl (fun _ hk _ => cI_ne hk) (by decide) (ceX_132 _ _ _) rfl rfl ca_X11_account cv_X11_account w_365 rfl ⟨Nat.le_of_ble_eq_true rfl, Nat.le_of_ble_eq_true rfl⟩ ⟨Nat.le_of_ble_eq_true rfl, Nat.le_of_ble_eq_true rfl⟩ (Nat.le_of_ble_eq_true rfl) dL_isWhole_653 (fun v653 e9 => c_X11_account _ _ v653 e9) h (fun v653 h => ?_) rfl
        refine xx_iload_n C 657 rfl 1 dL_isWhole_656 rfl rfl ?_
        refine xx_icmp_ne (tgt := 785) C 660 rfl dL_isWhole_657 (by decide) h (fun h => ?_) (fun h => ?_)
        · exact nn_ h
        · refine xx_aload_n C 661 rfl 0 dL_isWhole_660 rfl rfl ?_
          refine xx_iconst C 662 rfl dL_isWhole_661 ?_
          refine xe_cVip (As := [.int (iI 4)]) (st := []) (o := 132) C 665 rfl (fun _ hk _ => cI_ne hk) (by decide) (ceX_132 _ _ _) rfl rfl ca_X11_account cv_X11_account w_365 rfl ⟨Nat.le_of_ble_eq_true rfl, Nat.le_of_ble_eq_true rfl⟩ ⟨Nat.le_of_ble_eq_true rfl, Nat.le_of_ble_eq_true rfl⟩ (Nat.le_of_ble_eq_true rfl) dL_isWhole_662 (fun v662 e9 => c_X11_account _ _ v662 e9) h (fun v662 h => ?_) rfl
          refine xx_aload C 667 rfl 7 dL_isWhole_665 rfl ?_
          refine xx_iconst C 668 rfl dL_isWhole_667 ?_
          refine xx_iaload (q := 151) C 669 rfl (by decide) (fun _ => rfl) (by decide) dL_isWhole_668 h (fun v668 h => ?_)
          refine xx_icmp_ne (tgt := 785) C 672 rfl dL_isWhole_669 (by decide) h (fun h => ?_) (fun h => ?_)
          · exact nn_ h
          · refine xx_aload_n C 673 rfl 0 dL_isWhole_672 rfl rfl ?_
            refine xx_iconst C 674 rfl dL_isWhole_673 ?_
            refine xe_cVip (As := [.int (iI 5)]) (st := []) (o := 132) C 677 rfl (fun _ hk _ => cI_ne hk) (by decide) (ceX_132 _ _ _) rfl rfl ca_X11_account cv_X11_account w_365 rfl ⟨Nat.le_of_ble_eq_true rfl, Nat.le_of_ble_eq_true rfl⟩ ⟨Nat.le_of_ble_eq_true rfl, Nat.le_of_ble_eq_true rfl⟩ (Nat.le_of_ble_eq_true rfl) dL_isWhole_674 (fun v674 e9 => c_X11_account _ _ v674 e9) h (fun v674 h => ?_) rfl
            refine xx_aload C 679 rfl 7 dL_isWhole_677 rfl ?_
            refine xx_iconst C 680 rfl dL_isWhole_679 ?_
            refine xx_iaload (q := 151) C 681 rfl (by decide) (fun _ => rfl) (by decide) dL_isWhole_680 h (fun v680 h => ?_)
            refine xx_icmp_ne (tgt := 785) C 684 rfl dL_isWhole_681 (by decide) h (fun h => ?_) (fun h => ?_)
            · exact nn_ h
            · refine xx_aload_n C 685 rfl 0 dL_isWhole_684 rfl rfl ?_
              refine xx_bipush C 687 rfl dL_isWhole_685 (by decide) ?_
              refine xe_cVip (As := [.int (iI 6)]) (st := []) (o := 132) C 690 rfl (fun _ hk _ => cI_ne hk) (by decide) (ceX_132 _ _ _) rfl rfl ca_X11_account cv_X11_account w_365 rfl ⟨Nat.le_of_ble_eq_true rfl, Nat.le_of_ble_eq_true rfl⟩ ⟨Nat.le_of_ble_eq_true rfl, Nat.le_of_ble_eq_true rfl⟩ (Nat.le_of_ble_eq_true rfl) dL_isWhole_687 (fun v687 e9 => c_X11_account _ _ v687 e9) h (fun v687 h => ?_) rfl
              refine xx_aload C 692 rfl 7 dL_isWhole_690 rfl ?_
              refine xx_iconst C 693 rfl dL_isWhole_692 ?_
              refine xx_iaload (q := 151) C 694 rfl (by decide) (fun _ => rfl) (by decide) dL_isWhole_693 h (fun v693 h => ?_)
              refine xx_icmp_ne (tgt := 785) C 697 rfl dL_isWhole_694 (by decide) h (fun h => ?_) (fun h => ?_)
              · exact nn_ h
              · refine xx_aload_n C 698 rfl 0 dL_isWhole_697 rfl rfl ?_
                refine xx_bipush C 700 rfl dL_isWhole_698 (by decide) ?_
                refine xe_cVip (As := [.int (iI 7)]) (st := []) (o := 132) C 703 rfl (fun _ hk _ => cI_ne hk) (by decide) (ceX_132 _ _ _) rfl rfl ca_X11_account cv_X11_account w_365 rfl ⟨Nat.le_of_ble_eq_true rfl, Nat.le_of_ble_eq_true rfl⟩ ⟨Nat.le_of_ble_eq_true rfl, Nat.le_of_ble_eq_true rfl⟩ (Nat.le_of_ble_eq_true rfl) dL_isWhole_700 (fun v700 e9 => c_X11_account _ _ v700 e9) h (fun v700 h => ?_) rfl
                refine xx_iload_n C 704 rfl 1 dL_isWhole_703 rfl rfl ?_
                refine xx_aload_n C 705 rfl 0 dL_isWhole_704 rfl rfl ?_
                refine xx_bipush C 707 rfl dL_isWhole_705 (by decide) ?_
                refine xe_cVip (As := [.int (iI 8)]) (st := [.int (iI x1_547), .int (iI v700)]) (o := 132) C 710 rfl (fun _ hk _ => cI_ne hk) (by decide) (ceX_132 _ _ _) rfl rfl ca_X11_account cv_X11_account w_365 rfl ⟨Nat.le_of_ble_eq_true rfl, Nat.le_of_ble_eq_true rfl⟩ ⟨Nat.le_of_ble_eq_true rfl, Nat.le_of_ble_eq_true rfl⟩ (Nat.le_of_ble_eq_true rfl) dL_isWhole_707 (fun v707 e9 => c_X11_account _ _ v707 e9) h (fun v707 h => ?_) rfl
                refine xx_iadd C 711 rfl dL_isWhole_710 ?_
                refine xx_icmp_ne (tgt := 785) C 714 rfl dL_isWhole_711 (by decide) h (fun h => ?_) (fun h => ?_)
                · exact nn_ h
                · refine xx_aload_n C 715 rfl 0 dL_isWhole_714 rfl rfl ?_
                  refine xx_bipush C 717 rfl dL_isWhole_715 (by decide) ?_
                  refine xe_cVip (As := [.int (iI 12)]) (st := []) (o := 132) C 720 rfl (fun _ hk _ => cI_ne hk) (by decide) (ceX_132 _ _ _) rfl rfl ca_X11_account cv_X11_account w_365 rfl ⟨Nat.le_of_ble_eq_true rfl, Nat.le_of_ble_eq_true rfl⟩ ⟨Nat.le_of_ble_eq_true rfl, Nat.le_of_ble_eq_true rfl⟩ (Nat.le_of_ble_eq_true rfl) dL_isWhole_717 (fun v717 e9 => c_X11_account _ _ v717 e9) h (fun v717 h => ?_) rfl
                  refine xx_iload C 722 rfl 4 dL_isWhole_720 rfl ?_
                  refine xx_icmp_ne (tgt := 785) C 725 rfl dL_isWhole_722 (by decide) h (fun h => ?_) (fun h => ?_)
                  · exact nn_ h
                  · refine xx_iload_n C 726 rfl 2 dL_isWhole_725 rfl rfl ?_
                    refine xx_iload_n C 727 rfl 3 dL_isWhole_726 rfl rfl ?_
                    refine xx_iload C 729 rfl 4 dL_isWhole_727 rfl ?_
                    refine xx_iadd C 730 rfl dL_isWhole_729 ?_
                    refine xx_icmp_ne (tgt := 785) C 733 rfl dL_isWhole_730 (by decide) h (fun h => ?_) (fun h => ?_)
                    · exact nn_ h
                    · refine xx_aload_n C 734 rfl 0 dL_isWhole_733 rfl rfl ?_
                      refine xx_aload C 736 rfl 7 dL_isWhole_734 rfl ?_
                      refine xx_iconst C 737 rfl dL_isWhole_736 ?_
                      refine xx_iaload (q := 151) C 738 rfl (by decide) (fun _ => rfl) (by decide) dL_isWhole_737 h (fun v737 h => ?_)
                      refine xe_cVip (As := [.int (iI v737)]) (st := []) (o := 132) C 741 rfl (fun _ hk _ => cI_ne hk) (by decide) (ceX_132 _ _ _) rfl rfl ca_X11_grey cv_X11_grey w_972 rfl ⟨Nat.le_of_ble_eq_true rfl, Nat.le_of_ble_eq_true rfl⟩ ⟨Nat.le_of_ble_eq_true rfl, Nat.le_of_ble_eq_true rfl⟩ (Nat.le_of_ble_eq_true rfl) dL_isWhole_738 (fun v738 e9 => c_X11_grey _ _ v738 e9) h (fun v738 h => ?_) rfl
                      refine xx_bipush C 743 rfl dL_isWhole_741 (by decide) ?_
                      refine xx_icmp_ne (tgt := 785) C 746 rfl dL_isWhole_743 (by decide) h (fun h => ?_) (fun h => ?_)
                      · exact nn_ h
                      · refine xx_aload C 748 rfl 7 dL_isWhole_746 rfl ?_
                        refine xx_iconst C 749 rfl dL_isWhole_748 ?_
                        refine xx_iaload (q := 151) C 750 rfl (by decide) (fun _ => rfl) (by decide) dL_isWhole_749 h (fun v749 h => ?_)
                        refine jn_r (fun J => ∀ (_u : Unit), J _u = some (a, μr) → wx_ G X 152 (a9_ ad x26) (cI_ G (ceX G ad)) μ651 1 3 766 [(0, .ref (ad 132)), (1, .int (iI x1_547)), (2, .int (iI x2_547)), (5, .int (iI x5_547)), (6, .int (iI v13))] []) h (fun _ h => ?_) (fun J766 K766 h => ?_)
                        · refine xx_aload_n C 767 rfl 0 dL_isWhole_766 rfl rfl ?_
                          refine xx_aload_n C 768 rfl 0 dL_isWhole_767 rfl rfl ?_
                          refine xx_bipush C 770 rfl dL_isWhole_768 (by decide) ?_
                          refine xe_cVip (As := [.int (iI 9)]) (st := [.ref (ad 132)]) (o := 132) C 773 rfl (fun _ hk _ => cI_ne hk) (by decide) (ceX_132 _ _ _) rfl rfl ca_X11_account cv_X11_account w_365 rfl ⟨Nat.le_of_ble_eq_true rfl, Nat.le_of_ble_eq_true rfl⟩ ⟨Nat.le_of_ble_eq_true rfl, Nat.le_of_ble_eq_true rfl⟩ (Nat.le_of_ble_eq_true rfl) dL_isWhole_770 (fun v770 e9 => c_X11_account _ _ v770 e9) h (fun v770 h => ?_) rfl
                          refine xe_cVip (As := [.int (iI v770)]) (st := []) (o := 132) C 776 rfl (fun _ hk _ => cI_ne hk) (by decide) (ceX_132 _ _ _) rfl rfl ca_X11_due cv_X11_due w_966 rfl ⟨Nat.le_of_ble_eq_true rfl, Nat.le_of_ble_eq_true rfl⟩ ⟨Nat.le_of_ble_eq_true rfl, Nat.le_of_ble_eq_true rfl⟩ (Nat.le_of_ble_eq_true rfl) dL_isWhole_773 (fun v773 e9 => c_X11_due _ _ v773 e9) h (fun v773 h => ?_) rfl
                          refine xx_bipush C 778 rfl dL_isWhole_776 (by decide) ?_
                          refine xx_icmp_ne (tgt := 785) C 781 rfl dL_isWhole_778 (by decide) h (fun h => ?_) (fun h => ?_)
                          · exact nn_ h
                          · refine xx_iconst C 782 rfl dL_isWhole_781 ?_
                            refine xx_goto C 786 dL_isWhole_782 (by decide) ?_
                            refine xx_istore (lv1 := [(9, .int (iI 1)), (0, .ref (ad 132)), (1, .int (iI x1_547)), (2, .int (iI x2_547)), (5, .int (iI x5_547)), (6, .int (iI v13))]) C 788 rfl (by decide) dL_isWhole_786 rfl ?_
                            refine xx_iload_n C 789 rfl 2 dL_isWhole_788 rfl rfl ?_
                            refine jn_r (fun J => ∀ (s0_801 : UInt64), J s0_801 = some (a, μr) → wx_ G X 152 (a9_ ad x26) (cI_ G (ceX G ad)) μ651 1 3 801 [(0, .ref (ad 132)), (1, .int (iI x1_547)), (5, .int (iI x5_547)), (6, .int (iI v13)), (9, .int (iI 1))] [.double s0_801]) h (fun s0_801 h => ?_) (fun J801 K801 h => ?_)
                            · refine xx_dstore (lv1 := [(10, .double s0_801), (0, .ref (ad 132)), (1, .int (iI x1_547)), (5, .int (iI x5_547)), (6, .int (iI v13)), (9, .int (iI 1))]) C 803 rfl (by decide) dL_isWhole_801 rfl ?_
                              refine xx_iload_n C 804 rfl 2 dL_isWhole_803 rfl rfl ?_
                              refine jn_r (fun J => ∀ (s0_820 : UInt32), J s0_820 = some (a, μr) → wx_ G X 152 (a9_ ad x26) (cI_ G (ceX G ad)) μ651 1 3 820 [(0, .ref (ad 132)), (1, .int (iI x1_547)), (5, .int (iI x5_547)), (6, .int (iI v13)), (9, .int (iI 1)), (10, .double s0_801)] [.float s0_820]) h (fun s0_820 h => ?_) (fun J820 K820 h => ?_)
                              · refine xx_fstore (lv1 := [(12, .float s0_820), (0, .ref (ad 132)), (1, .int (iI x1_547)), (5, .int (iI x5_547)), (6, .int (iI v13)), (9, .int (iI 1)), (10, .double s0_801)]) C 822 rfl (by decide) dL_isWhole_820 rfl ?_
                                refine xx_iload C 824 rfl 5 dL_isWhole_822 rfl ?_
                                refine xx_if_eq (tgt := 903) C 827 rfl dL_isWhole_824 (by decide) h (fun h => ?_) (fun h => ?_)
                                · exact nn_ h
                                · refine xx_iload C 829 rfl 4 dL_isWhole_827 rfl ?_
                                  refine xx_aload_n C 830 rfl 1 dL_isWhole_829 rfl rfl ?_
                                  refine xe_cVip (As := []) (st := [.int (iI v13)]) (o := 132) C 833 rfl (fun _ hk _ => cI_ne hk) (by decide) (ceX_132 _ _ _) rfl rfl ca_X11_liveAgain cv_X11_liveAgain w_1100 rfl ⟨Nat.le_of_ble_eq_true rfl, Nat.le_of_ble_eq_true rfl⟩ ⟨Nat.le_of_ble_eq_true rfl, Nat.le_of_ble_eq_true rfl⟩ (Nat.le_of_ble_eq_true rfl) dL_isWhole_830 (fun v830 e9 => c_X11_liveAgain _ v830 e9) h (fun v830 h => ?_) rfl
                                  refine xx_icmp_ne (tgt := 903) C 836 rfl dL_isWhole_833 (by decide) h (fun h => ?_) (fun h => ?_)
                                  · exact nn_ h
                                  · refine xx_iload C 838 rfl 4 dL_isWhole_836 rfl ?_
                                    refine xx_iload C 840 rfl 3 dL_isWhole_838 rfl ?_
                                    refine xx_iconst C 841 rfl dL_isWhole_840 ?_
                                    refine xx_ixor C 842 rfl dL_isWhole_841 ?_
                                    refine xx_iand C 843 rfl dL_isWhole_842 ?_
                                    refine xx_if_ne (tgt := 903) C 846 rfl dL_isWhole_843 (by decide) h (fun h => ?_) (fun h => ?_)
                                    · exact nn_ h
                                    · refine xx_aload_n C 847 rfl 1 dL_isWhole_846 rfl rfl ?_
                                      refine xe_cVip (As := []) (st := []) (o := 132) C 850 rfl (fun _ hk _ => cI_ne hk) (by decide) (ceX_132 _ _ _) rfl rfl ca_X11_wouldFree cv_X11_wouldFree w_1112 rfl ⟨Nat.le_of_ble_eq_true rfl, Nat.le_of_ble_eq_true rfl⟩ ⟨Nat.le_of_ble_eq_true rfl, Nat.le_of_ble_eq_true rfl⟩ (Nat.le_of_ble_eq_true rfl) dL_isWhole_847 (fun v847 e9 => c_X11_wouldFree _ v847 e9) h (fun v847 h => ?_) rfl
                                      refine xx_iload C 852 rfl 4 dL_isWhole_850 rfl ?_
                                      refine xx_iload C 854 rfl 3 dL_isWhole_852 rfl ?_
                                      refine xx_iconst C 855 rfl dL_isWhole_854 ?_
                                      refine xx_ixor C 856 rfl dL_isWhole_855 ?_
                                      refine xx_ior C 857 rfl dL_isWhole_856 ?_
                                      refine xx_iand C 858 rfl dL_isWhole_857 ?_
                                      refine xx_if_ne (tgt := 903) C 861 rfl dL_isWhole_858 (by decide) h (fun h => ?_) (fun h => ?_)
                                      · exact nn_ h
                                      · refine xx_aload_n C 862 rfl 1 dL_isWhole_861 rfl rfl ?_
                                        refine xe_cVip (As := []) (st := []) (o := 132) C 865 rfl (fun _ hk _ => cI_ne hk) (by decide) (ceX_132 _ _ _) rfl rfl ca_X11_isBalanced cv_X11_isBalanced w_1120 rfl ⟨Nat.le_of_ble_eq_true rfl, Nat.le_of_ble_eq_true rfl⟩ ⟨Nat.le_of_ble_eq_true rfl, Nat.le_of_ble_eq_true rfl⟩ (Nat.le_of_ble_eq_true rfl) dL_isWhole_862 (fun v862 e9 => c_X11_isBalanced _ v862 e9) h (fun v862 h => ?_) rfl
                                        refine xx_iconst C 866 rfl dL_isWhole_865 ?_
                                        refine xx_icmp_ne (tgt := 903) C 869 rfl dL_isWhole_866 (by decide) h (fun h => ?_) (fun h => ?_)
                                        · exact nn_ h
                                        · refine xx_aload_n C 870 rfl 1 dL_isWhole_869 rfl rfl ?_
                                          refine xe_cVdp (As := []) (st := []) (o := 132) C 873 rfl (fun _ hk _ => cI_ne hk) (by decide) (ceX_132 _ _ _) rfl rfl ca_X11_meanHeld cv_X11_meanHeld w_1137 rfl ⟨Nat.le_of_ble_eq_true rfl, Nat.le_of_ble_eq_true rfl⟩ ⟨Nat.le_of_ble_eq_true rfl, Nat.le_of_ble_eq_true rfl⟩ (Nat.le_of_ble_eq_true rfl) dL_isWhole_870 (fun v870 e9 => c_X11_meanHeld _ v870 e9) h (fun v870 h => ?_) rfl
                                          refine xx_dload C 875 rfl 6 dL_isWhole_873 rfl ?_
                                          refine xx_dcmp C 876 rfl dL_isWhole_875 h (fun h => ?_)
                                          refine xx_if_ne (tgt := 903) C 879 rfl dL_isWhole_876 (by decide) h (fun h => ?_) (fun h => ?_)
                                          · exact nn_ h
                                          · refine xx_aload_n C 880 rfl 1 dL_isWhole_879 rfl rfl ?_
                                            refine xe_cVfp (As := []) (st := []) (o := 132) C 883 rfl (fun _ hk _ => cI_ne hk) (by decide) (ceX_132 _ _ _) rfl rfl ca_X11_liveShare cv_X11_liveShare w_1146 rfl ⟨Nat.le_of_ble_eq_true rfl, Nat.le_of_ble_eq_true rfl⟩ ⟨Nat.le_of_ble_eq_true rfl, Nat.le_of_ble_eq_true rfl⟩ (Nat.le_of_ble_eq_true rfl) dL_isWhole_880 (fun v880 e9 => c_X11_liveShare _ v880 e9) h (fun v880 h => ?_) rfl
                                            refine xx_fload C 885 rfl 0 dL_isWhole_883 rfl ?_
                                            refine xx_fcmp C 886 rfl dL_isWhole_885 h (fun h => ?_)
                                            refine xx_if_ne (tgt := 903) C 889 rfl dL_isWhole_886 (by decide) h (fun h => ?_) (fun h => ?_)
                                            · exact nn_ h
                                            · refine xx_aload_n C 890 rfl 1 dL_isWhole_889 rfl rfl ?_
                                              refine xx_iload_n C 891 rfl 2 dL_isWhole_890 rfl rfl ?_
                                              refine xe_cVi (As := [.int (iI x1_547)]) (st := []) (o := 132) C 894 rfl (fun _ hk _ => cI_ne hk) (by decide) (ceX_132 _ _ _) rfl rfl ca_X11_ranked cv_X11_ranked w_1076 rfl ⟨Nat.le_of_ble_eq_true rfl, Nat.le_of_ble_eq_true rfl⟩ ⟨Nat.le_of_ble_eq_true rfl, Nat.le_of_ble_eq_true rfl⟩ (Nat.le_of_ble_eq_true rfl) dL_isWhole_891 (fun v891 μ9 e9 => c_X11_ranked _ _ v891 μ9 e9) h (fun v891 μ891 h => ?_) rfl
                                              refine xx_bipush C 896 rfl dL_isWhole_894 (by decide) ?_
                                              refine xx_icmp_ne (tgt := 903) C 899 rfl dL_isWhole_896 (by decide) h (fun h => ?_) (fun h => ?_)
                                              · exact nn_ h
                                              · refine xx_iconst C 900 rfl dL_isWhole_899 ?_
                                                refine xx_goto C 904 dL_isWhole_900 (by decide) ?_
                                                exact xe_zret (fun _ hk _ => cI_ne hk) C E rfl rfl ⟨Nat.le_of_ble_eq_true rfl, Nat.le_of_ble_eq_true rfl⟩ dL_isWhole_904 h
                              · refine xx_if_ne (tgt := 811) C 807 rfl dL_isWhole_804 (by decide) h (fun h => ?_) (fun h => ?_)
                                · refine xx_iload C 813 rfl 4 dL_isWhole_811 rfl ?_
                                  refine xx_cSip (As := [.int (iI v13)]) (st := []) C 816 rfl  ca_J6_bitCount_0f7a4 cs_J6_bitCount_0f7a4 w_1094 rfl ⟨Nat.le_of_ble_eq_true rfl, Nat.le_of_ble_eq_true rfl⟩ ⟨Nat.le_of_ble_eq_true rfl, Nat.le_of_ble_eq_true rfl⟩ (Nat.le_of_ble_eq_true rfl) dL_isWhole_813 (fun v813 e9 => c_J6_bitCount_0f7a4 _ _ v813 e9) h (fun v813 h => ?_) rfl
                                  refine xx_i2f C 817 rfl dL_isWhole_816 ?_
                                  refine xx_iload_n C 818 rfl 2 dL_isWhole_817 rfl rfl ?_
                                  refine xx_i2f C 819 rfl dL_isWhole_818 ?_
                                  refine xx_fdiv C 820 rfl dL_isWhole_819 h (fun v819 h => ?_)
                                  refine xx_sub [1, 2, 3, 4, 5, 0] rfl ?_
                                  exact K820 v819 h
                                · refine xx_fconst0 C 808 rfl dL_isWhole_807 ?_
                                  refine xx_goto C 820 dL_isWhole_808 (by decide) ?_
                                  refine xx_sub [1, 2, 3, 4, 5, 0] rfl ?_
                                  exact K820 (FP.fconst0) h
                            · refine xx_if_ne (tgt := 796) C 792 rfl dL_isWhole_789 (by decide) h (fun h => ?_) (fun h => ?_)
                              · refine xx_iload_n C 797 rfl 3 dL_isWhole_796 rfl rfl ?_
                                refine xx_i2d C 798 rfl dL_isWhole_797 ?_
                                refine xx_iload_n C 799 rfl 2 dL_isWhole_798 rfl rfl ?_
                                refine xx_i2d C 800 rfl dL_isWhole_799 ?_
                                refine xx_ddiv C 801 rfl dL_isWhole_800 h (fun v800 h => ?_)
                                refine xx_sub [1, 2, 4, 5, 0] rfl ?_
                                exact K801 v800 h
                              · refine xx_dconst0 C 793 rfl dL_isWhole_792 ?_
                                refine xx_goto C 801 dL_isWhole_793 (by decide) ?_
                                refine xx_sub [1, 2, 4, 5, 0] rfl ?_
                                exact K801 (FP.dconst0) h
                        · refine xx_if_eq (tgt := 766) C 753 rfl dL_isWhole_750 (by decide) h (fun h => ?_) (fun h => ?_)
                          · refine xx_sub [0, 1, 2, 5, 6] rfl ?_
                            exact K766 () h
                          · refine xx_aload_n C 754 rfl 0 dL_isWhole_753 rfl rfl ?_
                            refine xx_aload C 756 rfl 7 dL_isWhole_754 rfl ?_
                            refine xx_iconst C 757 rfl dL_isWhole_756 ?_
                            refine xx_iaload (q := 151) C 758 rfl (by decide) (fun _ => rfl) (by decide) dL_isWhole_757 h (fun v757 h => ?_)
                            refine xx_iconst C 759 rfl dL_isWhole_758 ?_
                            refine xx_isub C 760 rfl dL_isWhole_759 ?_
                            refine xe_cVip (As := [.int (iI (v757 - 1))]) (st := []) (o := 132) C 763 rfl (fun _ hk _ => cI_ne hk) (by decide) (ceX_132 _ _ _) rfl rfl ca_X11_grey cv_X11_grey w_972 rfl ⟨Nat.le_of_ble_eq_true rfl, Nat.le_of_ble_eq_true rfl⟩ ⟨Nat.le_of_ble_eq_true rfl, Nat.le_of_ble_eq_true rfl⟩ (Nat.le_of_ble_eq_true rfl) dL_isWhole_760 (fun v760 e9 => c_X11_grey _ _ v760 e9) h (fun v760 h => ?_) rfl
                            refine xx_if_lt (tgt := 785) C 766 rfl dL_isWhole_763 (by decide) h (fun h => ?_) (fun h => ?_)
                            · exact nn_ h
                            · refine xx_sub [0, 1, 2, 5, 6] rfl ?_
                              exact K766 () h
      · have L550 : ∀ (fu550 : Nat) (x9_550 : Int) (μ550 : mu_T), f_L_isWhole_o132_L550 J651 x1_547 fu550 x9_550 μ550 = some (a, μr) → wx_ G X 152 (a9_ ad x26) (cI_ G (ceX G ad)) μ550 1 3 550 [(0, .ref (ad 132)), (1, .int (iI x1_547)), (2, .int (iI x2_547)), (3, .int (iI x3_547)), (4, .int (iI x4_67)), (5, .int (iI x5_547)), (6, .int (iI v13)), (8, .ref x26), (9, .int (iI x9_550))] [] := by
          intro fu550
          induction fu550 with
          | zero => intro x9_550 μ550 h; exact nn_ h
          | succ fu550 K550 =>
            intro x9_550 μ550 h
            rw [f_L_isWhole_o132_L550] at h
            generalize f_L_isWhole_o132_L550 J651 x1_547 fu550 = R550 at K550 h
            refine xx_iload C 552 rfl 8 dL_isWhole_550 rfl ?_
            refine xx_iload_n C 553 rfl 1 dL_isWhole_552 rfl rfl ?_
            refine xx_icmp_ge (tgt := 651) C 556 rfl dL_isWhole_553 (by decide) h (fun h => ?_) (fun h => ?_)
            · refine xx_sub [0, 1, 2, 3, 4, 5, 6, 7] rfl ?_
              exact K651 μ550 h
            · refine xx_aload_n C 557 rfl 0 dL_isWhole_556 rfl rfl ?_
              refine xx_iload C 559 rfl 8 dL_isWhole_557 rfl ?_
              refine xx_iconst C 560 rfl dL_isWhole_559 ?_
              refine xx_isub C 561 rfl dL_isWhole_560 ?_
              refine xe_cVi (As := [.int (iI (x9_550 - 1))]) (st := []) (o := 132) C 564 rfl (fun _ hk _ => cI_ne hk) (by decide) (ceX_132 _ _ _) rfl rfl ca_X11_ranked cv_X11_ranked w_1076 rfl ⟨Nat.le_of_ble_eq_true rfl, Nat.le_of_ble_eq_true rfl⟩ ⟨Nat.le_of_ble_eq_true rfl, Nat.le_of_ble_eq_true rfl⟩ (Nat.le_of_ble_eq_true rfl) dL_isWhole_561 (fun v561 μ9 e9 => c_X11_ranked _ _ v561 μ9 e9) h (fun v561 μ561 h => ?_) rfl
              refine xx_istore (lv1 := [(10, .int (iI v561)), (0, .ref (ad 132)), (1, .int (iI x1_547)), (2, .int (iI x2_547)), (3, .int (iI x3_547)), (4, .int (iI x4_67)), (5, .int (iI x5_547)), (6, .int (iI v13)), (8, .ref x26), (9, .int (iI x9_550))]) C 566 rfl (by decide) dL_isWhole_564 rfl ?_
              refine xx_aload_n C 567 rfl 1 dL_isWhole_566 rfl rfl ?_
              refine xx_iload C 569 rfl 9 dL_isWhole_567 rfl ?_
              refine xe_cVi (As := [.int (iI x9_550)]) (st := []) (o := 132) C 572 rfl (fun _ hk _ => cI_ne hk) (by decide) (ceX_132 _ _ _) rfl rfl ca_X11_ranked cv_X11_ranked w_1076 rfl ⟨Nat.le_of_ble_eq_true rfl, Nat.le_of_ble_eq_true rfl⟩ ⟨Nat.le_of_ble_eq_true rfl, Nat.le_of_ble_eq_true rfl⟩ (Nat.le_of_ble_eq_true rfl) dL_isWhole_569 (fun v569 μ9 e9 => c_X11_ranked _ _ v569 μ9 e9) h (fun v569 μ569 h => ?_) rfl
              refine xx_istore (lv1 := [(11, .int (iI v569)), (10, .int (iI v561)), (0, .ref (ad 132)), (1, .int (iI x1_547)), (2, .int (iI x2_547)), (3, .int (iI x3_547)), (4, .int (iI x4_67)), (5, .int (iI x5_547)), (6, .int (iI v13)), (8, .ref x26), (9, .int (iI x9_550))]) C 574 rfl (by decide) dL_isWhole_572 rfl ?_
              refine xx_aload_n C 575 rfl 2 dL_isWhole_574 rfl rfl ?_
              refine xx_iload C 577 rfl 1 dL_isWhole_575 rfl ?_
              refine xx_iconst C 578 rfl dL_isWhole_577 ?_
              refine xe_cVip (As := [.int (iI v561), .int (iI 3)]) (st := []) (o := 132) C 581 rfl (fun _ hk _ => cI_ne hk) (by decide) (ceX_132 _ _ _) rfl rfl ca_X11_urnOf cv_X11_urnOf w_984 rfl ⟨Nat.le_of_ble_eq_true rfl, Nat.le_of_ble_eq_true rfl⟩ ⟨Nat.le_of_ble_eq_true rfl, Nat.le_of_ble_eq_true rfl⟩ (Nat.le_of_ble_eq_true rfl) dL_isWhole_578 (fun v578 e9 => c_X11_urnOf _ _ _ v578 e9) h (fun v578 h => ?_) rfl
              refine xx_aload_n C 582 rfl 2 dL_isWhole_581 rfl rfl ?_
              refine xx_iload C 584 rfl 0 dL_isWhole_582 rfl ?_
              refine xx_iconst C 585 rfl dL_isWhole_584 ?_
              refine xe_cVip (As := [.int (iI v569), .int (iI 3)]) (st := [.int (iI v578)]) (o := 132) C 588 rfl (fun _ hk _ => cI_ne hk) (by decide) (ceX_132 _ _ _) rfl rfl ca_X11_urnOf cv_X11_urnOf w_984 rfl ⟨Nat.le_of_ble_eq_true rfl, Nat.le_of_ble_eq_true rfl⟩ ⟨Nat.le_of_ble_eq_true rfl, Nat.le_of_ble_eq_true rfl⟩ (Nat.le_of_ble_eq_true rfl) dL_isWhole_585 (fun v585 e9 => c_X11_urnOf _ _ _ v585 e9) h (fun v585 h => ?_) rfl
              refine jn_r (fun J => ∀ (s0_624 : Int), J s0_624 = some (a, μr) → wx_ G X 152 (a9_ ad x26) (cI_ G (ceX G ad)) μ569 1 3 624 [(0, .ref (ad 132)), (1, .int (iI x1_547)), (2, .int (iI x2_547)), (3, .int (iI x3_547)), (4, .int (iI x4_67)), (5, .int (iI x5_547)), (6, .int (iI v13)), (8, .ref x26), (9, .int (iI x9_550)), (10, .int (iI v561)), (11, .int (iI v569))] [.int (iI s0_624)]) h (fun s0_624 h => ?_) (fun J624 K624 h => ?_)
              · refine xx_istore (lv1 := [(12, .int (iI s0_624)), (0, .ref (ad 132)), (1, .int (iI x1_547)), (2, .int (iI x2_547)), (3, .int (iI x3_547)), (4, .int (iI x4_67)), (5, .int (iI x5_547)), (6, .int (iI v13)), (8, .ref x26), (9, .int (iI x9_550)), (10, .int (iI v561)), (11, .int (iI v569))]) C 626 rfl (by decide) dL_isWhole_624 rfl ?_
                refine xx_iload C 628 rfl 0 dL_isWhole_626 rfl ?_
                refine xx_if_lt (tgt := 643) C 631 rfl dL_isWhole_628 (by decide) h (fun h => ?_) (fun h => ?_)
                · exact nn_ h
                · refine xx_iload C 633 rfl 0 dL_isWhole_631 rfl ?_
                  refine jn_r (fun J => ∀ (_u : Unit), J _u = some (a, μr) → wx_ G X 152 (a9_ ad x26) (cI_ G (ceX G ad)) μ569 1 3 645 [(0, .ref (ad 132)), (1, .int (iI x1_547)), (2, .int (iI x2_547)), (3, .int (iI x3_547)), (4, .int (iI x4_67)), (5, .int (iI x5_547)), (6, .int (iI v13)), (8, .ref x26), (9, .int (iI x9_550))] []) h (fun _ h => ?_) (fun J645 K645 h => ?_)
                  · refine xx_iincn C 648 rfl 8 (by decide) dL_isWhole_645 rfl h (fun n645 h => ?_)
                    refine xx_lv (lv1 := [(9, .int (iI n645)), (0, .ref (ad 132)), (1, .int (iI x1_547)), (2, .int (iI x2_547)), (3, .int (iI x3_547)), (4, .int (iI x4_67)), (5, .int (iI x5_547)), (6, .int (iI v13)), (8, .ref x26)]) rfl ?_
                    refine xx_goto C 550 dL_isWhole_648 (by decide) ?_
                    refine xx_sub [1, 2, 3, 4, 5, 6, 7, 8, 0] rfl ?_
                    exact K550 n645 μ569 h
                  · refine xx_if_ne (tgt := 645) C 636 rfl dL_isWhole_633 (by decide) h (fun h => ?_) (fun h => ?_)
                    · refine xx_sub [1, 2, 3, 4, 5, 6, 7, 8, 9] rfl ?_
                      exact K645 () h
                    · refine xx_iload C 638 rfl 10 dL_isWhole_636 rfl ?_
                      refine xx_iload C 640 rfl 11 dL_isWhole_638 rfl ?_
                      refine xx_icmp_le (tgt := 645) C 643 rfl dL_isWhole_640 (by decide) h (fun h => ?_) (fun h => ?_)
                      · refine xx_sub [1, 2, 3, 4, 5, 6, 7, 8, 9] rfl ?_
                        exact K645 () h
                      · exact nn_ h
              · refine xx_icmp_eq (tgt := 609) C 591 rfl dL_isWhole_588 (by decide) h (fun h => ?_) (fun h => ?_)
                · refine xx_aload_n C 610 rfl 2 dL_isWhole_609 rfl rfl ?_
                  refine xx_iload C 612 rfl 1 dL_isWhole_610 rfl ?_
                  refine xx_iconst C 613 rfl dL_isWhole_612 ?_
                  refine xe_cVip (As := [.int (iI v561), .int (iI 2)]) (st := []) (o := 132) C 616 rfl (fun _ hk _ => cI_ne hk) (by decide) (ceX_132 _ _ _) rfl rfl ca_X11_urnOf cv_X11_urnOf w_984 rfl ⟨Nat.le_of_ble_eq_true rfl, Nat.le_of_ble_eq_true rfl⟩ ⟨Nat.le_of_ble_eq_true rfl, Nat.le_of_ble_eq_true rfl⟩ (Nat.le_of_ble_eq_true rfl) dL_isWhole_613 (fun v613 e9 => c_X11_urnOf _ _ _ v613 e9) h (fun v613 h => ?_) rfl
                  refine xx_aload_n C 617 rfl 2 dL_isWhole_616 rfl rfl ?_
                  refine xx_iload C 619 rfl 0 dL_isWhole_617 rfl ?_
                  refine xx_iconst C 620 rfl dL_isWhole_619 ?_
                  refine xe_cVip (As := [.int (iI v569), .int (iI 2)]) (st := [.int (iI v613)]) (o := 132) C 623 rfl (fun _ hk _ => cI_ne hk) (by decide) (ceX_132 _ _ _) rfl rfl ca_X11_urnOf cv_X11_urnOf w_984 rfl ⟨Nat.le_of_ble_eq_true rfl, Nat.le_of_ble_eq_true rfl⟩ ⟨Nat.le_of_ble_eq_true rfl, Nat.le_of_ble_eq_true rfl⟩ (Nat.le_of_ble_eq_true rfl) dL_isWhole_620 (fun v620 e9 => c_X11_urnOf _ _ _ v620 e9) h (fun v620 h => ?_) rfl
                  refine xx_isub C 624 rfl dL_isWhole_623 ?_
                  refine xx_sub [2, 3, 4, 5, 6, 7, 8, 9, 10, 1, 0] rfl ?_
                  exact K624 (v613 - v620) h
                · refine xx_aload_n C 592 rfl 2 dL_isWhole_591 rfl rfl ?_
                  refine xx_iload C 594 rfl 1 dL_isWhole_592 rfl ?_
                  refine xx_iconst C 595 rfl dL_isWhole_594 ?_
                  refine xe_cVip (As := [.int (iI v561), .int (iI 3)]) (st := []) (o := 132) C 598 rfl (fun _ hk _ => cI_ne hk) (by decide) (ceX_132 _ _ _) rfl rfl ca_X11_urnOf cv_X11_urnOf w_984 rfl ⟨Nat.le_of_ble_eq_true rfl, Nat.le_of_ble_eq_true rfl⟩ ⟨Nat.le_of_ble_eq_true rfl, Nat.le_of_ble_eq_true rfl⟩ (Nat.le_of_ble_eq_true rfl) dL_isWhole_595 (fun v595 e9 => c_X11_urnOf _ _ _ v595 e9) h (fun v595 h => ?_) rfl
                  refine xx_aload_n C 599 rfl 2 dL_isWhole_598 rfl rfl ?_
                  refine xx_iload C 601 rfl 0 dL_isWhole_599 rfl ?_
                  refine xx_iconst C 602 rfl dL_isWhole_601 ?_
                  refine xe_cVip (As := [.int (iI v569), .int (iI 3)]) (st := [.int (iI v595)]) (o := 132) C 605 rfl (fun _ hk _ => cI_ne hk) (by decide) (ceX_132 _ _ _) rfl rfl ca_X11_urnOf cv_X11_urnOf w_984 rfl ⟨Nat.le_of_ble_eq_true rfl, Nat.le_of_ble_eq_true rfl⟩ ⟨Nat.le_of_ble_eq_true rfl, Nat.le_of_ble_eq_true rfl⟩ (Nat.le_of_ble_eq_true rfl) dL_isWhole_602 (fun v602 e9 => c_X11_urnOf _ _ _ v602 e9) h (fun v602 h => ?_) rfl
                  refine xx_isub C 606 rfl dL_isWhole_605 ?_
                  refine xx_goto C 624 dL_isWhole_606 (by decide) ?_
                  refine xx_sub [2, 3, 4, 5, 6, 7, 8, 9, 10, 1, 0] rfl ?_
                  exact K624 (v595 - v602) h
        refine xx_sub [1, 2, 3, 4, 5, 6, 7, 8, 0] rfl ?_
        exact L550 _ _ _ h
    · have L70 : ∀ (fu70 : Nat) (x1_70 : Int) (x2_70 : Int) (x3_70 : Int) (x5_70 : Int) (x9_70 : Int) (μ70 : mu_T), f_L_isWhole_o132_L70 J547 v13 v20 fu70 x1_70 x2_70 x3_70 x5_70 x9_70 μ70 = some (a, μr) → wx_ G X 152 (a9_ ad x26) (cI_ G (ceX G ad)) μ70 1 3 70 [(0, .ref (ad 132)), (1, .int (iI x1_70)), (2, .int (iI x2_70)), (3, .int (iI x3_70)), (4, .int (iI x4_67)), (5, .int (iI x5_70)), (6, .int (iI v13)), (7, .int (iI v20)), (8, .ref x26), (9, .int (iI x9_70))] [] := by
        intro fu70
        induction fu70 with
        | zero => intro x1_70 x2_70 x3_70 x5_70 x9_70 μ70 h; exact nn_ h
        | succ fu70 K70 =>
          intro x1_70 x2_70 x3_70 x5_70 x9_70 μ70 h
          rw [f_L_isWhole_o132_L70] at h
          generalize f_L_isWhole_o132_L70 J547 v13 v20 fu70 = R70 at K70 h
          refine xx_iload C 72 rfl 9 dL_isWhole_70 rfl ?_
          refine xx_bipush C 74 rfl dL_isWhole_72 (by decide) ?_
          refine xx_icmp_ge (tgt := 547) C 77 rfl dL_isWhole_74 (by decide) h (fun h => ?_) (fun h => ?_)
          · refine xx_sub [0, 1, 2, 3, 4, 5, 6, 8] rfl ?_
            exact K547 x1_70 x2_70 x3_70 x5_70 μ70 h
          · refine xx_aload_n C 78 rfl 0 dL_isWhole_77 rfl rfl ?_
            refine xx_iload C 80 rfl 9 dL_isWhole_78 rfl ?_
            refine xx_iconst C 81 rfl dL_isWhole_80 ?_
            refine xe_cVip (As := [.int (iI x9_70), .int (iI 0)]) (st := []) (o := 132) C 84 rfl (fun _ hk _ => cI_ne hk) (by decide) (ceX_132 _ _ _) rfl rfl ca_X11_urnOf cv_X11_urnOf w_984 rfl ⟨Nat.le_of_ble_eq_true rfl, Nat.le_of_ble_eq_true rfl⟩ ⟨Nat.le_of_ble_eq_true rfl, Nat.le_of_ble_eq_true rfl⟩ (Nat.le_of_ble_eq_true rfl) dL_isWhole_81 (fun v81 e9 => c_X11_urnOf _ _ _ v81 e9) h (fun v81 h => ?_) rfl
            refine xx_bipush C 86 rfl dL_isWhole_84 (by decide) ?_
            refine jn_r (fun J => ∀ (x1_541 : Int) (x2_541 : Int) (x3_541 : Int) (x5_541 : Int) (μ541 : mu_T), J x1_541 x2_541 x3_541 x5_541 μ541 = some (a, μr) → wx_ G X 152 (a9_ ad x26) (cI_ G (ceX G ad)) μ541 1 3 541 [(0, .ref (ad 132)), (1, .int (iI x1_541)), (2, .int (iI x2_541)), (3, .int (iI x3_541)), (4, .int (iI x4_67)), (5, .int (iI x5_541)), (6, .int (iI v13)), (7, .int (iI v20)), (8, .ref x26), (9, .int (iI x9_70))] []) h (fun x1_541 x2_541 x3_541 x5_541 μ541 h => ?_) (fun J541 K541 h => ?_)
            · refine xx_iincn C 544 rfl 9 (by decide) dL_isWhole_541 rfl h (fun n541 h => ?_)
              refine xx_lv (lv1 := [(9, .int (iI n541)), (0, .ref (ad 132)), (1, .int (iI x1_541)), (2, .int (iI x2_541)), (3, .int (iI x3_541)), (4, .int (iI x4_67)), (5, .int (iI x5_541)), (6, .int (iI v13)), (7, .int (iI v20)), (8, .ref x26)]) rfl ?_
              refine xx_goto C 70 dL_isWhole_544 (by decide) ?_
              refine xx_sub [1, 2, 3, 4, 5, 6, 7, 8, 9, 0] rfl ?_
              exact K70 x1_541 x2_541 x3_541 x5_541 n541 μ541 h
            · refine xx_icmp_ne (tgt := 92) C 89 rfl dL_isWhole_86 (by decide) h (fun h => ?_) (fun h => ?_)
              · refine xx_iincn C 95 rfl 1 (by decide) dL_isWhole_92 rfl h (fun n92 h => ?_)
                refine xx_lv (lv1 := [(1, .int (iI n92)), (0, .ref (ad 132)), (2, .int (iI x2_70)), (3, .int (iI x3_70)), (4, .int (iI x4_67)), (5, .int (iI x5_70)), (6, .int (iI v13)), (7, .int (iI v20)), (8, .ref x26), (9, .int (iI x9_70))]) rfl ?_
                refine xx_iload C 97 rfl 5 dL_isWhole_95 rfl ?_
                refine xx_iconst C 98 rfl dL_isWhole_97 ?_
                refine xx_iload C 100 rfl 9 dL_isWhole_98 rfl ?_
                refine xx_ishl C 101 rfl dL_isWhole_100 ?_
                refine xx_ior C 102 rfl dL_isWhole_101 ?_
                refine xx_nm C h (fun n102 h => ?_)
                refine xx_istore (lv1 := [(5, .int (iI n102)), (1, .int (iI n92)), (0, .ref (ad 132)), (2, .int (iI x2_70)), (3, .int (iI x3_70)), (4, .int (iI x4_67)), (6, .int (iI v13)), (7, .int (iI v20)), (8, .ref x26), (9, .int (iI x9_70))]) C 104 rfl (by decide) dL_isWhole_102 rfl ?_
                refine xx_aload_n C 105 rfl 2 dL_isWhole_104 rfl rfl ?_
                refine xx_iload C 107 rfl 9 dL_isWhole_105 rfl ?_
                refine xx_iconst C 108 rfl dL_isWhole_107 ?_
                refine xe_cVip (As := [.int (iI x9_70), .int (iI 0)]) (st := []) (o := 132) C 111 rfl (fun _ hk _ => cI_ne hk) (by decide) (ceX_132 _ _ _) rfl rfl ca_X11_urnOf cv_X11_urnOf w_984 rfl ⟨Nat.le_of_ble_eq_true rfl, Nat.le_of_ble_eq_true rfl⟩ ⟨Nat.le_of_ble_eq_true rfl, Nat.le_of_ble_eq_true rfl⟩ (Nat.le_of_ble_eq_true rfl) dL_isWhole_108 (fun v108 e9 => c_X11_urnOf _ _ _ v108 e9) h (fun v108 h => ?_) rfl
                refine xx_istore (lv1 := [(10, .int (iI v108)), (5, .int (iI n102)), (1, .int (iI n92)), (0, .ref (ad 132)), (2, .int (iI x2_70)), (3, .int (iI x3_70)), (4, .int (iI x4_67)), (6, .int (iI v13)), (7, .int (iI v20)), (8, .ref x26), (9, .int (iI x9_70))]) C 113 rfl (by decide) dL_isWhole_111 rfl ?_
                refine xx_aload C 115 rfl 9 dL_isWhole_113 rfl ?_
                refine xx_iload C 117 rfl 0 dL_isWhole_115 rfl ?_
                refine xx_dup2 C 118 rfl dL_isWhole_117 rfl rfl ?_
                refine xx_iaload (q := 151) C 119 rfl (by decide) (fun _ => rfl) (by decide) dL_isWhole_118 h (fun v118 h => ?_)
                refine xx_iconst C 120 rfl dL_isWhole_119 ?_
                refine xx_iadd C 121 rfl dL_isWhole_120 ?_
                refine xx_iastore (q := 151) C 122 rfl (by decide) (fun _ => rfl) (by decide) dL_isWhole_121 h (fun μ121 h => ?_)
                refine xx_iload_n C 123 rfl 4 dL_isWhole_122 rfl rfl ?_
                refine xx_aload_n C 124 rfl 3 dL_isWhole_123 rfl rfl ?_
                refine xx_iload C 126 rfl 10 dL_isWhole_124 rfl ?_
                refine xx_iconst C 127 rfl dL_isWhole_126 ?_
                refine xe_cVip (As := [.int (iI x9_70), .int (iI 3)]) (st := [.int (iI x2_70)]) (o := 132) C 130 rfl (fun _ hk _ => cI_ne hk) (by decide) (ceX_132 _ _ _) rfl rfl ca_X11_urnOf cv_X11_urnOf w_984 rfl ⟨Nat.le_of_ble_eq_true rfl, Nat.le_of_ble_eq_true rfl⟩ ⟨Nat.le_of_ble_eq_true rfl, Nat.le_of_ble_eq_true rfl⟩ (Nat.le_of_ble_eq_true rfl) dL_isWhole_127 (fun v127 e9 => c_X11_urnOf _ _ _ v127 e9) h (fun v127 h => ?_) rfl
                refine xx_iadd C 131 rfl dL_isWhole_130 ?_
                refine xx_nm C h (fun n131 h => ?_)
                refine xx_istore_n (lv1 := [(2, .int (iI n131)), (10, .int (iI v108)), (5, .int (iI n102)), (1, .int (iI n92)), (0, .ref (ad 132)), (3, .int (iI x3_70)), (4, .int (iI x4_67)), (6, .int (iI v13)), (7, .int (iI v20)), (8, .ref x26), (9, .int (iI x9_70))]) C 132 rfl (by decide) dL_isWhole_131 rfl rfl ?_
                refine xx_iload_n C 133 rfl 5 dL_isWhole_132 rfl rfl ?_
                refine xx_aload_n C 134 rfl 4 dL_isWhole_133 rfl rfl ?_
                refine xx_iload C 136 rfl 10 dL_isWhole_134 rfl ?_
                refine xx_iconst C 137 rfl dL_isWhole_136 ?_
                refine xe_cVip (As := [.int (iI x9_70), .int (iI 2)]) (st := [.int (iI x3_70)]) (o := 132) C 140 rfl (fun _ hk _ => cI_ne hk) (by decide) (ceX_132 _ _ _) rfl rfl ca_X11_urnOf cv_X11_urnOf w_984 rfl ⟨Nat.le_of_ble_eq_true rfl, Nat.le_of_ble_eq_true rfl⟩ ⟨Nat.le_of_ble_eq_true rfl, Nat.le_of_ble_eq_true rfl⟩ (Nat.le_of_ble_eq_true rfl) dL_isWhole_137 (fun v137 e9 => c_X11_urnOf _ _ _ v137 e9) h (fun v137 h => ?_) rfl
                refine xx_iadd C 141 rfl dL_isWhole_140 ?_
                refine xx_nm C h (fun n141 h => ?_)
                refine xx_istore_n (lv1 := [(3, .int (iI n141)), (2, .int (iI n131)), (10, .int (iI v108)), (5, .int (iI n102)), (1, .int (iI n92)), (0, .ref (ad 132)), (4, .int (iI x4_67)), (6, .int (iI v13)), (7, .int (iI v20)), (8, .ref x26), (9, .int (iI x9_70))]) C 142 rfl (by decide) dL_isWhole_141 rfl rfl ?_
                refine xx_iload C 144 rfl 7 dL_isWhole_142 rfl ?_
                refine xx_iload C 146 rfl 10 dL_isWhole_144 rfl ?_
                refine xx_ishr C 147 rfl dL_isWhole_146 ?_
                refine xx_iconst C 148 rfl dL_isWhole_147 ?_
                refine xx_iand C 149 rfl dL_isWhole_148 ?_
                refine xx_iconst C 150 rfl dL_isWhole_149 ?_
                refine jn_r (fun J => ∀ (s0_158 : Int), J s0_158 = some (a, μr) → wx_ G X 152 (a9_ ad x26) (cI_ G (ceX G ad)) μ121 1 3 158 [(0, .ref (ad 132)), (1, .int (iI n92)), (2, .int (iI n131)), (3, .int (iI n141)), (4, .int (iI x4_67)), (5, .int (iI n102)), (6, .int (iI v13)), (7, .int (iI v20)), (8, .ref x26), (9, .int (iI x9_70)), (10, .int (iI v108))] [.int (iI s0_158)]) h (fun s0_158 h => ?_) (fun J158 K158 h => ?_)
                · refine xx_istore (lv1 := [(11, .int (iI s0_158)), (0, .ref (ad 132)), (1, .int (iI n92)), (2, .int (iI n131)), (3, .int (iI n141)), (4, .int (iI x4_67)), (5, .int (iI n102)), (6, .int (iI v13)), (7, .int (iI v20)), (8, .ref x26), (9, .int (iI x9_70)), (10, .int (iI v108))]) C 160 rfl (by decide) dL_isWhole_158 rfl ?_
                  refine xx_aload_n C 161 rfl 1 dL_isWhole_160 rfl rfl ?_
                  refine xx_iload C 163 rfl 10 dL_isWhole_161 rfl ?_
                  refine xe_cVip (As := [.int (iI x9_70)]) (st := []) (o := 132) C 166 rfl (fun _ hk _ => cI_ne hk) (by decide) (ceX_132 _ _ _) rfl rfl ca_X11_depth cv_X11_depth w_1049 rfl ⟨Nat.le_of_ble_eq_true rfl, Nat.le_of_ble_eq_true rfl⟩ ⟨Nat.le_of_ble_eq_true rfl, Nat.le_of_ble_eq_true rfl⟩ (Nat.le_of_ble_eq_true rfl) dL_isWhole_163 (fun v163 e9 => c_X11_depth _ _ v163 e9) h (fun v163 h => ?_) rfl
                  refine xx_istore (lv1 := [(12, .int (iI v163)), (11, .int (iI s0_158)), (0, .ref (ad 132)), (1, .int (iI n92)), (2, .int (iI n131)), (3, .int (iI n141)), (4, .int (iI x4_67)), (5, .int (iI n102)), (6, .int (iI v13)), (7, .int (iI v20)), (8, .ref x26), (9, .int (iI x9_70)), (10, .int (iI v108))]) C 168 rfl (by decide) dL_isWhole_166 rfl ?_
                  refine xx_iload C 170 rfl 9 dL_isWhole_168 rfl ?_
                  refine xx_iconst C 171 rfl dL_isWhole_170 ?_
                  refine jn_r (fun J => ∀ (s0_194 : Int), J s0_194 = some (a, μr) → wx_ G X 152 (a9_ ad x26) (cI_ G (ceX G ad)) μ121 1 3 194 [(0, .ref (ad 132)), (1, .int (iI n92)), (2, .int (iI n131)), (3, .int (iI n141)), (4, .int (iI x4_67)), (5, .int (iI n102)), (6, .int (iI v13)), (7, .int (iI v20)), (8, .ref x26), (9, .int (iI x9_70)), (10, .int (iI v108)), (11, .int (iI s0_158)), (12, .int (iI v163))] [.int (iI s0_194)]) h (fun s0_194 h => ?_) (fun J194 K194 h => ?_)
                  · refine xx_istore (lv1 := [(13, .int (iI s0_194)), (0, .ref (ad 132)), (1, .int (iI n92)), (2, .int (iI n131)), (3, .int (iI n141)), (4, .int (iI x4_67)), (5, .int (iI n102)), (6, .int (iI v13)), (7, .int (iI v20)), (8, .ref x26), (9, .int (iI x9_70)), (10, .int (iI v108)), (11, .int (iI s0_158)), (12, .int (iI v163))]) C 196 rfl (by decide) dL_isWhole_194 rfl ?_
                    refine xx_iload C 198 rfl 12 dL_isWhole_196 rfl ?_
                    refine xx_iload C 200 rfl 13 dL_isWhole_198 rfl ?_
                    refine jn_r (fun J => ∀ (s0_208 : Int), J s0_208 = some (a, μr) → wx_ G X 152 (a9_ ad x26) (cI_ G (ceX G ad)) μ121 1 3 208 [(0, .ref (ad 132)), (1, .int (iI n92)), (2, .int (iI n131)), (3, .int (iI n141)), (4, .int (iI x4_67)), (5, .int (iI n102)), (6, .int (iI v13)), (7, .int (iI v20)), (8, .ref x26), (9, .int (iI x9_70)), (10, .int (iI v108)), (11, .int (iI s0_158)), (12, .int (iI v163)), (13, .int (iI s0_194))] [.int (iI s0_208), .int (iI s0_158)]) h (fun s0_208 h => ?_) (fun J208 K208 h => ?_)
                    · refine xx_icmp_ne (tgt := 248) C 211 rfl dL_isWhole_208 (by decide) h (fun h => ?_) (fun h => ?_)
                      · exact nn_ h
                      · refine xx_iload C 213 rfl 12 dL_isWhole_211 rfl ?_
                        refine xx_bipush C 215 rfl dL_isWhole_213 (by decide) ?_
                        refine xx_icmp_ge (tgt := 248) C 218 rfl dL_isWhole_215 (by decide) h (fun h => ?_) (fun h => ?_)
                        · exact nn_ h
                        · refine xx_iload C 220 rfl 11 dL_isWhole_218 rfl ?_
                          refine jn_r (fun J => ∀ (_u : Unit), J _u = some (a, μr) → wx_ G X 152 (a9_ ad x26) (cI_ G (ceX G ad)) μ121 1 3 232 [(0, .ref (ad 132)), (1, .int (iI n92)), (2, .int (iI n131)), (3, .int (iI n141)), (4, .int (iI x4_67)), (5, .int (iI n102)), (6, .int (iI v13)), (7, .int (iI v20)), (8, .ref x26), (9, .int (iI x9_70)), (10, .int (iI v108)), (11, .int (iI s0_158)), (12, .int (iI v163)), (13, .int (iI s0_194))] []) h (fun _ h => ?_) (fun J232 K232 h => ?_)
                          · refine xx_aload_n C 233 rfl 0 dL_isWhole_232 rfl rfl ?_
                            refine xx_iload C 235 rfl 9 dL_isWhole_233 rfl ?_
                            refine xe_cVip (As := [.int (iI x9_70)]) (st := []) (o := 132) C 238 rfl (fun _ hk _ => cI_ne hk) (by decide) (ceX_132 _ _ _) rfl rfl ca_X11_keepers cv_X11_keepers w_1058 rfl ⟨Nat.le_of_ble_eq_true rfl, Nat.le_of_ble_eq_true rfl⟩ ⟨Nat.le_of_ble_eq_true rfl, Nat.le_of_ble_eq_true rfl⟩ (Nat.le_of_ble_eq_true rfl) dL_isWhole_235 (fun v235 e9 => c_X11_keepers _ _ v235 e9) h (fun v235 h => ?_) rfl
                            refine xx_bipush C 240 rfl dL_isWhole_238 (by decide) ?_
                            refine xx_iand C 241 rfl dL_isWhole_240 ?_
                            refine xx_if_ne (tgt := 248) C 244 rfl dL_isWhole_241 (by decide) h (fun h => ?_) (fun h => ?_)
                            · exact nn_ h
                            · refine xx_iconst C 245 rfl dL_isWhole_244 ?_
                              refine xx_goto C 249 dL_isWhole_245 (by decide) ?_
                              refine xx_istore (lv1 := [(14, .int (iI 1)), (0, .ref (ad 132)), (1, .int (iI n92)), (2, .int (iI n131)), (3, .int (iI n141)), (4, .int (iI x4_67)), (5, .int (iI n102)), (6, .int (iI v13)), (7, .int (iI v20)), (8, .ref x26), (9, .int (iI x9_70)), (10, .int (iI v108)), (11, .int (iI s0_158)), (12, .int (iI v163)), (13, .int (iI s0_194))]) C 251 rfl (by decide) dL_isWhole_249 rfl ?_
                              refine xx_iload C 253 rfl 8 dL_isWhole_251 rfl ?_
                              refine jn_r (fun J => ∀ (_u : Unit), J _u = some (a, μr) → wx_ G X 152 (a9_ ad x26) (cI_ G (ceX G ad)) μ121 1 3 261 [(0, .ref (ad 132)), (1, .int (iI n92)), (2, .int (iI n131)), (3, .int (iI n141)), (4, .int (iI x4_67)), (5, .int (iI n102)), (6, .int (iI v13)), (7, .int (iI v20)), (8, .ref x26), (9, .int (iI x9_70)), (10, .int (iI v108)), (11, .int (iI s0_158)), (12, .int (iI v163)), (13, .int (iI s0_194)), (14, .int (iI 1))] []) h (fun _ h => ?_) (fun J261 K261 h => ?_)
                              · refine xx_iload C 263 rfl 7 dL_isWhole_261 rfl ?_
                                refine xx_iconst C 264 rfl dL_isWhole_263 ?_
                                refine jn_r (fun J => ∀ (_u : Unit), J _u = some (a, μr) → wx_ G X 152 (a9_ ad x26) (cI_ G (ceX G ad)) μ121 1 3 273 [(0, .ref (ad 132)), (1, .int (iI n92)), (2, .int (iI n131)), (3, .int (iI n141)), (4, .int (iI x4_67)), (5, .int (iI n102)), (6, .int (iI v13)), (7, .int (iI v20)), (8, .ref x26), (9, .int (iI x9_70)), (10, .int (iI v108)), (11, .int (iI s0_158)), (12, .int (iI v163)), (13, .int (iI s0_194)), (14, .int (iI 1))] []) h (fun _ h => ?_) (fun J273 K273 h => ?_)
                                · refine xx_iload C 275 rfl 13 dL_isWhole_273 rfl ?_
                                  refine jn_r (fun J => ∀ (_u : Unit), J _u = some (a, μr) → wx_ G X 152 (a9_ ad x26) (cI_ G (ceX G ad)) μ121 1 3 283 [(0, .ref (ad 132)), (1, .int (iI n92)), (2, .int (iI n131)), (3, .int (iI n141)), (4, .int (iI x4_67)), (5, .int (iI n102)), (6, .int (iI v13)), (7, .int (iI v20)), (8, .ref x26), (9, .int (iI x9_70)), (10, .int (iI v108)), (11, .int (iI s0_158)), (12, .int (iI v163)), (14, .int (iI 1))] []) h (fun _ h => ?_) (fun J283 K283 h => ?_)
                                  · refine xx_iconst C 284 rfl dL_isWhole_283 ?_
                                    refine xx_goto C 288 dL_isWhole_284 (by decide) ?_
                                    refine xx_istore (lv1 := [(15, .int (iI 1)), (0, .ref (ad 132)), (1, .int (iI n92)), (2, .int (iI n131)), (3, .int (iI n141)), (4, .int (iI x4_67)), (5, .int (iI n102)), (6, .int (iI v13)), (7, .int (iI v20)), (8, .ref x26), (9, .int (iI x9_70)), (10, .int (iI v108)), (11, .int (iI s0_158)), (12, .int (iI v163)), (14, .int (iI 1))]) C 290 rfl (by decide) dL_isWhole_288 rfl ?_
                                    refine xx_bipush C 292 rfl dL_isWhole_290 (by decide) ?_
                                    refine xx_istore (lv1 := [(16, .int (iI (-15))), (15, .int (iI 1)), (0, .ref (ad 132)), (1, .int (iI n92)), (2, .int (iI n131)), (3, .int (iI n141)), (4, .int (iI x4_67)), (5, .int (iI n102)), (6, .int (iI v13)), (7, .int (iI v20)), (8, .ref x26), (9, .int (iI x9_70)), (10, .int (iI v108)), (11, .int (iI s0_158)), (12, .int (iI v163)), (14, .int (iI 1))]) C 294 rfl (by decide) dL_isWhole_292 rfl ?_
                                    refine xx_iconst C 295 rfl dL_isWhole_294 ?_
                                    refine xx_istore (lv1 := [(17, .int (iI 0)), (16, .int (iI (-15))), (15, .int (iI 1)), (0, .ref (ad 132)), (1, .int (iI n92)), (2, .int (iI n131)), (3, .int (iI n141)), (4, .int (iI x4_67)), (5, .int (iI n102)), (6, .int (iI v13)), (7, .int (iI v20)), (8, .ref x26), (9, .int (iI x9_70)), (10, .int (iI v108)), (11, .int (iI s0_158)), (12, .int (iI v163)), (14, .int (iI 1))]) C 297 rfl (by decide) dL_isWhole_295 rfl ?_
                                    refine jn_r (fun J => ∀ (x16_431 : Int), J x16_431 = some (a, μr) → wx_ G X 152 (a9_ ad x26) (cI_ G (ceX G ad)) μ121 1 3 431 [(0, .ref (ad 132)), (1, .int (iI n92)), (2, .int (iI n131)), (3, .int (iI n141)), (4, .int (iI x4_67)), (5, .int (iI n102)), (6, .int (iI v13)), (7, .int (iI v20)), (8, .ref x26), (9, .int (iI x9_70)), (11, .int (iI s0_158)), (12, .int (iI v163)), (14, .int (iI 1)), (15, .int (iI 1)), (16, .int (iI x16_431))] []) h (fun x16_431 h => ?_) (fun J431 K431 h => ?_)
                                    · refine xx_aload_n C 432 rfl 0 dL_isWhole_431 rfl rfl ?_
                                      refine xx_iload C 434 rfl 9 dL_isWhole_432 rfl ?_
                                      refine xe_cVip (As := [.int (iI x9_70)]) (st := []) (o := 132) C 437 rfl (fun _ hk _ => cI_ne hk) (by decide) (ceX_132 _ _ _) rfl rfl ca_X11_ring cv_X11_ring w_1067 rfl ⟨Nat.le_of_ble_eq_true rfl, Nat.le_of_ble_eq_true rfl⟩ ⟨Nat.le_of_ble_eq_true rfl, Nat.le_of_ble_eq_true rfl⟩ (Nat.le_of_ble_eq_true rfl) dL_isWhole_434 (fun v434 e9 => c_X11_ring _ _ v434 e9) h (fun v434 h => ?_) rfl
                                      refine xx_istore (lv1 := [(17, .int (iI v434)), (0, .ref (ad 132)), (1, .int (iI n92)), (2, .int (iI n131)), (3, .int (iI n141)), (4, .int (iI x4_67)), (5, .int (iI n102)), (6, .int (iI v13)), (7, .int (iI v20)), (8, .ref x26), (9, .int (iI x9_70)), (11, .int (iI s0_158)), (12, .int (iI v163)), (14, .int (iI 1)), (15, .int (iI 1)), (16, .int (iI x16_431))]) C 439 rfl (by decide) dL_isWhole_437 rfl ?_
                                      refine xx_iload C 441 rfl 15 dL_isWhole_439 rfl ?_
                                      refine xx_iconst C 442 rfl dL_isWhole_441 ?_
                                      refine jn_r (fun J => ∀ (s0_450 : Int), J s0_450 = some (a, μr) → wx_ G X 152 (a9_ ad x26) (cI_ G (ceX G ad)) μ121 1 3 450 [(0, .ref (ad 132)), (1, .int (iI n92)), (2, .int (iI n131)), (3, .int (iI n141)), (4, .int (iI x4_67)), (5, .int (iI n102)), (6, .int (iI v13)), (7, .int (iI v20)), (8, .ref x26), (9, .int (iI x9_70)), (11, .int (iI s0_158)), (12, .int (iI v163)), (14, .int (iI 1)), (15, .int (iI 1)), (17, .int (iI v434))] [.int (iI s0_450)]) h (fun s0_450 h => ?_) (fun J450 K450 h => ?_)
                                      · refine xx_iload C 452 rfl 14 dL_isWhole_450 rfl ?_
                                        refine xx_iconst C 453 rfl dL_isWhole_452 ?_
                                        refine jn_r (fun J => ∀ (s0_461 : Int), J s0_461 = some (a, μr) → wx_ G X 152 (a9_ ad x26) (cI_ G (ceX G ad)) μ121 1 3 461 [(0, .ref (ad 132)), (1, .int (iI n92)), (2, .int (iI n131)), (3, .int (iI n141)), (4, .int (iI x4_67)), (5, .int (iI n102)), (6, .int (iI v13)), (7, .int (iI v20)), (8, .ref x26), (9, .int (iI x9_70)), (11, .int (iI s0_158)), (12, .int (iI v163)), (14, .int (iI 1)), (15, .int (iI 1)), (17, .int (iI v434))] [.int (iI s0_461), .int (iI s0_450)]) h (fun s0_461 h => ?_) (fun J461 K461 h => ?_)
                                        · refine xx_icmp_ne (tgt := 488) C 464 rfl dL_isWhole_461 (by decide) h (fun h => ?_) (fun h => ?_)
                                          · exact nn_ h
                                          · refine xx_iload C 466 rfl 14 dL_isWhole_464 rfl ?_
                                            refine xx_bipush C 468 rfl dL_isWhole_466 (by decide) ?_
                                            refine jn_r (fun J => ∀ (_u : Unit), J _u = some (a, μr) → wx_ G X 152 (a9_ ad x26) (cI_ G (ceX G ad)) μ121 1 3 484 [(0, .ref (ad 132)), (1, .int (iI n92)), (2, .int (iI n131)), (3, .int (iI n141)), (4, .int (iI x4_67)), (5, .int (iI n102)), (6, .int (iI v13)), (7, .int (iI v20)), (8, .ref x26), (9, .int (iI x9_70)), (11, .int (iI s0_158)), (12, .int (iI v163)), (14, .int (iI 1)), (15, .int (iI 1))] []) h (fun _ h => ?_) (fun J484 K484 h => ?_)
                                            · refine xx_iconst C 485 rfl dL_isWhole_484 ?_
                                              refine xx_goto C 489 dL_isWhole_485 (by decide) ?_
                                              refine xx_istore (lv1 := [(18, .int (iI 1)), (0, .ref (ad 132)), (1, .int (iI n92)), (2, .int (iI n131)), (3, .int (iI n141)), (4, .int (iI x4_67)), (5, .int (iI n102)), (6, .int (iI v13)), (7, .int (iI v20)), (8, .ref x26), (9, .int (iI x9_70)), (11, .int (iI s0_158)), (12, .int (iI v163)), (14, .int (iI 1)), (15, .int (iI 1))]) C 491 rfl (by decide) dL_isWhole_489 rfl ?_
                                              refine xx_aload_n C 492 rfl 1 dL_isWhole_491 rfl rfl ?_
                                              refine xx_iload C 494 rfl 10 dL_isWhole_492 rfl ?_
                                              refine xx_iconst C 495 rfl dL_isWhole_494 ?_
                                              refine xe_cVip (As := [.int (iI x9_70), .int (iI 1)]) (st := []) (o := 132) C 498 rfl (fun _ hk _ => cI_ne hk) (by decide) (ceX_132 _ _ _) rfl rfl ca_X11_urnOf cv_X11_urnOf w_984 rfl ⟨Nat.le_of_ble_eq_true rfl, Nat.le_of_ble_eq_true rfl⟩ ⟨Nat.le_of_ble_eq_true rfl, Nat.le_of_ble_eq_true rfl⟩ (Nat.le_of_ble_eq_true rfl) dL_isWhole_495 (fun v495 e9 => c_X11_urnOf _ _ _ v495 e9) h (fun v495 h => ?_) rfl
                                              refine xx_iconst C 499 rfl dL_isWhole_498 ?_
                                              refine jn_r (fun J => ∀ (_u : Unit), J _u = some (a, μr) → wx_ G X 152 (a9_ ad x26) (cI_ G (ceX G ad)) μ121 1 3 512 [(0, .ref (ad 132)), (1, .int (iI n92)), (2, .int (iI n131)), (3, .int (iI n141)), (4, .int (iI x4_67)), (5, .int (iI n102)), (6, .int (iI v13)), (7, .int (iI v20)), (8, .ref x26), (9, .int (iI x9_70)), (14, .int (iI 1)), (15, .int (iI 1)), (18, .int (iI 1))] []) h (fun _ h => ?_) (fun J512 K512 h => ?_)
                                              · refine xx_iconst C 513 rfl dL_isWhole_512 ?_
                                                refine xx_goto C 517 dL_isWhole_513 (by decide) ?_
                                                refine xx_istore (lv1 := [(19, .int (iI 1)), (0, .ref (ad 132)), (1, .int (iI n92)), (2, .int (iI n131)), (3, .int (iI n141)), (4, .int (iI x4_67)), (5, .int (iI n102)), (6, .int (iI v13)), (7, .int (iI v20)), (8, .ref x26), (9, .int (iI x9_70)), (14, .int (iI 1)), (15, .int (iI 1)), (18, .int (iI 1))]) C 519 rfl (by decide) dL_isWhole_517 rfl ?_
                                                refine xx_iload C 521 rfl 11 dL_isWhole_519 rfl ?_
                                                refine xx_if_eq (tgt := 539) C 524 rfl dL_isWhole_521 (by decide) h (fun h => ?_) (fun h => ?_)
                                                · exact nn_ h
                                                · refine xx_iload C 526 rfl 12 dL_isWhole_524 rfl ?_
                                                  refine xx_if_eq (tgt := 539) C 529 rfl dL_isWhole_526 (by decide) h (fun h => ?_) (fun h => ?_)
                                                  · exact nn_ h
                                                  · refine xx_iload C 531 rfl 13 dL_isWhole_529 rfl ?_
                                                    refine xx_if_eq (tgt := 539) C 534 rfl dL_isWhole_531 (by decide) h (fun h => ?_) (fun h => ?_)
                                                    · exact nn_ h
                                                    · refine xx_iload C 536 rfl 0 dL_isWhole_534 rfl ?_
                                                      refine xx_if_ne (tgt := 541) C 539 rfl dL_isWhole_536 (by decide) h (fun h => ?_) (fun h => ?_)
                                                      · refine xx_sub [1, 2, 3, 4, 5, 6, 7, 8, 9, 10] rfl ?_
                                                        exact K541 n92 n131 n141 n102 μ121 h
                                                      · exact nn_ h
                                              · refine xx_icmp_ne (tgt := 512) C 502 rfl dL_isWhole_499 (by decide) h (fun h => ?_) (fun h => ?_)
                                                · refine xx_sub [1, 2, 3, 4, 5, 6, 7, 8, 9, 10, 13, 14, 0] rfl ?_
                                                  exact K512 () h
                                                · refine xx_iload C 504 rfl 11 dL_isWhole_502 rfl ?_
                                                  refine xx_if_eq (tgt := 516) C 507 rfl dL_isWhole_504 (by decide) h (fun h => ?_) (fun h => ?_)
                                                  · exact nn_ h
                                                  · refine xx_iload C 509 rfl 12 dL_isWhole_507 rfl ?_
                                                    refine xx_if_ne (tgt := 516) C 512 rfl dL_isWhole_509 (by decide) h (fun h => ?_) (fun h => ?_)
                                                    · exact nn_ h
                                                    · refine xx_sub [1, 2, 3, 4, 5, 6, 7, 8, 9, 10, 13, 14, 0] rfl ?_
                                                      exact K512 () h
                                            · refine xx_icmp_eq (tgt := 484) C 471 rfl dL_isWhole_468 (by decide) h (fun h => ?_) (fun h => ?_)
                                              · refine xx_sub [0, 1, 2, 3, 4, 5, 6, 7, 8, 9, 10, 11, 12, 13] rfl ?_
                                                exact K484 () h
                                              · refine xx_iload C 473 rfl 14 dL_isWhole_471 rfl ?_
                                                refine xx_iconst C 474 rfl dL_isWhole_473 ?_
                                                refine xx_icmp_lt (tgt := 488) C 477 rfl dL_isWhole_474 (by decide) h (fun h => ?_) (fun h => ?_)
                                                · exact nn_ h
                                                · refine xx_iload C 479 rfl 14 dL_isWhole_477 rfl ?_
                                                  refine xx_bipush C 481 rfl dL_isWhole_479 (by decide) ?_
                                                  refine xx_icmp_gt (tgt := 488) C 484 rfl dL_isWhole_481 (by decide) h (fun h => ?_) (fun h => ?_)
                                                  · exact nn_ h
                                                  · refine xx_sub [0, 1, 2, 3, 4, 5, 6, 7, 8, 9, 10, 11, 12, 13] rfl ?_
                                                    exact K484 () h
                                        · refine xx_icmp_ne (tgt := 460) C 456 rfl dL_isWhole_453 (by decide) h (fun h => ?_) (fun h => ?_)
                                          · refine xx_iconst C 461 rfl dL_isWhole_460 ?_
                                            exact K461 0 h
                                          · refine xx_iconst C 457 rfl dL_isWhole_456 ?_
                                            refine xx_goto C 461 dL_isWhole_457 (by decide) ?_
                                            exact K461 1 h
                                      · refine xx_icmp_ne (tgt := 449) C 445 rfl dL_isWhole_442 (by decide) h (fun h => ?_) (fun h => ?_)
                                        · refine xx_iconst C 450 rfl dL_isWhole_449 ?_
                                          refine xx_sub [1, 2, 3, 4, 5, 6, 7, 8, 9, 10, 11, 12, 13, 14, 0] rfl ?_
                                          exact K450 0 h
                                        · refine xx_iconst C 446 rfl dL_isWhole_445 ?_
                                          refine xx_goto C 450 dL_isWhole_446 (by decide) ?_
                                          refine xx_sub [1, 2, 3, 4, 5, 6, 7, 8, 9, 10, 11, 12, 13, 14, 0] rfl ?_
                                          exact K450 1 h
                                    · have L297 : ∀ (fu297 : Nat) (x16_297 : Int) (x17_297 : Int), f_L_isWhole_o132_L297 J431 v20 x9_70 v108 s0_158 v163 μ121 fu297 x16_297 x17_297 = some (a, μr) → wx_ G X 152 (a9_ ad x26) (cI_ G (ceX G ad)) μ121 1 3 297 [(0, .ref (ad 132)), (1, .int (iI n92)), (2, .int (iI n131)), (3, .int (iI n141)), (4, .int (iI x4_67)), (5, .int (iI n102)), (6, .int (iI v13)), (7, .int (iI v20)), (8, .ref x26), (9, .int (iI x9_70)), (10, .int (iI v108)), (11, .int (iI s0_158)), (12, .int (iI v163)), (14, .int (iI 1)), (15, .int (iI 1)), (16, .int (iI x16_297)), (17, .int (iI x17_297))] [] := by
                                        intro fu297
                                        induction fu297 with
                                        | zero => intro x16_297 x17_297 h; exact nn_ h
                                        | succ fu297 K297 =>
                                          intro x16_297 x17_297 h
                                          rw [f_L_isWhole_o132_L297] at h
                                          generalize f_L_isWhole_o132_L297 J431 v20 x9_70 v108 s0_158 v163 μ121 fu297 = R297 at K297 h
                                          refine xx_iload C 299 rfl 16 dL_isWhole_297 rfl ?_
                                          refine xx_iconst C 300 rfl dL_isWhole_299 ?_
                                          refine xx_icmp_ge (tgt := 431) C 303 rfl dL_isWhole_300 (by decide) h (fun h => ?_) (fun h => ?_)
                                          · refine xx_sub [0, 1, 2, 3, 4, 5, 6, 7, 8, 9, 11, 12, 13, 14, 15] rfl ?_
                                            exact K431 x16_297 h
                                          · refine xx_aload_n C 304 rfl 0 dL_isWhole_303 rfl rfl ?_
                                            refine xx_iload C 306 rfl 9 dL_isWhole_304 rfl ?_
                                            refine xx_iload C 308 rfl 16 dL_isWhole_306 rfl ?_
                                            refine xe_cVip (As := [.int (iI x9_70), .int (iI x17_297)]) (st := []) (o := 132) C 311 rfl (fun _ hk _ => cI_ne hk) (by decide) (ceX_132 _ _ _) rfl rfl ca_X11_threadOf cv_X11_threadOf w_998 rfl ⟨Nat.le_of_ble_eq_true rfl, Nat.le_of_ble_eq_true rfl⟩ ⟨Nat.le_of_ble_eq_true rfl, Nat.le_of_ble_eq_true rfl⟩ (Nat.le_of_ble_eq_true rfl) dL_isWhole_308 (fun v308 e9 => c_X11_threadOf _ _ _ v308 e9) h (fun v308 h => ?_) rfl
                                            refine xx_istore (lv1 := [(18, .int (iI v308)), (0, .ref (ad 132)), (1, .int (iI n92)), (2, .int (iI n131)), (3, .int (iI n141)), (4, .int (iI x4_67)), (5, .int (iI n102)), (6, .int (iI v13)), (7, .int (iI v20)), (8, .ref x26), (9, .int (iI x9_70)), (10, .int (iI v108)), (11, .int (iI s0_158)), (12, .int (iI v163)), (14, .int (iI 1)), (15, .int (iI 1)), (16, .int (iI x16_297)), (17, .int (iI x17_297))]) C 313 rfl (by decide) dL_isWhole_311 rfl ?_
                                            refine xx_iload C 315 rfl 0 dL_isWhole_313 rfl ?_
                                            refine xx_iload C 317 rfl 10 dL_isWhole_315 rfl ?_
                                            refine jn_r (fun J => ∀ (x16_323 : Int), J x16_323 = some (a, μr) → wx_ G X 152 (a9_ ad x26) (cI_ G (ceX G ad)) μ121 1 3 323 [(0, .ref (ad 132)), (1, .int (iI n92)), (2, .int (iI n131)), (3, .int (iI n141)), (4, .int (iI x4_67)), (5, .int (iI n102)), (6, .int (iI v13)), (7, .int (iI v20)), (8, .ref x26), (9, .int (iI x9_70)), (10, .int (iI v108)), (11, .int (iI s0_158)), (12, .int (iI v163)), (14, .int (iI 1)), (15, .int (iI 1)), (16, .int (iI x16_323)), (17, .int (iI x17_297)), (18, .int (iI v308))] []) h (fun x16_323 h => ?_) (fun J323 K323 h => ?_)
                                            · refine xx_iload C 325 rfl 17 dL_isWhole_323 rfl ?_
                                              refine jn_r (fun J => ∀ (_u : Unit), J _u = some (a, μr) → wx_ G X 152 (a9_ ad x26) (cI_ G (ceX G ad)) μ121 1 3 355 [(0, .ref (ad 132)), (1, .int (iI n92)), (2, .int (iI n131)), (3, .int (iI n141)), (4, .int (iI x4_67)), (5, .int (iI n102)), (6, .int (iI v13)), (7, .int (iI v20)), (8, .ref x26), (9, .int (iI x9_70)), (10, .int (iI v108)), (11, .int (iI s0_158)), (12, .int (iI v163)), (14, .int (iI 1)), (15, .int (iI 1)), (16, .int (iI x16_323)), (17, .int (iI x17_297)), (18, .int (iI v308))] []) h (fun _ h => ?_) (fun J355 K355 h => ?_)
                                              · refine xx_iconst C 356 rfl dL_isWhole_355 ?_
                                                refine xx_goto C 360 dL_isWhole_356 (by decide) ?_
                                                refine xx_istore (lv1 := [(19, .int (iI 1)), (0, .ref (ad 132)), (1, .int (iI n92)), (2, .int (iI n131)), (3, .int (iI n141)), (4, .int (iI x4_67)), (5, .int (iI n102)), (6, .int (iI v13)), (7, .int (iI v20)), (8, .ref x26), (9, .int (iI x9_70)), (10, .int (iI v108)), (11, .int (iI s0_158)), (12, .int (iI v163)), (14, .int (iI 1)), (15, .int (iI 1)), (16, .int (iI x16_323)), (17, .int (iI x17_297)), (18, .int (iI v308))]) C 362 rfl (by decide) dL_isWhole_360 rfl ?_
                                                refine xx_iload C 364 rfl 18 dL_isWhole_362 rfl ?_
                                                refine xx_bipush C 366 rfl dL_isWhole_364 (by decide) ?_
                                                refine jn_r (fun J => ∀ (_u : Unit), J _u = some (a, μr) → wx_ G X 152 (a9_ ad x26) (cI_ G (ceX G ad)) μ121 1 3 379 [(0, .ref (ad 132)), (1, .int (iI n92)), (2, .int (iI n131)), (3, .int (iI n141)), (4, .int (iI x4_67)), (5, .int (iI n102)), (6, .int (iI v13)), (7, .int (iI v20)), (8, .ref x26), (9, .int (iI x9_70)), (10, .int (iI v108)), (11, .int (iI s0_158)), (12, .int (iI v163)), (14, .int (iI 1)), (15, .int (iI 1)), (16, .int (iI x16_323)), (17, .int (iI x17_297)), (18, .int (iI v308)), (19, .int (iI 1))] []) h (fun _ h => ?_) (fun J379 K379 h => ?_)
                                                · refine xx_iconst C 380 rfl dL_isWhole_379 ?_
                                                  refine xx_goto C 384 dL_isWhole_380 (by decide) ?_
                                                  refine xx_istore (lv1 := [(20, .int (iI 1)), (0, .ref (ad 132)), (1, .int (iI n92)), (2, .int (iI n131)), (3, .int (iI n141)), (4, .int (iI x4_67)), (5, .int (iI n102)), (6, .int (iI v13)), (7, .int (iI v20)), (8, .ref x26), (9, .int (iI x9_70)), (10, .int (iI v108)), (11, .int (iI s0_158)), (12, .int (iI v163)), (14, .int (iI 1)), (15, .int (iI 1)), (16, .int (iI x16_323)), (17, .int (iI x17_297)), (18, .int (iI v308)), (19, .int (iI 1))]) C 386 rfl (by decide) dL_isWhole_384 rfl ?_
                                                  refine xx_iload C 388 rfl 19 dL_isWhole_386 rfl ?_
                                                  refine xx_if_eq (tgt := 423) C 391 rfl dL_isWhole_388 (by decide) h (fun h => ?_) (fun h => ?_)
                                                  · exact nn_ h
                                                  · refine xx_iload C 393 rfl 0 dL_isWhole_391 rfl ?_
                                                    refine xx_if_eq (tgt := 423) C 396 rfl dL_isWhole_393 (by decide) h (fun h => ?_) (fun h => ?_)
                                                    · exact nn_ h
                                                    · refine xx_iload C 398 rfl 8 dL_isWhole_396 rfl ?_
                                                      refine xx_iconst C 399 rfl dL_isWhole_398 ?_
                                                      refine jn_r (fun J => ∀ (_u : Unit), J _u = some (a, μr) → wx_ G X 152 (a9_ ad x26) (cI_ G (ceX G ad)) μ121 1 3 425 [(0, .ref (ad 132)), (1, .int (iI n92)), (2, .int (iI n131)), (3, .int (iI n141)), (4, .int (iI x4_67)), (5, .int (iI n102)), (6, .int (iI v13)), (7, .int (iI v20)), (8, .ref x26), (9, .int (iI x9_70)), (10, .int (iI v108)), (11, .int (iI s0_158)), (12, .int (iI v163)), (14, .int (iI 1)), (15, .int (iI 1)), (16, .int (iI x16_323)), (17, .int (iI x17_297))] []) h (fun _ h => ?_) (fun J425 K425 h => ?_)
                                                      · refine xx_iincn C 428 rfl 16 (by decide) dL_isWhole_425 rfl h (fun n425 h => ?_)
                                                        refine xx_lv (lv1 := [(17, .int (iI n425)), (0, .ref (ad 132)), (1, .int (iI n92)), (2, .int (iI n131)), (3, .int (iI n141)), (4, .int (iI x4_67)), (5, .int (iI n102)), (6, .int (iI v13)), (7, .int (iI v20)), (8, .ref x26), (9, .int (iI x9_70)), (10, .int (iI v108)), (11, .int (iI s0_158)), (12, .int (iI v163)), (14, .int (iI 1)), (15, .int (iI 1)), (16, .int (iI x16_323))]) rfl ?_
                                                        refine xx_goto C 297 dL_isWhole_428 (by decide) ?_
                                                        refine xx_sub [1, 2, 3, 4, 5, 6, 7, 8, 9, 10, 11, 12, 13, 14, 15, 16, 0] rfl ?_
                                                        exact K297 x16_323 n425 h
                                                      · refine xx_icmp_ne (tgt := 425) C 402 rfl dL_isWhole_399 (by decide) h (fun h => ?_) (fun h => ?_)
                                                        · refine xx_sub [1, 2, 3, 4, 5, 6, 7, 8, 9, 10, 11, 12, 13, 14, 15, 16, 17] rfl ?_
                                                          exact K425 () h
                                                        · refine xx_iload C 404 rfl 11 dL_isWhole_402 rfl ?_
                                                          refine xx_iconst C 405 rfl dL_isWhole_404 ?_
                                                          refine xx_icmp_ne (tgt := 425) C 408 rfl dL_isWhole_405 (by decide) h (fun h => ?_) (fun h => ?_)
                                                          · refine xx_sub [1, 2, 3, 4, 5, 6, 7, 8, 9, 10, 11, 12, 13, 14, 15, 16, 17] rfl ?_
                                                            exact K425 () h
                                                          · refine xx_iload C 410 rfl 18 dL_isWhole_408 rfl ?_
                                                            refine xx_if_lt (tgt := 425) C 413 rfl dL_isWhole_410 (by decide) h (fun h => ?_) (fun h => ?_)
                                                            · refine xx_sub [1, 2, 3, 4, 5, 6, 7, 8, 9, 10, 11, 12, 13, 14, 15, 16, 17] rfl ?_
                                                              exact K425 () h
                                                            · refine xx_aload_n C 414 rfl 1 dL_isWhole_413 rfl rfl ?_
                                                              refine xx_iload C 416 rfl 18 dL_isWhole_414 rfl ?_
                                                              refine xx_iconst C 417 rfl dL_isWhole_416 ?_
                                                              refine xe_cVip (As := [.int (iI v308), .int (iI 0)]) (st := []) (o := 132) C 420 rfl (fun _ hk _ => cI_ne hk) (by decide) (ceX_132 _ _ _) rfl rfl ca_X11_urnOf cv_X11_urnOf w_984 rfl ⟨Nat.le_of_ble_eq_true rfl, Nat.le_of_ble_eq_true rfl⟩ ⟨Nat.le_of_ble_eq_true rfl, Nat.le_of_ble_eq_true rfl⟩ (Nat.le_of_ble_eq_true rfl) dL_isWhole_417 (fun v417 e9 => c_X11_urnOf _ _ _ v417 e9) h (fun v417 h => ?_) rfl
                                                              refine xx_if_ne (tgt := 425) C 423 rfl dL_isWhole_420 (by decide) h (fun h => ?_) (fun h => ?_)
                                                              · refine xx_sub [1, 2, 3, 4, 5, 6, 7, 8, 9, 10, 11, 12, 13, 14, 15, 16, 17] rfl ?_
                                                                exact K425 () h
                                                              · exact nn_ h
                                                · refine xx_icmp_eq (tgt := 379) C 369 rfl dL_isWhole_366 (by decide) h (fun h => ?_) (fun h => ?_)
                                                  · refine xx_sub [1, 2, 3, 4, 5, 6, 7, 8, 9, 10, 11, 12, 13, 14, 15, 16, 17, 18, 0] rfl ?_
                                                    exact K379 () h
                                                  · refine xx_aload_n C 370 rfl 1 dL_isWhole_369 rfl rfl ?_
                                                    refine xx_iload C 372 rfl 18 dL_isWhole_370 rfl ?_
                                                    refine xx_iconst C 373 rfl dL_isWhole_372 ?_
                                                    refine xe_cVip (As := [.int (iI v308), .int (iI 0)]) (st := []) (o := 132) C 376 rfl (fun _ hk _ => cI_ne hk) (by decide) (ceX_132 _ _ _) rfl rfl ca_X11_urnOf cv_X11_urnOf w_984 rfl ⟨Nat.le_of_ble_eq_true rfl, Nat.le_of_ble_eq_true rfl⟩ ⟨Nat.le_of_ble_eq_true rfl, Nat.le_of_ble_eq_true rfl⟩ (Nat.le_of_ble_eq_true rfl) dL_isWhole_373 (fun v373 e9 => c_X11_urnOf _ _ _ v373 e9) h (fun v373 h => ?_) rfl
                                                    refine xx_if_lt (tgt := 383) C 379 rfl dL_isWhole_376 (by decide) h (fun h => ?_) (fun h => ?_)
                                                    · exact nn_ h
                                                    · refine xx_sub [1, 2, 3, 4, 5, 6, 7, 8, 9, 10, 11, 12, 13, 14, 15, 16, 17, 18, 0] rfl ?_
                                                      exact K379 () h
                                              · refine xx_if_lt (tgt := 355) C 328 rfl dL_isWhole_325 (by decide) h (fun h => ?_) (fun h => ?_)
                                                · exact K355 () h
                                                · refine xx_iload C 330 rfl 11 dL_isWhole_328 rfl ?_
                                                  refine xx_if_eq (tgt := 355) C 333 rfl dL_isWhole_330 (by decide) h (fun h => ?_) (fun h => ?_)
                                                  · exact K355 () h
                                                  · refine xx_aload_n C 334 rfl 0 dL_isWhole_333 rfl rfl ?_
                                                    refine xx_iload C 336 rfl 17 dL_isWhole_334 rfl ?_
                                                    refine xe_cVip (As := [.int (iI v308)]) (st := []) (o := 132) C 339 rfl (fun _ hk _ => cI_ne hk) (by decide) (ceX_132 _ _ _) rfl rfl ca_X11_depth cv_X11_depth w_1049 rfl ⟨Nat.le_of_ble_eq_true rfl, Nat.le_of_ble_eq_true rfl⟩ ⟨Nat.le_of_ble_eq_true rfl, Nat.le_of_ble_eq_true rfl⟩ (Nat.le_of_ble_eq_true rfl) dL_isWhole_336 (fun v336 e9 => c_X11_depth _ _ v336 e9) h (fun v336 h => ?_) rfl
                                                    refine xx_if_lt (tgt := 359) C 342 rfl dL_isWhole_339 (by decide) h (fun h => ?_) (fun h => ?_)
                                                    · exact nn_ h
                                                    · refine xx_aload_n C 343 rfl 0 dL_isWhole_342 rfl rfl ?_
                                                      refine xx_iload C 345 rfl 17 dL_isWhole_343 rfl ?_
                                                      refine xe_cVip (As := [.int (iI v308)]) (st := []) (o := 132) C 348 rfl (fun _ hk _ => cI_ne hk) (by decide) (ceX_132 _ _ _) rfl rfl ca_X11_depth cv_X11_depth w_1049 rfl ⟨Nat.le_of_ble_eq_true rfl, Nat.le_of_ble_eq_true rfl⟩ ⟨Nat.le_of_ble_eq_true rfl, Nat.le_of_ble_eq_true rfl⟩ (Nat.le_of_ble_eq_true rfl) dL_isWhole_345 (fun v345 e9 => c_X11_depth _ _ v345 e9) h (fun v345 h => ?_) rfl
                                                      refine xx_iload C 350 rfl 12 dL_isWhole_348 rfl ?_
                                                      refine xx_iconst C 351 rfl dL_isWhole_350 ?_
                                                      refine xx_iadd C 352 rfl dL_isWhole_351 ?_
                                                      refine xx_icmp_gt (tgt := 359) C 355 rfl dL_isWhole_352 (by decide) h (fun h => ?_) (fun h => ?_)
                                                      · exact nn_ h
                                                      · exact K355 () h
                                            · refine xx_icmp_ne (tgt := 323) C 320 rfl dL_isWhole_317 (by decide) h (fun h => ?_) (fun h => ?_)
                                              · refine xx_sub [1, 2, 3, 4, 5, 6, 7, 8, 9, 10, 11, 12, 13, 14, 15, 16, 17, 0] rfl ?_
                                                exact K323 x16_297 h
                                              · refine xx_iconst C 321 rfl dL_isWhole_320 ?_
                                                refine xx_istore (lv1 := [(16, .int (iI 1)), (18, .int (iI v308)), (0, .ref (ad 132)), (1, .int (iI n92)), (2, .int (iI n131)), (3, .int (iI n141)), (4, .int (iI x4_67)), (5, .int (iI n102)), (6, .int (iI v13)), (7, .int (iI v20)), (8, .ref x26), (9, .int (iI x9_70)), (10, .int (iI v108)), (11, .int (iI s0_158)), (12, .int (iI v163)), (14, .int (iI 1)), (15, .int (iI 1)), (17, .int (iI x17_297))]) C 323 rfl (by decide) dL_isWhole_321 rfl ?_
                                                refine xx_sub [2, 3, 4, 5, 6, 7, 8, 9, 10, 11, 12, 13, 14, 15, 16, 0, 17, 1] rfl ?_
                                                exact K323 1 h
                                      refine xx_sub [3, 4, 5, 6, 7, 8, 9, 10, 11, 12, 13, 14, 15, 16, 2, 1, 0] rfl ?_
                                      exact L297 _ _ _ h
                                  · refine xx_if_eq (tgt := 283) C 278 rfl dL_isWhole_275 (by decide) h (fun h => ?_) (fun h => ?_)
                                    · refine xx_sub [0, 1, 2, 3, 4, 5, 6, 7, 8, 9, 10, 11, 12, 14] rfl ?_
                                      exact K283 () h
                                    · refine xx_iload C 280 rfl 11 dL_isWhole_278 rfl ?_
                                      refine xx_if_ne (tgt := 287) C 283 rfl dL_isWhole_280 (by decide) h (fun h => ?_) (fun h => ?_)
                                      · exact nn_ h
                                      · refine xx_sub [0, 1, 2, 3, 4, 5, 6, 7, 8, 9, 10, 11, 12, 14] rfl ?_
                                        exact K283 () h
                                · refine xx_icmp_eq (tgt := 273) C 267 rfl dL_isWhole_264 (by decide) h (fun h => ?_) (fun h => ?_)
                                  · exact K273 () h
                                  · refine xx_iload C 269 rfl 10 dL_isWhole_267 rfl ?_
                                    refine xx_iconst C 270 rfl dL_isWhole_269 ?_
                                    refine xx_icmp_eq (tgt := 287) C 273 rfl dL_isWhole_270 (by decide) h (fun h => ?_) (fun h => ?_)
                                    · exact nn_ h
                                    · exact K273 () h
                              · refine xx_if_gt (tgt := 261) C 256 rfl dL_isWhole_253 (by decide) h (fun h => ?_) (fun h => ?_)
                                · refine xx_sub [1, 2, 3, 4, 5, 6, 7, 8, 9, 10, 11, 12, 13, 14, 0] rfl ?_
                                  exact K261 () h
                                · refine xx_iload C 258 rfl 11 dL_isWhole_256 rfl ?_
                                  refine xx_if_ne (tgt := 287) C 261 rfl dL_isWhole_258 (by decide) h (fun h => ?_) (fun h => ?_)
                                  · exact nn_ h
                                  · refine xx_sub [1, 2, 3, 4, 5, 6, 7, 8, 9, 10, 11, 12, 13, 14, 0] rfl ?_
                                    exact K261 () h
                          · refine xx_if_ne (tgt := 232) C 223 rfl dL_isWhole_220 (by decide) h (fun h => ?_) (fun h => ?_)
                            · exact K232 () h
                            · refine xx_aload_n C 224 rfl 0 dL_isWhole_223 rfl rfl ?_
                              refine xx_iload C 226 rfl 9 dL_isWhole_224 rfl ?_
                              refine xe_cVip (As := [.int (iI x9_70)]) (st := []) (o := 132) C 229 rfl (fun _ hk _ => cI_ne hk) (by decide) (ceX_132 _ _ _) rfl rfl ca_X11_keepers cv_X11_keepers w_1058 rfl ⟨Nat.le_of_ble_eq_true rfl, Nat.le_of_ble_eq_true rfl⟩ ⟨Nat.le_of_ble_eq_true rfl, Nat.le_of_ble_eq_true rfl⟩ (Nat.le_of_ble_eq_true rfl) dL_isWhole_226 (fun v226 e9 => c_X11_keepers _ _ v226 e9) h (fun v226 h => ?_) rfl
                              refine xx_if_ne (tgt := 248) C 232 rfl dL_isWhole_229 (by decide) h (fun h => ?_) (fun h => ?_)
                              · exact nn_ h
                              · exact K232 () h
                    · refine xx_if_lt (tgt := 207) C 203 rfl dL_isWhole_200 (by decide) h (fun h => ?_) (fun h => ?_)
                      · refine xx_iconst C 208 rfl dL_isWhole_207 ?_
                        refine xx_sub [1, 2, 3, 4, 5, 6, 7, 8, 9, 10, 11, 12, 13, 0] rfl ?_
                        exact K208 0 h
                      · refine xx_iconst C 204 rfl dL_isWhole_203 ?_
                        refine xx_goto C 208 dL_isWhole_204 (by decide) ?_
                        refine xx_sub [1, 2, 3, 4, 5, 6, 7, 8, 9, 10, 11, 12, 13, 0] rfl ?_
                        exact K208 1 h
                  · refine jn_r (fun J => ∀ (_u : Unit), J _u = some (a, μr) → wx_ G X 152 (a9_ ad x26) (cI_ G (ceX G ad)) μ121 1 3 193 [(0, .ref (ad 132)), (1, .int (iI n92)), (2, .int (iI n131)), (3, .int (iI n141)), (4, .int (iI x4_67)), (5, .int (iI n102)), (6, .int (iI v13)), (7, .int (iI v20)), (8, .ref x26), (9, .int (iI x9_70)), (10, .int (iI v108)), (11, .int (iI s0_158)), (12, .int (iI v163))] []) h (fun _ h => ?_) (fun J193 K193 h => ?_)
                    · refine xx_iconst C 194 rfl dL_isWhole_193 ?_
                      exact K194 0 h
                    · refine xx_icmp_ne (tgt := 193) C 174 rfl dL_isWhole_171 (by decide) h (fun h => ?_) (fun h => ?_)
                      · refine xx_sub [2, 3, 4, 5, 6, 7, 8, 9, 10, 11, 12, 1, 0] rfl ?_
                        exact K193 () h
                      · refine xx_iload C 176 rfl 12 dL_isWhole_174 rfl ?_
                        refine xx_if_ne (tgt := 193) C 179 rfl dL_isWhole_176 (by decide) h (fun h => ?_) (fun h => ?_)
                        · refine xx_sub [2, 3, 4, 5, 6, 7, 8, 9, 10, 11, 12, 1, 0] rfl ?_
                          exact K193 () h
                        · refine xx_iload C 181 rfl 11 dL_isWhole_179 rfl ?_
                          refine xx_aload_n C 182 rfl 2 dL_isWhole_181 rfl rfl ?_
                          refine xx_iconst C 183 rfl dL_isWhole_182 ?_
                          refine xe_cVip (As := [.int (iI 2)]) (st := [.int (iI x9_70)]) (o := 132) C 186 rfl (fun _ hk _ => cI_ne hk) (by decide) (ceX_132 _ _ _) rfl rfl ca_X11_account cv_X11_account w_365 rfl ⟨Nat.le_of_ble_eq_true rfl, Nat.le_of_ble_eq_true rfl⟩ ⟨Nat.le_of_ble_eq_true rfl, Nat.le_of_ble_eq_true rfl⟩ (Nat.le_of_ble_eq_true rfl) dL_isWhole_183 (fun v183 e9 => c_X11_account _ _ v183 e9) h (fun v183 h => ?_) rfl
                          refine xx_icmp_lt (tgt := 193) C 189 rfl dL_isWhole_186 (by decide) h (fun h => ?_) (fun h => ?_)
                          · refine xx_sub [2, 3, 4, 5, 6, 7, 8, 9, 10, 11, 12, 1, 0] rfl ?_
                            exact K193 () h
                          · refine xx_iconst C 190 rfl dL_isWhole_189 ?_
                            refine xx_goto C 194 dL_isWhole_190 (by decide) ?_
                            refine xx_sub [2, 3, 4, 5, 6, 7, 8, 9, 10, 11, 12, 1, 0] rfl ?_
                            exact K194 1 h
                · refine xx_icmp_ne (tgt := 157) C 153 rfl dL_isWhole_150 (by decide) h (fun h => ?_) (fun h => ?_)
                  · refine xx_iconst C 158 rfl dL_isWhole_157 ?_
                    refine xx_sub [5, 4, 1, 0, 6, 3, 7, 8, 9, 10, 2] rfl ?_
                    exact K158 0 h
                  · refine xx_iconst C 154 rfl dL_isWhole_153 ?_
                    refine xx_goto C 158 dL_isWhole_154 (by decide) ?_
                    refine xx_sub [5, 4, 1, 0, 6, 3, 7, 8, 9, 10, 2] rfl ?_
                    exact K158 1 h
              · refine xx_goto C 541 dL_isWhole_89 (by decide) ?_
                exact K541 x1_70 x2_70 x3_70 x5_70 μ70 h
      refine xx_sub [1, 2, 3, 4, 5, 6, 7, 8, 9, 0] rfl ?_
      exact L70 _ _ _ _ _ _ _ h
  · have L33 : ∀ (fu33 : Nat) (x4_33 : Int) (x9_33 : Int), f_L_isWhole_o132_L33 J67 μ26 fu33 x4_33 x9_33 = some (a, μr) → wx_ G X 152 (a9_ ad x26) (cI_ G (ceX G ad)) μ26 1 3 33 [(0, .ref (ad 132)), (1, .int (iI 0)), (2, .int (iI 0)), (3, .int (iI 0)), (4, .int (iI x4_33)), (5, .int (iI 0)), (6, .int (iI v13)), (7, .int (iI v20)), (8, .ref x26), (9, .int (iI x9_33))] [] := by
      intro fu33
      induction fu33 with
      | zero => intro x4_33 x9_33 h; exact nn_ h
      | succ fu33 K33 =>
        intro x4_33 x9_33 h
        rw [f_L_isWhole_o132_L33] at h
        generalize f_L_isWhole_o132_L33 J67 μ26 fu33 = R33 at K33 h
        refine xx_iload C 35 rfl 9 dL_isWhole_33 rfl ?_
        refine xx_bipush C 37 rfl dL_isWhole_35 (by decide) ?_
        refine xx_icmp_ge (tgt := 67) C 40 rfl dL_isWhole_37 (by decide) h (fun h => ?_) (fun h => ?_)
        · refine xx_sub [0, 1, 2, 3, 4, 5, 6, 7, 8] rfl ?_
          exact K67 x4_33 h
        · refine xx_iload C 42 rfl 4 dL_isWhole_40 rfl ?_
          refine xx_aload_n C 43 rfl 0 dL_isWhole_42 rfl rfl ?_
          refine xx_iload C 45 rfl 9 dL_isWhole_43 rfl ?_
          refine xe_cVip (As := [.int (iI x9_33)]) (st := [.int (iI x4_33)]) (o := 132) C 48 rfl (fun _ hk _ => cI_ne hk) (by decide) (ceX_132 _ _ _) rfl rfl ca_X11_named cv_X11_named w_1004 rfl ⟨Nat.le_of_ble_eq_true rfl, Nat.le_of_ble_eq_true rfl⟩ ⟨Nat.le_of_ble_eq_true rfl, Nat.le_of_ble_eq_true rfl⟩ (Nat.le_of_ble_eq_true rfl) dL_isWhole_45 (fun v45 e9 => c_X11_named _ _ v45 e9) h (fun v45 h => ?_) rfl
          refine xx_bipush C 50 rfl dL_isWhole_48 (by decide) ?_
          refine jn_r (fun J => ∀ (s0_58 : Int), J s0_58 = some (a, μr) → wx_ G X 152 (a9_ ad x26) (cI_ G (ceX G ad)) μ26 1 3 58 [(0, .ref (ad 132)), (1, .int (iI 0)), (2, .int (iI 0)), (3, .int (iI 0)), (5, .int (iI 0)), (6, .int (iI v13)), (7, .int (iI v20)), (8, .ref x26), (9, .int (iI x9_33))] [.int (iI s0_58), .int (iI x4_33)]) h (fun s0_58 h => ?_) (fun J58 K58 h => ?_)
          · refine xx_iadd C 59 rfl dL_isWhole_58 ?_
            refine xx_nm C h (fun n59 h => ?_)
            refine xx_istore (lv1 := [(4, .int (iI n59)), (0, .ref (ad 132)), (1, .int (iI 0)), (2, .int (iI 0)), (3, .int (iI 0)), (5, .int (iI 0)), (6, .int (iI v13)), (7, .int (iI v20)), (8, .ref x26), (9, .int (iI x9_33))]) C 61 rfl (by decide) dL_isWhole_59 rfl ?_
            refine xx_iincn C 64 rfl 9 (by decide) dL_isWhole_61 rfl h (fun n61 h => ?_)
            refine xx_lv (lv1 := [(9, .int (iI n61)), (4, .int (iI n59)), (0, .ref (ad 132)), (1, .int (iI 0)), (2, .int (iI 0)), (3, .int (iI 0)), (5, .int (iI 0)), (6, .int (iI v13)), (7, .int (iI v20)), (8, .ref x26)]) rfl ?_
            refine xx_goto C 33 dL_isWhole_64 (by decide) ?_
            refine xx_sub [2, 3, 4, 5, 1, 6, 7, 8, 9, 0] rfl ?_
            exact K33 n59 n61 h
          · refine xx_icmp_ne (tgt := 57) C 53 rfl dL_isWhole_50 (by decide) h (fun h => ?_) (fun h => ?_)
            · refine xx_iconst C 58 rfl dL_isWhole_57 ?_
              refine xx_sub [0, 1, 2, 3, 5, 6, 7, 8, 9] rfl ?_
              exact K58 1 h
            · refine xx_iconst C 54 rfl dL_isWhole_53 ?_
              refine xx_goto C 58 dL_isWhole_54 (by decide) ?_
              refine xx_sub [0, 1, 2, 3, 5, 6, 7, 8, 9] rfl ?_
              exact K58 0 h
    refine xx_sub [9, 8, 7, 6, 5, 4, 3, 2, 1, 0] rfl ?_
    exact L33 _ _ _ h

