theorem dX12_does_0 : decode cX12_does 0 = .ok (.aload_n 0, 1) := by decide +kernel
theorem dX12_does_1 : decode cX12_does 1 = .ok (.getfield 25, 3) := by decide +kernel
theorem dX12_does_4 : decode cX12_does 4 = .ok (.iconst 4, 1) := by decide +kernel
theorem dX12_does_5 : decode cX12_does 5 = .ok (.iload_n 1, 1) := by decide +kernel
theorem dX12_does_6 : decode cX12_does 6 = .ok (.imul, 1) := by decide +kernel
theorem dX12_does_7 : decode cX12_does 7 = .ok (.iconst 1, 1) := by decide +kernel
theorem dX12_does_8 : decode cX12_does 8 = .ok (.iadd, 1) := by decide +kernel
theorem dX12_does_9 : decode cX12_does 9 = .ok (.iaload, 1) := by decide +kernel
theorem dX12_does_10 : decode cX12_does 10 = .ok (.istore_n 2, 1) := by decide +kernel
theorem dX12_does_11 : decode cX12_does 11 = .ok (.aload_n 0, 1) := by decide +kernel
theorem dX12_does_12 : decode cX12_does 12 = .ok (.getfield 25, 3) := by decide +kernel
theorem dX12_does_15 : decode cX12_does 15 = .ok (.iconst 4, 1) := by decide +kernel
theorem dX12_does_16 : decode cX12_does 16 = .ok (.iload_n 1, 1) := by decide +kernel
theorem dX12_does_17 : decode cX12_does 17 = .ok (.imul, 1) := by decide +kernel
theorem dX12_does_18 : decode cX12_does 18 = .ok (.iconst 2, 1) := by decide +kernel
theorem dX12_does_19 : decode cX12_does 19 = .ok (.iadd, 1) := by decide +kernel
theorem dX12_does_20 : decode cX12_does 20 = .ok (.iaload, 1) := by decide +kernel
theorem dX12_does_21 : decode cX12_does 21 = .ok (.istore_n 3, 1) := by decide +kernel
theorem dX12_does_22 : decode cX12_does 22 = .ok (.aload_n 0, 1) := by decide +kernel
theorem dX12_does_23 : decode cX12_does 23 = .ok (.getfield 25, 3) := by decide +kernel
theorem dX12_does_26 : decode cX12_does 26 = .ok (.iconst 4, 1) := by decide +kernel
theorem dX12_does_27 : decode cX12_does 27 = .ok (.iload_n 1, 1) := by decide +kernel
theorem dX12_does_28 : decode cX12_does 28 = .ok (.imul, 1) := by decide +kernel
theorem dX12_does_29 : decode cX12_does 29 = .ok (.iaload, 1) := by decide +kernel
theorem dX12_does_30 : decode cX12_does 30 = .ok (.tableswitch 164 100 119 #[140, 164, 164, 164, 164, 164, 164, 164, 164, 164, 133, 164, 164, 164, 153, 158, 109, 94, 126, 146], 94) := by decide +kernel
theorem dX12_does_124 : decode cX12_does 124 = .ok (.aload_n 0, 1) := by decide +kernel
theorem dX12_does_125 : decode cX12_does 125 = .ok (.iload_n 2, 1) := by decide +kernel
theorem dX12_does_126 : decode cX12_does 126 = .ok (.iconst 1, 1) := by decide +kernel
theorem dX12_does_127 : decode cX12_does 127 = .ok (.if_icmp .ne 7, 3) := by decide +kernel
theorem dX12_does_130 : decode cX12_does 130 = .ok (.iconst 1, 1) := by decide +kernel
theorem dX12_does_131 : decode cX12_does 131 = .ok (.goto 4, 3) := by decide +kernel
theorem dX12_does_134 : decode cX12_does 134 = .ok (.iconst 0, 1) := by decide +kernel
theorem dX12_does_135 : decode cX12_does 135 = .ok (.invokevirtual 114, 3) := by decide +kernel
theorem dX12_does_138 : decode cX12_does 138 = .ok (.ireturn, 1) := by decide +kernel
theorem dX12_does_139 : decode cX12_does 139 = .ok (.aload_n 0, 1) := by decide +kernel
theorem dX12_does_140 : decode cX12_does 140 = .ok (.iload_n 2, 1) := by decide +kernel
theorem dX12_does_141 : decode cX12_does 141 = .ok (.iload_n 3, 1) := by decide +kernel
theorem dX12_does_142 : decode cX12_does 142 = .ok (.aload_n 0, 1) := by decide +kernel
theorem dX12_does_143 : decode cX12_does 143 = .ok (.getfield 25, 3) := by decide +kernel
theorem dX12_does_146 : decode cX12_does 146 = .ok (.iconst 4, 1) := by decide +kernel
theorem dX12_does_147 : decode cX12_does 147 = .ok (.iload_n 1, 1) := by decide +kernel
theorem dX12_does_148 : decode cX12_does 148 = .ok (.imul, 1) := by decide +kernel
theorem dX12_does_149 : decode cX12_does 149 = .ok (.iconst 3, 1) := by decide +kernel
theorem dX12_does_150 : decode cX12_does 150 = .ok (.iadd, 1) := by decide +kernel
theorem dX12_does_151 : decode cX12_does 151 = .ok (.iaload, 1) := by decide +kernel
theorem dX12_does_152 : decode cX12_does 152 = .ok (.invokevirtual 121, 3) := by decide +kernel
theorem dX12_does_155 : decode cX12_does 155 = .ok (.ireturn, 1) := by decide +kernel
theorem dX12_does_156 : decode cX12_does 156 = .ok (.aload_n 0, 1) := by decide +kernel
theorem dX12_does_157 : decode cX12_does 157 = .ok (.iload_n 2, 1) := by decide +kernel
theorem dX12_does_158 : decode cX12_does 158 = .ok (.iload_n 3, 1) := by decide +kernel
theorem dX12_does_159 : decode cX12_does 159 = .ok (.invokevirtual 125, 3) := by decide +kernel
theorem dX12_does_162 : decode cX12_does 162 = .ok (.ireturn, 1) := by decide +kernel
theorem dX12_does_163 : decode cX12_does 163 = .ok (.aload_n 0, 1) := by decide +kernel
theorem dX12_does_164 : decode cX12_does 164 = .ok (.iload_n 2, 1) := by decide +kernel
theorem dX12_does_165 : decode cX12_does 165 = .ok (.iload_n 3, 1) := by decide +kernel
theorem dX12_does_166 : decode cX12_does 166 = .ok (.invokevirtual 131, 3) := by decide +kernel
theorem dX12_does_169 : decode cX12_does 169 = .ok (.ireturn, 1) := by decide +kernel
theorem dX12_does_170 : decode cX12_does 170 = .ok (.aload_n 0, 1) := by decide +kernel
theorem dX12_does_171 : decode cX12_does 171 = .ok (.iload_n 2, 1) := by decide +kernel
theorem dX12_does_172 : decode cX12_does 172 = .ok (.invokevirtual 134, 3) := by decide +kernel
theorem dX12_does_175 : decode cX12_does 175 = .ok (.ireturn, 1) := by decide +kernel
theorem dX12_does_176 : decode cX12_does 176 = .ok (.aload_n 0, 1) := by decide +kernel
theorem dX12_does_177 : decode cX12_does 177 = .ok (.iload_n 2, 1) := by decide +kernel
theorem dX12_does_178 : decode cX12_does 178 = .ok (.iload_n 3, 1) := by decide +kernel
theorem dX12_does_179 : decode cX12_does 179 = .ok (.invokevirtual 128, 3) := by decide +kernel
theorem dX12_does_182 : decode cX12_does 182 = .ok (.ireturn, 1) := by decide +kernel
theorem dX12_does_183 : decode cX12_does 183 = .ok (.aload_n 0, 1) := by decide +kernel
theorem dX12_does_184 : decode cX12_does 184 = .ok (.invokevirtual 146, 3) := by decide +kernel
theorem dX12_does_187 : decode cX12_does 187 = .ok (.ireturn, 1) := by decide +kernel
theorem dX12_does_188 : decode cX12_does 188 = .ok (.aload_n 0, 1) := by decide +kernel
theorem dX12_does_189 : decode cX12_does 189 = .ok (.iload_n 2, 1) := by decide +kernel
theorem dX12_does_190 : decode cX12_does 190 = .ok (.invokevirtual 143, 3) := by decide +kernel
theorem dX12_does_193 : decode cX12_does 193 = .ok (.ireturn, 1) := by decide +kernel
theorem dX12_does_194 : decode cX12_does 194 = .ok (.aload_n 0, 1) := by decide +kernel
theorem dX12_does_195 : decode cX12_does 195 = .ok (.invokevirtual 149, 3) := by decide +kernel
theorem dX12_does_198 : decode cX12_does 198 = .ok (.ireturn, 1) := by decide +kernel
theorem dX12_run_0 : decode cX12_run 0 = .ok (.aload_n 0, 1) := by decide +kernel
theorem dX12_run_1 : decode cX12_run 1 = .ok (.invokevirtual 111, 3) := by decide +kernel
theorem dX12_run_4 : decode cX12_run 4 = .ok (.aload_n 0, 1) := by decide +kernel
theorem dX12_run_5 : decode cX12_run 5 = .ok (.iconst 0, 1) := by decide +kernel
theorem dX12_run_6 : decode cX12_run 6 = .ok (.putfield 176, 3) := by decide +kernel
theorem dX12_run_9 : decode cX12_run 9 = .ok (.aload_n 0, 1) := by decide +kernel
theorem dX12_run_10 : decode cX12_run 10 = .ok (.aload_n 0, 1) := by decide +kernel
theorem dX12_run_11 : decode cX12_run 11 = .ok (.getfield 173, 3) := by decide +kernel
theorem dX12_run_14 : decode cX12_run 14 = .ok (.putfield 179, 3) := by decide +kernel
theorem dX12_run_17 : decode cX12_run 17 = .ok (.aload_n 0, 1) := by decide +kernel
theorem dX12_run_18 : decode cX12_run 18 = .ok (.iconst 0, 1) := by decide +kernel
theorem dX12_run_19 : decode cX12_run 19 = .ok (.putfield 173, 3) := by decide +kernel
theorem dX12_run_22 : decode cX12_run 22 = .ok (.aload_n 0, 1) := by decide +kernel
theorem dX12_run_23 : decode cX12_run 23 = .ok (.iconst 0, 1) := by decide +kernel
theorem dX12_run_24 : decode cX12_run 24 = .ok (.putfield 197, 3) := by decide +kernel
theorem dX12_run_27 : decode cX12_run 27 = .ok (.aload_n 0, 1) := by decide +kernel
theorem dX12_run_28 : decode cX12_run 28 = .ok (.iconst 0, 1) := by decide +kernel
theorem dX12_run_29 : decode cX12_run 29 = .ok (.putfield 186, 3) := by decide +kernel
theorem dX12_run_32 : decode cX12_run 32 = .ok (.aload_n 0, 1) := by decide +kernel
theorem dX12_run_33 : decode cX12_run 33 = .ok (.invokevirtual 241, 3) := by decide +kernel
theorem dX12_run_36 : decode cX12_run 36 = .ok (.aload_n 0, 1) := by decide +kernel
theorem dX12_run_37 : decode cX12_run 37 = .ok (.getfield 186, 3) := by decide +kernel
theorem dX12_run_40 : decode cX12_run 40 = .ok (.ifCond .ne 29, 3) := by decide +kernel
theorem dX12_run_43 : decode cX12_run 43 = .ok (.aload_n 0, 1) := by decide +kernel
theorem dX12_run_44 : decode cX12_run 44 = .ok (.invokevirtual 190, 3) := by decide +kernel
theorem dX12_run_47 : decode cX12_run 47 = .ok (.bipush 59, 2) := by decide +kernel
theorem dX12_run_49 : decode cX12_run 49 = .ok (.if_icmp .ne 20, 3) := by decide +kernel
theorem dX12_run_52 : decode cX12_run 52 = .ok (.aload_n 0, 1) := by decide +kernel
theorem dX12_run_53 : decode cX12_run 53 = .ok (.dup, 1) := by decide +kernel
theorem dX12_run_54 : decode cX12_run 54 = .ok (.getfield 176, 3) := by decide +kernel
theorem dX12_run_57 : decode cX12_run 57 = .ok (.iconst 1, 1) := by decide +kernel
theorem dX12_run_58 : decode cX12_run 58 = .ok (.iadd, 1) := by decide +kernel
theorem dX12_run_59 : decode cX12_run 59 = .ok (.putfield 176, 3) := by decide +kernel
theorem dX12_run_62 : decode cX12_run 62 = .ok (.aload_n 0, 1) := by decide +kernel
theorem dX12_run_63 : decode cX12_run 63 = .ok (.invokevirtual 241, 3) := by decide +kernel
theorem dX12_run_66 : decode cX12_run 66 = .ok (.goto (-30), 3) := by decide +kernel
theorem dX12_run_69 : decode cX12_run 69 = .ok (.aload_n 0, 1) := by decide +kernel
theorem dX12_run_70 : decode cX12_run 70 = .ok (.getfield 186, 3) := by decide +kernel
theorem dX12_run_73 : decode cX12_run 73 = .ok (.ifCond .ne 14, 3) := by decide +kernel
theorem dX12_run_76 : decode cX12_run 76 = .ok (.aload_n 0, 1) := by decide +kernel
theorem dX12_run_77 : decode cX12_run 77 = .ok (.getfield 176, 3) := by decide +kernel
theorem dX12_run_80 : decode cX12_run 80 = .ok (.aload_n 0, 1) := by decide +kernel
theorem dX12_run_81 : decode cX12_run 81 = .ok (.getfield 179, 3) := by decide +kernel
theorem dX12_run_84 : decode cX12_run 84 = .ok (.if_icmp .ge 12, 3) := by decide +kernel
theorem dX12_run_87 : decode cX12_run 87 = .ok (.sipush (-1000), 3) := by decide +kernel
theorem dX12_run_90 : decode cX12_run 90 = .ok (.aload_n 0, 1) := by decide +kernel
theorem dX12_run_91 : decode cX12_run 91 = .ok (.getfield 176, 3) := by decide +kernel
theorem dX12_run_94 : decode cX12_run 94 = .ok (.isub, 1) := by decide +kernel
theorem dX12_run_95 : decode cX12_run 95 = .ok (.ireturn, 1) := by decide +kernel
theorem dX12_run_96 : decode cX12_run 96 = .ok (.iconst 0, 1) := by decide +kernel
theorem dX12_run_97 : decode cX12_run 97 = .ok (.istore_n 1, 1) := by decide +kernel
theorem dX12_run_98 : decode cX12_run 98 = .ok (.iload_n 1, 1) := by decide +kernel
theorem dX12_run_99 : decode cX12_run 99 = .ok (.aload_n 0, 1) := by decide +kernel
theorem dX12_run_100 : decode cX12_run 100 = .ok (.getfield 197, 3) := by decide +kernel
theorem dX12_run_103 : decode cX12_run 103 = .ok (.if_icmp .ge 56, 3) := by decide +kernel
theorem dX12_run_106 : decode cX12_run 106 = .ok (.aload_n 0, 1) := by decide +kernel
theorem dX12_run_107 : decode cX12_run 107 = .ok (.iload_n 1, 1) := by decide +kernel
theorem dX12_run_108 : decode cX12_run 108 = .ok (.invokevirtual 244, 3) := by decide +kernel
theorem dX12_run_111 : decode cX12_run 111 = .ok (.ifCond .eq 42, 3) := by decide +kernel
theorem dX12_run_114 : decode cX12_run 114 = .ok (.iconst 0, 1) := by decide +kernel
theorem dX12_run_115 : decode cX12_run 115 = .ok (.istore_n 2, 1) := by decide +kernel
theorem dX12_run_116 : decode cX12_run 116 = .ok (.iload_n 2, 1) := by decide +kernel
theorem dX12_run_117 : decode cX12_run 117 = .ok (.sipush 293, 3) := by decide +kernel
theorem dX12_run_120 : decode cX12_run 120 = .ok (.if_icmp .ge 21, 3) := by decide +kernel
theorem dX12_run_123 : decode cX12_run 123 = .ok (.aload_n 0, 1) := by decide +kernel
theorem dX12_run_124 : decode cX12_run 124 = .ok (.getfield 7, 3) := by decide +kernel
theorem dX12_run_127 : decode cX12_run 127 = .ok (.iload_n 2, 1) := by decide +kernel
theorem dX12_run_128 : decode cX12_run 128 = .ok (.aload_n 0, 1) := by decide +kernel
theorem dX12_run_129 : decode cX12_run 129 = .ok (.getfield 13, 3) := by decide +kernel
theorem dX12_run_132 : decode cX12_run 132 = .ok (.iload_n 2, 1) := by decide +kernel
theorem dX12_run_133 : decode cX12_run 133 = .ok (.iaload, 1) := by decide +kernel
theorem dX12_run_134 : decode cX12_run 134 = .ok (.iastore, 1) := by decide +kernel
theorem dX12_run_135 : decode cX12_run 135 = .ok (.iinc 2 1, 3) := by decide +kernel
theorem dX12_run_138 : decode cX12_run 138 = .ok (.goto (-22), 3) := by decide +kernel
theorem dX12_run_141 : decode cX12_run 141 = .ok (.aload_n 0, 1) := by decide +kernel
theorem dX12_run_142 : decode cX12_run 142 = .ok (.aload_n 0, 1) := by decide +kernel
theorem dX12_run_143 : decode cX12_run 143 = .ok (.bipush 8, 2) := by decide +kernel
theorem dX12_run_145 : decode cX12_run 145 = .ok (.iload_n 1, 1) := by decide +kernel
theorem dX12_run_146 : decode cX12_run 146 = .ok (.invokevirtual 91, 3) := by decide +kernel
theorem dX12_run_149 : decode cX12_run 149 = .ok (.invokevirtual 118, 3) := by decide +kernel
theorem dX12_run_152 : decode cX12_run 152 = .ok (.ireturn, 1) := by decide +kernel
theorem dX12_run_153 : decode cX12_run 153 = .ok (.iinc 1 1, 3) := by decide +kernel
theorem dX12_run_156 : decode cX12_run 156 = .ok (.goto (-58), 3) := by decide +kernel
theorem dX12_run_159 : decode cX12_run 159 = .ok (.aload_n 0, 1) := by decide +kernel
theorem dX12_run_160 : decode cX12_run 160 = .ok (.aload_n 0, 1) := by decide +kernel
theorem dX12_run_161 : decode cX12_run 161 = .ok (.getfield 197, 3) := by decide +kernel
theorem dX12_run_164 : decode cX12_run 164 = .ok (.invokevirtual 48, 3) := by decide +kernel
theorem dX12_run_167 : decode cX12_run 167 = .ok (.ireturn, 1) := by decide +kernel
theorem dX12_writes_0 : decode cX12_writes 0 = .ok (.aload_n 0, 1) := by decide +kernel
theorem dX12_writes_1 : decode cX12_writes 1 = .ok (.getfield 28, 3) := by decide +kernel
theorem dX12_writes_4 : decode cX12_writes 4 = .ok (.aload_n 0, 1) := by decide +kernel
theorem dX12_writes_5 : decode cX12_writes 5 = .ok (.getfield 247, 3) := by decide +kernel
theorem dX12_writes_8 : decode cX12_writes 8 = .ok (.iload_n 1, 1) := by decide +kernel
theorem dX12_writes_9 : decode cX12_writes 9 = .ok (.iastore, 1) := by decide +kernel
theorem dX12_writes_10 : decode cX12_writes 10 = .ok (.aload_n 0, 1) := by decide +kernel
theorem dX12_writes_11 : decode cX12_writes 11 = .ok (.dup, 1) := by decide +kernel
theorem dX12_writes_12 : decode cX12_writes 12 = .ok (.getfield 247, 3) := by decide +kernel
theorem dX12_writes_15 : decode cX12_writes 15 = .ok (.iconst 1, 1) := by decide +kernel
theorem dX12_writes_16 : decode cX12_writes 16 = .ok (.iadd, 1) := by decide +kernel
theorem dX12_writes_17 : decode cX12_writes 17 = .ok (.putfield 247, 3) := by decide +kernel
theorem dX12_writes_20 : decode cX12_writes 20 = .ok (.return_, 1) := by decide +kernel
theorem dX12_writesNumber_0 : decode cX12_writesNumber 0 = .ok (.iload_n 1, 1) := by decide +kernel
theorem dX12_writesNumber_1 : decode cX12_writesNumber 1 = .ok (.bipush 9, 2) := by decide +kernel
theorem dX12_writesNumber_3 : decode cX12_writesNumber 3 = .ok (.if_icmp .le 14, 3) := by decide +kernel
theorem dX12_writesNumber_6 : decode cX12_writesNumber 6 = .ok (.aload_n 0, 1) := by decide +kernel
theorem dX12_writesNumber_7 : decode cX12_writesNumber 7 = .ok (.bipush 48, 2) := by decide +kernel
theorem dX12_writesNumber_9 : decode cX12_writesNumber 9 = .ok (.iload_n 1, 1) := by decide +kernel
theorem dX12_writesNumber_10 : decode cX12_writesNumber 10 = .ok (.bipush 10, 2) := by decide +kernel
theorem dX12_writesNumber_12 : decode cX12_writesNumber 12 = .ok (.idiv, 1) := by decide +kernel
theorem dX12_writesNumber_13 : decode cX12_writesNumber 13 = .ok (.iadd, 1) := by decide +kernel
theorem dX12_writesNumber_14 : decode cX12_writesNumber 14 = .ok (.invokevirtual 250, 3) := by decide +kernel
theorem dX12_writesNumber_17 : decode cX12_writesNumber 17 = .ok (.aload_n 0, 1) := by decide +kernel
theorem dX12_writesNumber_18 : decode cX12_writesNumber 18 = .ok (.bipush 48, 2) := by decide +kernel
theorem dX12_writesNumber_20 : decode cX12_writesNumber 20 = .ok (.iload_n 1, 1) := by decide +kernel
theorem dX12_writesNumber_21 : decode cX12_writesNumber 21 = .ok (.bipush 10, 2) := by decide +kernel
theorem dX12_writesNumber_23 : decode cX12_writesNumber 23 = .ok (.irem, 1) := by decide +kernel
theorem dX12_writesNumber_24 : decode cX12_writesNumber 24 = .ok (.iadd, 1) := by decide +kernel
theorem dX12_writesNumber_25 : decode cX12_writesNumber 25 = .ok (.invokevirtual 250, 3) := by decide +kernel
theorem dX12_writesNumber_28 : decode cX12_writesNumber 28 = .ok (.return_, 1) := by decide +kernel
theorem dX12_tell_0 : decode cX12_tell 0 = .ok (.aload_n 0, 1) := by decide +kernel
theorem dX12_tell_1 : decode cX12_tell 1 = .ok (.iload_n 1, 1) := by decide +kernel
theorem dX12_tell_2 : decode cX12_tell 2 = .ok (.invokevirtual 97, 3) := by decide +kernel
theorem dX12_tell_5 : decode cX12_tell 5 = .ok (.ifCond .ne 6, 3) := by decide +kernel
theorem dX12_tell_8 : decode cX12_tell 8 = .ok (.bipush (-11), 2) := by decide +kernel
theorem dX12_tell_10 : decode cX12_tell 10 = .ok (.ireturn, 1) := by decide +kernel
theorem dX12_tell_11 : decode cX12_tell 11 = .ok (.aload_n 0, 1) := by decide +kernel
theorem dX12_tell_12 : decode cX12_tell 12 = .ok (.iconst 0, 1) := by decide +kernel
theorem dX12_tell_13 : decode cX12_tell 13 = .ok (.putfield 247, 3) := by decide +kernel
theorem dX12_tell_16 : decode cX12_tell 16 = .ok (.aload_n 0, 1) := by decide +kernel
theorem dX12_tell_17 : decode cX12_tell 17 = .ok (.iload_n 1, 1) := by decide +kernel
theorem dX12_tell_18 : decode cX12_tell 18 = .ok (.invokevirtual 253, 3) := by decide +kernel
theorem dX12_tell_21 : decode cX12_tell 21 = .ok (.aload_n 0, 1) := by decide +kernel
theorem dX12_tell_22 : decode cX12_tell 22 = .ok (.getfield 7, 3) := by decide +kernel
theorem dX12_tell_25 : decode cX12_tell 25 = .ok (.bipush 65, 2) := by decide +kernel
theorem dX12_tell_27 : decode cX12_tell 27 = .ok (.iload_n 1, 1) := by decide +kernel
theorem dX12_tell_28 : decode cX12_tell 28 = .ok (.iadd, 1) := by decide +kernel
theorem dX12_tell_29 : decode cX12_tell 29 = .ok (.iaload, 1) := by decide +kernel
theorem dX12_tell_30 : decode cX12_tell 30 = .ok (.ifCond .le 27, 3) := by decide +kernel
theorem dX12_tell_33 : decode cX12_tell 33 = .ok (.aload_n 0, 1) := by decide +kernel
theorem dX12_tell_34 : decode cX12_tell 34 = .ok (.aload_n 0, 1) := by decide +kernel
theorem dX12_tell_35 : decode cX12_tell 35 = .ok (.getfield 7, 3) := by decide +kernel
theorem dX12_tell_38 : decode cX12_tell 38 = .ok (.bipush 65, 2) := by decide +kernel
theorem dX12_tell_40 : decode cX12_tell 40 = .ok (.iload_n 1, 1) := by decide +kernel
theorem dX12_tell_41 : decode cX12_tell 41 = .ok (.iadd, 1) := by decide +kernel
theorem dX12_tell_42 : decode cX12_tell 42 = .ok (.iaload, 1) := by decide +kernel
theorem dX12_tell_43 : decode cX12_tell 43 = .ok (.iconst 1, 1) := by decide +kernel
theorem dX12_tell_44 : decode cX12_tell 44 = .ok (.if_icmp .ne 8, 3) := by decide +kernel
theorem dX12_tell_47 : decode cX12_tell 47 = .ok (.bipush 33, 2) := by decide +kernel
theorem dX12_tell_49 : decode cX12_tell 49 = .ok (.goto 5, 3) := by decide +kernel
theorem dX12_tell_52 : decode cX12_tell 52 = .ok (.bipush 63, 2) := by decide +kernel
theorem dX12_tell_54 : decode cX12_tell 54 = .ok (.invokevirtual 250, 3) := by decide +kernel
theorem dX12_tell_57 : decode cX12_tell 57 = .ok (.aload_n 0, 1) := by decide +kernel
theorem dX12_tell_58 : decode cX12_tell 58 = .ok (.bipush 58, 2) := by decide +kernel
theorem dX12_tell_60 : decode cX12_tell 60 = .ok (.invokevirtual 250, 3) := by decide +kernel
theorem dX12_tell_63 : decode cX12_tell 63 = .ok (.iconst 0, 1) := by decide +kernel
theorem dX12_tell_64 : decode cX12_tell 64 = .ok (.istore_n 2, 1) := by decide +kernel
theorem dX12_tell_65 : decode cX12_tell 65 = .ok (.iload_n 2, 1) := by decide +kernel
theorem dX12_tell_66 : decode cX12_tell 66 = .ok (.iconst 4, 1) := by decide +kernel
theorem dX12_tell_67 : decode cX12_tell 67 = .ok (.if_icmp .ge 57, 3) := by decide +kernel
theorem dX12_tell_70 : decode cX12_tell 70 = .ok (.iload_n 2, 1) := by decide +kernel
theorem dX12_tell_71 : decode cX12_tell 71 = .ok (.ifCond .le 9, 3) := by decide +kernel
theorem dX12_tell_74 : decode cX12_tell 74 = .ok (.aload_n 0, 1) := by decide +kernel
theorem dX12_tell_75 : decode cX12_tell 75 = .ok (.bipush 44, 2) := by decide +kernel
theorem dX12_tell_77 : decode cX12_tell 77 = .ok (.invokevirtual 250, 3) := by decide +kernel
theorem dX12_tell_80 : decode cX12_tell 80 = .ok (.aload_n 0, 1) := by decide +kernel
theorem dX12_tell_81 : decode cX12_tell 81 = .ok (.getfield 7, 3) := by decide +kernel
theorem dX12_tell_84 : decode cX12_tell 84 = .ok (.iload_n 1, 1) := by decide +kernel
theorem dX12_tell_85 : decode cX12_tell 85 = .ok (.iload_n 2, 1) := by decide +kernel
theorem dX12_tell_86 : decode cX12_tell 86 = .ok (.invokestatic 62, 3) := by decide +kernel
theorem dX12_tell_89 : decode cX12_tell 89 = .ok (.iaload, 1) := by decide +kernel
theorem dX12_tell_90 : decode cX12_tell 90 = .ok (.bipush (-15), 2) := by decide +kernel
theorem dX12_tell_92 : decode cX12_tell 92 = .ok (.if_icmp .ne 12, 3) := by decide +kernel
theorem dX12_tell_95 : decode cX12_tell 95 = .ok (.aload_n 0, 1) := by decide +kernel
theorem dX12_tell_96 : decode cX12_tell 96 = .ok (.bipush 45, 2) := by decide +kernel
theorem dX12_tell_98 : decode cX12_tell 98 = .ok (.invokevirtual 250, 3) := by decide +kernel
theorem dX12_tell_101 : decode cX12_tell 101 = .ok (.goto 17, 3) := by decide +kernel
theorem dX12_tell_104 : decode cX12_tell 104 = .ok (.aload_n 0, 1) := by decide +kernel
theorem dX12_tell_105 : decode cX12_tell 105 = .ok (.aload_n 0, 1) := by decide +kernel
theorem dX12_tell_106 : decode cX12_tell 106 = .ok (.getfield 7, 3) := by decide +kernel
theorem dX12_tell_109 : decode cX12_tell 109 = .ok (.iload_n 1, 1) := by decide +kernel
theorem dX12_tell_110 : decode cX12_tell 110 = .ok (.iload_n 2, 1) := by decide +kernel
theorem dX12_tell_111 : decode cX12_tell 111 = .ok (.invokestatic 62, 3) := by decide +kernel
theorem dX12_tell_114 : decode cX12_tell 114 = .ok (.iaload, 1) := by decide +kernel
theorem dX12_tell_115 : decode cX12_tell 115 = .ok (.invokevirtual 253, 3) := by decide +kernel
theorem dX12_tell_118 : decode cX12_tell 118 = .ok (.iinc 2 1, 3) := by decide +kernel
theorem dX12_tell_121 : decode cX12_tell 121 = .ok (.goto (-56), 3) := by decide +kernel
theorem dX12_tell_124 : decode cX12_tell 124 = .ok (.aload_n 0, 1) := by decide +kernel
theorem dX12_tell_125 : decode cX12_tell 125 = .ok (.getfield 7, 3) := by decide +kernel
theorem dX12_tell_128 : decode cX12_tell 128 = .ok (.bipush 113, 2) := by decide +kernel
theorem dX12_tell_130 : decode cX12_tell 130 = .ok (.iload_n 1, 1) := by decide +kernel
theorem dX12_tell_131 : decode cX12_tell 131 = .ok (.iadd, 1) := by decide +kernel
theorem dX12_tell_132 : decode cX12_tell 132 = .ok (.iaload, 1) := by decide +kernel
theorem dX12_tell_133 : decode cX12_tell 133 = .ok (.bipush (-15), 2) := by decide +kernel
theorem dX12_tell_135 : decode cX12_tell 135 = .ok (.if_icmp .ne 8, 3) := by decide +kernel
theorem dX12_tell_138 : decode cX12_tell 138 = .ok (.aload_n 0, 1) := by decide +kernel
theorem dX12_tell_139 : decode cX12_tell 139 = .ok (.getfield 247, 3) := by decide +kernel
theorem dX12_tell_142 : decode cX12_tell 142 = .ok (.ireturn, 1) := by decide +kernel
theorem dX12_tell_143 : decode cX12_tell 143 = .ok (.aload_n 0, 1) := by decide +kernel
theorem dX12_tell_144 : decode cX12_tell 144 = .ok (.bipush 126, 2) := by decide +kernel
theorem dX12_tell_146 : decode cX12_tell 146 = .ok (.invokevirtual 250, 3) := by decide +kernel
theorem dX12_tell_149 : decode cX12_tell 149 = .ok (.aload_n 0, 1) := by decide +kernel
theorem dX12_tell_150 : decode cX12_tell 150 = .ok (.aload_n 0, 1) := by decide +kernel
theorem dX12_tell_151 : decode cX12_tell 151 = .ok (.getfield 7, 3) := by decide +kernel
theorem dX12_tell_154 : decode cX12_tell 154 = .ok (.bipush 113, 2) := by decide +kernel
theorem dX12_tell_156 : decode cX12_tell 156 = .ok (.iload_n 1, 1) := by decide +kernel
theorem dX12_tell_157 : decode cX12_tell 157 = .ok (.iadd, 1) := by decide +kernel
theorem dX12_tell_158 : decode cX12_tell 158 = .ok (.iaload, 1) := by decide +kernel
theorem dX12_tell_159 : decode cX12_tell 159 = .ok (.invokevirtual 253, 3) := by decide +kernel
theorem dX12_tell_162 : decode cX12_tell 162 = .ok (.aload_n 0, 1) := by decide +kernel
theorem dX12_tell_163 : decode cX12_tell 163 = .ok (.getfield 247, 3) := by decide +kernel
theorem dX12_tell_166 : decode cX12_tell 166 = .ok (.ireturn, 1) := by decide +kernel
theorem dX12_tellHeap_0 : decode cX12_tellHeap 0 = .ok (.aload_n 0, 1) := by decide +kernel
theorem dX12_tellHeap_1 : decode cX12_tellHeap 1 = .ok (.iconst 0, 1) := by decide +kernel
theorem dX12_tellHeap_2 : decode cX12_tellHeap 2 = .ok (.putfield 247, 3) := by decide +kernel
theorem dX12_tellHeap_5 : decode cX12_tellHeap 5 = .ok (.iconst 0, 1) := by decide +kernel
theorem dX12_tellHeap_6 : decode cX12_tellHeap 6 = .ok (.istore_n 1, 1) := by decide +kernel
theorem dX12_tellHeap_7 : decode cX12_tellHeap 7 = .ok (.iload_n 1, 1) := by decide +kernel
theorem dX12_tellHeap_8 : decode cX12_tellHeap 8 = .ok (.bipush 24, 2) := by decide +kernel
theorem dX12_tellHeap_10 : decode cX12_tellHeap 10 = .ok (.if_icmp .ge 67, 3) := by decide +kernel
theorem dX12_tellHeap_13 : decode cX12_tellHeap 13 = .ok (.aload_n 0, 1) := by decide +kernel
theorem dX12_tellHeap_14 : decode cX12_tellHeap 14 = .ok (.aload_n 0, 1) := by decide +kernel
theorem dX12_tellHeap_15 : decode cX12_tellHeap 15 = .ok (.getfield 7, 3) := by decide +kernel
theorem dX12_tellHeap_18 : decode cX12_tellHeap 18 = .ok (.bipush 17, 2) := by decide +kernel
theorem dX12_tellHeap_20 : decode cX12_tellHeap 20 = .ok (.iload_n 1, 1) := by decide +kernel
theorem dX12_tellHeap_21 : decode cX12_tellHeap 21 = .ok (.iadd, 1) := by decide +kernel
theorem dX12_tellHeap_22 : decode cX12_tellHeap 22 = .ok (.iaload, 1) := by decide +kernel
theorem dX12_tellHeap_23 : decode cX12_tellHeap 23 = .ok (.ifCond .ne 8, 3) := by decide +kernel
theorem dX12_tellHeap_26 : decode cX12_tellHeap 26 = .ok (.bipush 46, 2) := by decide +kernel
theorem dX12_tellHeap_28 : decode cX12_tellHeap 28 = .ok (.goto 40, 3) := by decide +kernel
theorem dX12_tellHeap_31 : decode cX12_tellHeap 31 = .ok (.aload_n 0, 1) := by decide +kernel
theorem dX12_tellHeap_32 : decode cX12_tellHeap 32 = .ok (.getfield 7, 3) := by decide +kernel
theorem dX12_tellHeap_35 : decode cX12_tellHeap 35 = .ok (.bipush 41, 2) := by decide +kernel
theorem dX12_tellHeap_37 : decode cX12_tellHeap 37 = .ok (.iload_n 1, 1) := by decide +kernel
theorem dX12_tellHeap_38 : decode cX12_tellHeap 38 = .ok (.iadd, 1) := by decide +kernel
theorem dX12_tellHeap_39 : decode cX12_tellHeap 39 = .ok (.iaload, 1) := by decide +kernel
theorem dX12_tellHeap_40 : decode cX12_tellHeap 40 = .ok (.ifCond .ne 8, 3) := by decide +kernel
theorem dX12_tellHeap_43 : decode cX12_tellHeap 43 = .ok (.bipush 119, 2) := by decide +kernel
theorem dX12_tellHeap_45 : decode cX12_tellHeap 45 = .ok (.goto 23, 3) := by decide +kernel
theorem dX12_tellHeap_48 : decode cX12_tellHeap 48 = .ok (.aload_n 0, 1) := by decide +kernel
theorem dX12_tellHeap_49 : decode cX12_tellHeap 49 = .ok (.getfield 7, 3) := by decide +kernel
theorem dX12_tellHeap_52 : decode cX12_tellHeap 52 = .ok (.bipush 41, 2) := by decide +kernel
theorem dX12_tellHeap_54 : decode cX12_tellHeap 54 = .ok (.iload_n 1, 1) := by decide +kernel
theorem dX12_tellHeap_55 : decode cX12_tellHeap 55 = .ok (.iadd, 1) := by decide +kernel
theorem dX12_tellHeap_56 : decode cX12_tellHeap 56 = .ok (.iaload, 1) := by decide +kernel
theorem dX12_tellHeap_57 : decode cX12_tellHeap 57 = .ok (.iconst 1, 1) := by decide +kernel
theorem dX12_tellHeap_58 : decode cX12_tellHeap 58 = .ok (.if_icmp .ne 8, 3) := by decide +kernel
theorem dX12_tellHeap_61 : decode cX12_tellHeap 61 = .ok (.bipush 103, 2) := by decide +kernel
theorem dX12_tellHeap_63 : decode cX12_tellHeap 63 = .ok (.goto 5, 3) := by decide +kernel
theorem dX12_tellHeap_66 : decode cX12_tellHeap 66 = .ok (.bipush 98, 2) := by decide +kernel
theorem dX12_tellHeap_68 : decode cX12_tellHeap 68 = .ok (.invokevirtual 250, 3) := by decide +kernel
theorem dX12_tellHeap_71 : decode cX12_tellHeap 71 = .ok (.iinc 1 1, 3) := by decide +kernel
theorem dX12_tellHeap_74 : decode cX12_tellHeap 74 = .ok (.goto (-67), 3) := by decide +kernel
theorem dX12_tellHeap_77 : decode cX12_tellHeap 77 = .ok (.aload_n 0, 1) := by decide +kernel
theorem dX12_tellHeap_78 : decode cX12_tellHeap 78 = .ok (.getfield 247, 3) := by decide +kernel
theorem dX12_tellHeap_81 : decode cX12_tellHeap 81 = .ok (.ireturn, 1) := by decide +kernel
theorem dX12_character_0 : decode cX12_character 0 = .ok (.iload_n 1, 1) := by decide +kernel
theorem dX12_character_1 : decode cX12_character 1 = .ok (.iconst 0, 1) := by decide +kernel
theorem dX12_character_2 : decode cX12_character 2 = .ok (.aload_n 0, 1) := by decide +kernel
theorem dX12_character_3 : decode cX12_character 3 = .ok (.getfield 247, 3) := by decide +kernel
theorem dX12_character_6 : decode cX12_character 6 = .ok (.iconst 1, 1) := by decide +kernel
theorem dX12_character_7 : decode cX12_character 7 = .ok (.isub, 1) := by decide +kernel
theorem dX12_character_8 : decode cX12_character 8 = .ok (.invokestatic 58, 3) := by decide +kernel
theorem dX12_character_11 : decode cX12_character 11 = .ok (.ifCond .eq 12, 3) := by decide +kernel
theorem dX12_character_14 : decode cX12_character 14 = .ok (.aload_n 0, 1) := by decide +kernel
theorem dX12_character_15 : decode cX12_character 15 = .ok (.getfield 28, 3) := by decide +kernel
theorem dX12_character_18 : decode cX12_character 18 = .ok (.iload_n 1, 1) := by decide +kernel
theorem dX12_character_19 : decode cX12_character 19 = .ok (.iaload, 1) := by decide +kernel
theorem dX12_character_20 : decode cX12_character 20 = .ok (.goto 5, 3) := by decide +kernel
theorem dX12_character_23 : decode cX12_character 23 = .ok (.bipush (-11), 2) := by decide +kernel
theorem dX12_character_25 : decode cX12_character 25 = .ok (.ireturn, 1) := by decide +kernel
theorem dX12_reason_0 : decode cX12_reason 0 = .ok (.aload_n 0, 1) := by decide +kernel
theorem dX12_reason_1 : decode cX12_reason 1 = .ok (.getfield 52, 3) := by decide +kernel
theorem dX12_reason_4 : decode cX12_reason 4 = .ok (.ifCond .ne 8, 3) := by decide +kernel
theorem dX12_reason_7 : decode cX12_reason 7 = .ok (.bipush (-15), 2) := by decide +kernel
theorem dX12_reason_9 : decode cX12_reason 9 = .ok (.goto 18, 3) := by decide +kernel
theorem dX12_reason_12 : decode cX12_reason 12 = .ok (.iload_n 1, 1) := by decide +kernel
theorem dX12_reason_13 : decode cX12_reason 13 = .ok (.ifCond .eq 10, 3) := by decide +kernel
theorem dX12_reason_16 : decode cX12_reason 16 = .ok (.aload_n 0, 1) := by decide +kernel
theorem dX12_reason_17 : decode cX12_reason 17 = .ok (.getfield 55, 3) := by decide +kernel
theorem dX12_reason_20 : decode cX12_reason 20 = .ok (.goto 7, 3) := by decide +kernel
theorem dX12_reason_23 : decode cX12_reason 23 = .ok (.aload_n 0, 1) := by decide +kernel
theorem dX12_reason_24 : decode cX12_reason 24 = .ok (.getfield 52, 3) := by decide +kernel
theorem dX12_reason_27 : decode cX12_reason 27 = .ok (.ireturn, 1) := by decide +kernel
theorem dX12_manyUrns_0 : decode cX12_manyUrns 0 = .ok (.iconst 0, 1) := by decide +kernel
theorem dX12_manyUrns_1 : decode cX12_manyUrns 1 = .ok (.istore_n 1, 1) := by decide +kernel
theorem dX12_manyUrns_2 : decode cX12_manyUrns 2 = .ok (.iconst 0, 1) := by decide +kernel
theorem dX12_manyUrns_3 : decode cX12_manyUrns 3 = .ok (.istore_n 2, 1) := by decide +kernel
theorem dX12_manyUrns_4 : decode cX12_manyUrns 4 = .ok (.iload_n 2, 1) := by decide +kernel
theorem dX12_manyUrns_5 : decode cX12_manyUrns 5 = .ok (.bipush 24, 2) := by decide +kernel
theorem dX12_manyUrns_7 : decode cX12_manyUrns 7 = .ok (.if_icmp .ge 21, 3) := by decide +kernel
theorem dX12_manyUrns_10 : decode cX12_manyUrns 10 = .ok (.iload_n 1, 1) := by decide +kernel
theorem dX12_manyUrns_11 : decode cX12_manyUrns 11 = .ok (.aload_n 0, 1) := by decide +kernel
theorem dX12_manyUrns_12 : decode cX12_manyUrns 12 = .ok (.getfield 7, 3) := by decide +kernel
theorem dX12_manyUrns_15 : decode cX12_manyUrns 15 = .ok (.bipush 17, 2) := by decide +kernel
theorem dX12_manyUrns_17 : decode cX12_manyUrns 17 = .ok (.iload_n 2, 1) := by decide +kernel
theorem dX12_manyUrns_18 : decode cX12_manyUrns 18 = .ok (.iadd, 1) := by decide +kernel
theorem dX12_manyUrns_19 : decode cX12_manyUrns 19 = .ok (.iaload, 1) := by decide +kernel
theorem dX12_manyUrns_20 : decode cX12_manyUrns 20 = .ok (.iadd, 1) := by decide +kernel
theorem dX12_manyUrns_21 : decode cX12_manyUrns 21 = .ok (.istore_n 1, 1) := by decide +kernel
theorem dX12_manyUrns_22 : decode cX12_manyUrns 22 = .ok (.iinc 2 1, 3) := by decide +kernel
theorem dX12_manyUrns_25 : decode cX12_manyUrns 25 = .ok (.goto (-21), 3) := by decide +kernel
theorem dX12_manyUrns_28 : decode cX12_manyUrns 28 = .ok (.iload_n 1, 1) := by decide +kernel
theorem dX12_manyUrns_29 : decode cX12_manyUrns 29 = .ok (.ireturn, 1) := by decide +kernel
theorem dX12_manyThat_0 : decode cX12_manyThat 0 = .ok (.iconst 0, 1) := by decide +kernel
theorem dX12_manyThat_1 : decode cX12_manyThat 1 = .ok (.istore_n 2, 1) := by decide +kernel
theorem dX12_manyThat_2 : decode cX12_manyThat 2 = .ok (.iconst 0, 1) := by decide +kernel
theorem dX12_manyThat_3 : decode cX12_manyThat 3 = .ok (.istore_n 3, 1) := by decide +kernel
theorem dX12_manyThat_4 : decode cX12_manyThat 4 = .ok (.iload_n 3, 1) := by decide +kernel
theorem dX12_manyThat_5 : decode cX12_manyThat 5 = .ok (.bipush 24, 2) := by decide +kernel
theorem dX12_manyThat_7 : decode cX12_manyThat 7 = .ok (.if_icmp .ge 43, 3) := by decide +kernel
theorem dX12_manyThat_10 : decode cX12_manyThat 10 = .ok (.iload_n 2, 1) := by decide +kernel
theorem dX12_manyThat_11 : decode cX12_manyThat 11 = .ok (.aload_n 0, 1) := by decide +kernel
theorem dX12_manyThat_12 : decode cX12_manyThat 12 = .ok (.getfield 7, 3) := by decide +kernel
theorem dX12_manyThat_15 : decode cX12_manyThat 15 = .ok (.bipush 17, 2) := by decide +kernel
theorem dX12_manyThat_17 : decode cX12_manyThat 17 = .ok (.iload_n 3, 1) := by decide +kernel
theorem dX12_manyThat_18 : decode cX12_manyThat 18 = .ok (.iadd, 1) := by decide +kernel
theorem dX12_manyThat_19 : decode cX12_manyThat 19 = .ok (.iaload, 1) := by decide +kernel
theorem dX12_manyThat_20 : decode cX12_manyThat 20 = .ok (.iconst 1, 1) := by decide +kernel
theorem dX12_manyThat_21 : decode cX12_manyThat 21 = .ok (.if_icmp .ne 20, 3) := by decide +kernel
theorem dX12_manyThat_24 : decode cX12_manyThat 24 = .ok (.aload_n 0, 1) := by decide +kernel
theorem dX12_manyThat_25 : decode cX12_manyThat 25 = .ok (.getfield 7, 3) := by decide +kernel
theorem dX12_manyThat_28 : decode cX12_manyThat 28 = .ok (.bipush 41, 2) := by decide +kernel
theorem dX12_manyThat_30 : decode cX12_manyThat 30 = .ok (.iload_n 3, 1) := by decide +kernel
theorem dX12_manyThat_31 : decode cX12_manyThat 31 = .ok (.iadd, 1) := by decide +kernel
theorem dX12_manyThat_32 : decode cX12_manyThat 32 = .ok (.iaload, 1) := by decide +kernel
theorem dX12_manyThat_33 : decode cX12_manyThat 33 = .ok (.iload_n 1, 1) := by decide +kernel
theorem dX12_manyThat_34 : decode cX12_manyThat 34 = .ok (.if_icmp .ne 7, 3) := by decide +kernel
theorem dX12_manyThat_37 : decode cX12_manyThat 37 = .ok (.iconst 1, 1) := by decide +kernel
theorem dX12_manyThat_38 : decode cX12_manyThat 38 = .ok (.goto 4, 3) := by decide +kernel
theorem dX12_manyThat_41 : decode cX12_manyThat 41 = .ok (.iconst 0, 1) := by decide +kernel
theorem dX12_manyThat_42 : decode cX12_manyThat 42 = .ok (.iadd, 1) := by decide +kernel
theorem dX12_manyThat_43 : decode cX12_manyThat 43 = .ok (.istore_n 2, 1) := by decide +kernel
theorem dX12_manyThat_44 : decode cX12_manyThat 44 = .ok (.iinc 3 1, 3) := by decide +kernel
theorem dX12_manyThat_47 : decode cX12_manyThat 47 = .ok (.goto (-43), 3) := by decide +kernel
theorem dX12_manyThat_50 : decode cX12_manyThat 50 = .ok (.iload_n 2, 1) := by decide +kernel
theorem dX12_manyThat_51 : decode cX12_manyThat 51 = .ok (.ireturn, 1) := by decide +kernel
theorem dX12_namesUsed_0 : decode cX12_namesUsed 0 = .ok (.iconst 0, 1) := by decide +kernel
theorem dX12_namesUsed_1 : decode cX12_namesUsed 1 = .ok (.istore_n 1, 1) := by decide +kernel
theorem dX12_namesUsed_2 : decode cX12_namesUsed 2 = .ok (.iconst 0, 1) := by decide +kernel
theorem dX12_namesUsed_3 : decode cX12_namesUsed 3 = .ok (.istore_n 2, 1) := by decide +kernel
theorem dX12_namesUsed_4 : decode cX12_namesUsed 4 = .ok (.iload_n 2, 1) := by decide +kernel
theorem dX12_namesUsed_5 : decode cX12_namesUsed 5 = .ok (.bipush 6, 2) := by decide +kernel
theorem dX12_namesUsed_7 : decode cX12_namesUsed 7 = .ok (.if_icmp .ge 31, 3) := by decide +kernel
theorem dX12_namesUsed_10 : decode cX12_namesUsed 10 = .ok (.iload_n 1, 1) := by decide +kernel
theorem dX12_namesUsed_11 : decode cX12_namesUsed 11 = .ok (.aload_n 0, 1) := by decide +kernel
theorem dX12_namesUsed_12 : decode cX12_namesUsed 12 = .ok (.getfield 7, 3) := by decide +kernel
theorem dX12_namesUsed_15 : decode cX12_namesUsed 15 = .ok (.bipush 11, 2) := by decide +kernel
theorem dX12_namesUsed_17 : decode cX12_namesUsed 17 = .ok (.iload_n 2, 1) := by decide +kernel
theorem dX12_namesUsed_18 : decode cX12_namesUsed 18 = .ok (.iadd, 1) := by decide +kernel
theorem dX12_namesUsed_19 : decode cX12_namesUsed 19 = .ok (.iaload, 1) := by decide +kernel
theorem dX12_namesUsed_20 : decode cX12_namesUsed 20 = .ok (.bipush (-15), 2) := by decide +kernel
theorem dX12_namesUsed_22 : decode cX12_namesUsed 22 = .ok (.if_icmp .ne 7, 3) := by decide +kernel
theorem dX12_namesUsed_25 : decode cX12_namesUsed 25 = .ok (.iconst 0, 1) := by decide +kernel
theorem dX12_namesUsed_26 : decode cX12_namesUsed 26 = .ok (.goto 4, 3) := by decide +kernel
theorem dX12_namesUsed_29 : decode cX12_namesUsed 29 = .ok (.iconst 1, 1) := by decide +kernel
theorem dX12_namesUsed_30 : decode cX12_namesUsed 30 = .ok (.iadd, 1) := by decide +kernel
theorem dX12_namesUsed_31 : decode cX12_namesUsed 31 = .ok (.istore_n 1, 1) := by decide +kernel
theorem dX12_namesUsed_32 : decode cX12_namesUsed 32 = .ok (.iinc 2 1, 3) := by decide +kernel
theorem dX12_namesUsed_35 : decode cX12_namesUsed 35 = .ok (.goto (-31), 3) := by decide +kernel
theorem dX12_namesUsed_38 : decode cX12_namesUsed 38 = .ok (.iload_n 1, 1) := by decide +kernel
theorem dX12_namesUsed_39 : decode cX12_namesUsed 39 = .ok (.ireturn, 1) := by decide +kernel
theorem dX12_account_0 : decode cX12_account 0 = .ok (.iload_n 1, 1) := by decide +kernel
theorem dX12_account_1 : decode cX12_account 1 = .ok (.iconst 4, 1) := by decide +kernel
theorem dX12_account_2 : decode cX12_account 2 = .ok (.bipush 6, 2) := by decide +kernel
theorem dX12_account_4 : decode cX12_account 4 = .ok (.invokestatic 58, 3) := by decide +kernel
theorem dX12_account_7 : decode cX12_account 7 = .ok (.ifCond .eq 11, 3) := by decide +kernel
theorem dX12_account_10 : decode cX12_account 10 = .ok (.aload_n 0, 1) := by decide +kernel
theorem dX12_account_11 : decode cX12_account 11 = .ok (.iload_n 1, 1) := by decide +kernel
theorem dX12_account_12 : decode cX12_account 12 = .ok (.iconst 4, 1) := by decide +kernel
theorem dX12_account_13 : decode cX12_account 13 = .ok (.isub, 1) := by decide +kernel
theorem dX12_account_14 : decode cX12_account 14 = .ok (.invokevirtual 256, 3) := by decide +kernel
theorem dX12_account_17 : decode cX12_account 17 = .ok (.ireturn, 1) := by decide +kernel
theorem dX12_account_18 : decode cX12_account 18 = .ok (.iload_n 1, 1) := by decide +kernel
theorem dX12_account_19 : decode cX12_account 19 = .ok (.tableswitch 163 0 15 #[77, 84, 91, 98, 163, 163, 163, 103, 110, 117, 125, 132, 140, 145, 153, 158], 77) := by decide +kernel
theorem dX12_account_96 : decode cX12_account 96 = .ok (.aload_n 0, 1) := by decide +kernel
theorem dX12_account_97 : decode cX12_account 97 = .ok (.getfield 7, 3) := by decide +kernel
theorem dX12_account_100 : decode cX12_account 100 = .ok (.iconst 2, 1) := by decide +kernel
theorem dX12_account_101 : decode cX12_account 101 = .ok (.iaload, 1) := by decide +kernel
theorem dX12_account_102 : decode cX12_account 102 = .ok (.ireturn, 1) := by decide +kernel
theorem dX12_account_103 : decode cX12_account 103 = .ok (.aload_n 0, 1) := by decide +kernel
theorem dX12_account_104 : decode cX12_account 104 = .ok (.getfield 7, 3) := by decide +kernel
theorem dX12_account_107 : decode cX12_account 107 = .ok (.iconst 0, 1) := by decide +kernel
theorem dX12_account_108 : decode cX12_account 108 = .ok (.iaload, 1) := by decide +kernel
theorem dX12_account_109 : decode cX12_account 109 = .ok (.ireturn, 1) := by decide +kernel
theorem dX12_account_110 : decode cX12_account 110 = .ok (.aload_n 0, 1) := by decide +kernel
theorem dX12_account_111 : decode cX12_account 111 = .ok (.getfield 7, 3) := by decide +kernel
theorem dX12_account_114 : decode cX12_account 114 = .ok (.iconst 1, 1) := by decide +kernel
theorem dX12_account_115 : decode cX12_account 115 = .ok (.iaload, 1) := by decide +kernel
theorem dX12_account_116 : decode cX12_account 116 = .ok (.ireturn, 1) := by decide +kernel
theorem dX12_account_117 : decode cX12_account 117 = .ok (.aload_n 0, 1) := by decide +kernel
theorem dX12_account_118 : decode cX12_account 118 = .ok (.invokevirtual 259, 3) := by decide +kernel
theorem dX12_account_121 : decode cX12_account 121 = .ok (.ireturn, 1) := by decide +kernel
theorem dX12_account_122 : decode cX12_account 122 = .ok (.aload_n 0, 1) := by decide +kernel
theorem dX12_account_123 : decode cX12_account 123 = .ok (.getfield 7, 3) := by decide +kernel
theorem dX12_account_126 : decode cX12_account 126 = .ok (.iconst 3, 1) := by decide +kernel
theorem dX12_account_127 : decode cX12_account 127 = .ok (.iaload, 1) := by decide +kernel
theorem dX12_account_128 : decode cX12_account 128 = .ok (.ireturn, 1) := by decide +kernel
theorem dX12_account_129 : decode cX12_account 129 = .ok (.aload_n 0, 1) := by decide +kernel
theorem dX12_account_130 : decode cX12_account 130 = .ok (.getfield 7, 3) := by decide +kernel
theorem dX12_account_133 : decode cX12_account 133 = .ok (.iconst 4, 1) := by decide +kernel
theorem dX12_account_134 : decode cX12_account 134 = .ok (.iaload, 1) := by decide +kernel
theorem dX12_account_135 : decode cX12_account 135 = .ok (.ireturn, 1) := by decide +kernel
theorem dX12_account_136 : decode cX12_account 136 = .ok (.aload_n 0, 1) := by decide +kernel
theorem dX12_account_137 : decode cX12_account 137 = .ok (.getfield 7, 3) := by decide +kernel
theorem dX12_account_140 : decode cX12_account 140 = .ok (.bipush 9, 2) := by decide +kernel
theorem dX12_account_142 : decode cX12_account 142 = .ok (.iaload, 1) := by decide +kernel
theorem dX12_account_143 : decode cX12_account 143 = .ok (.ireturn, 1) := by decide +kernel
theorem dX12_account_144 : decode cX12_account 144 = .ok (.aload_n 0, 1) := by decide +kernel
theorem dX12_account_145 : decode cX12_account 145 = .ok (.getfield 7, 3) := by decide +kernel
theorem dX12_account_148 : decode cX12_account 148 = .ok (.iconst 5, 1) := by decide +kernel
theorem dX12_account_149 : decode cX12_account 149 = .ok (.iaload, 1) := by decide +kernel
theorem dX12_account_150 : decode cX12_account 150 = .ok (.ireturn, 1) := by decide +kernel
theorem dX12_account_151 : decode cX12_account 151 = .ok (.aload_n 0, 1) := by decide +kernel
theorem dX12_account_152 : decode cX12_account 152 = .ok (.getfield 7, 3) := by decide +kernel
theorem dX12_account_155 : decode cX12_account 155 = .ok (.bipush 6, 2) := by decide +kernel
theorem dX12_account_157 : decode cX12_account 157 = .ok (.iaload, 1) := by decide +kernel
theorem dX12_account_158 : decode cX12_account 158 = .ok (.ireturn, 1) := by decide +kernel
theorem dX12_account_159 : decode cX12_account 159 = .ok (.aload_n 0, 1) := by decide +kernel
theorem dX12_account_160 : decode cX12_account 160 = .ok (.invokevirtual 262, 3) := by decide +kernel
theorem dX12_account_163 : decode cX12_account 163 = .ok (.ireturn, 1) := by decide +kernel
theorem dX12_account_164 : decode cX12_account 164 = .ok (.aload_n 0, 1) := by decide +kernel
theorem dX12_account_165 : decode cX12_account 165 = .ok (.getfield 7, 3) := by decide +kernel
theorem dX12_account_168 : decode cX12_account 168 = .ok (.bipush 7, 2) := by decide +kernel
theorem dX12_account_170 : decode cX12_account 170 = .ok (.iaload, 1) := by decide +kernel
theorem dX12_account_171 : decode cX12_account 171 = .ok (.ireturn, 1) := by decide +kernel
theorem dX12_account_172 : decode cX12_account 172 = .ok (.aload_n 0, 1) := by decide +kernel
theorem dX12_account_173 : decode cX12_account 173 = .ok (.getfield 173, 3) := by decide +kernel
theorem dX12_account_176 : decode cX12_account 176 = .ok (.ireturn, 1) := by decide +kernel
theorem dX12_account_177 : decode cX12_account 177 = .ok (.aload_n 0, 1) := by decide +kernel
theorem dX12_account_178 : decode cX12_account 178 = .ok (.getfield 38, 3) := by decide +kernel
theorem dX12_account_181 : decode cX12_account 181 = .ok (.ireturn, 1) := by decide +kernel
theorem dX12_account_182 : decode cX12_account 182 = .ok (.bipush (-12), 2) := by decide +kernel
theorem dX12_account_184 : decode cX12_account 184 = .ok (.ireturn, 1) := by decide +kernel
def f_X12_does (μ : mu_T) (a1 : Int) : Option (Int × mu_T) :=
  rd_ μ 6 80 ((4 * a1) + 1) (fun v9 => rd_ μ 6 80 ((4 * a1) + 2) (fun v20 => rd_ μ 6 80 (4 * a1) (fun v29 => ts_ v29 [117, 116, 118, 110, 100, 119, 114, 115] [eq_ v9 1
      (bp_ (f_X12_makes μ 1) (fun v135 μ135 => some (v135, μ135)))
      (bp_ (f_X12_makes μ 0) (fun v135 μ135 => some (v135, μ135))),
      rd_ μ 6 80 ((4 * a1) + 3) (fun v151 => bp_ (f_X12_ties μ v9 v20 v151) (fun v152 μ152 => some (v152, μ152))),
      bp_ (f_X12_unties μ v9 v20) (fun v159 μ159 => some (v159, μ159)),
      bp_ (f_X12_names μ v9 v20) (fun v166 μ166 => some (v166, μ166)),
      bp_ (f_X12_drops μ v9) (fun v172 μ172 => some (v172, μ172)),
      bp_ (f_X12_weakens μ v9 v20) (fun v179 μ179 => some (v179, μ179)),
      bp_ (f_X12_wholeRound μ) (fun v184 μ184 => some (v184, μ184)),
      bp_ (f_X12_stepsOn μ v9) (fun v190 μ190 => some (v190, μ190))]
      (bp_ (f_X12_doesRite μ) (fun v195 μ195 => some (v195, μ195))))))
set_option maxHeartbeats 4000000 in
set_option maxRecDepth 100000 in
theorem c_X12_does {G : gp_} {ad : Nat → Nat} (μ : mu_T) (a1 : Int) (a : Int) (μr : mu_T) (h : f_X12_does μ a1 = some (a, μr)) : mi_ yX12_does cX12_does 4 (some .int) ({ frames := 7, cells := 0, slots := 0, locals := 152 } : Room) G 9 ad (ceM G ad) [.ref (ad 0), .int (iI a1)] μ a μr := by
  refine mi_in (own := "UrnHeapModel") (lv := [(0, .ref (ad 0)), (1, .int (iI a1))]) (by decide) rfl rfl (Nat.le_of_ble_eq_true rfl) (fun X C E => ?_)
  unfold f_X12_does at h
  refine xx_aload_n C 1 rfl 0 dX12_does_0 rfl rfl ?_
  refine xx_getr (fi := 7) C 4 rfl (by decide) (ceM_0 _ _ _) rfl in_X12 (by decide) rfl w_1186 dX12_does_1 ?_
  refine xx_iconst C 5 rfl dX12_does_4 ?_
  refine xx_iload_n C 6 rfl 1 dX12_does_5 rfl rfl ?_
  refine xx_imul C 7 rfl dX12_does_6 ?_
  refine xx_iconst C 8 rfl dX12_does_7 ?_
  refine xx_iadd C 9 rfl dX12_does_8 ?_
  refine xx_iaload C 10 rfl (by decide) (fun _ => rfl) (by decide) dX12_does_9 h (fun v9 h => ?_)
  refine xx_istore_n (lv1 := [(2, .int (iI v9)), (0, .ref (ad 0)), (1, .int (iI a1))]) C 11 rfl (by decide) dX12_does_10 rfl rfl ?_
  refine xx_aload_n C 12 rfl 1 dX12_does_11 rfl rfl ?_
  refine xx_getr (fi := 7) C 15 rfl (by decide) (ceM_0 _ _ _) rfl in_X12 (by decide) rfl w_1186 dX12_does_12 ?_
  refine xx_iconst C 16 rfl dX12_does_15 ?_
  refine xx_iload_n C 17 rfl 2 dX12_does_16 rfl rfl ?_
  refine xx_imul C 18 rfl dX12_does_17 ?_
  refine xx_iconst C 19 rfl dX12_does_18 ?_
  refine xx_iadd C 20 rfl dX12_does_19 ?_
  refine xx_iaload C 21 rfl (by decide) (fun _ => rfl) (by decide) dX12_does_20 h (fun v20 h => ?_)
  refine xx_istore_n (lv1 := [(3, .int (iI v20)), (2, .int (iI v9)), (0, .ref (ad 0)), (1, .int (iI a1))]) C 22 rfl (by decide) dX12_does_21 rfl rfl ?_
  refine xx_aload_n C 23 rfl 2 dX12_does_22 rfl rfl ?_
  refine xx_getr (fi := 7) C 26 rfl (by decide) (ceM_0 _ _ _) rfl in_X12 (by decide) rfl w_1186 dX12_does_23 ?_
  refine xx_iconst C 27 rfl dX12_does_26 ?_
  refine xx_iload_n C 28 rfl 3 dX12_does_27 rfl rfl ?_
  refine xx_imul C 29 rfl dX12_does_28 ?_
  refine xx_iaload C 30 rfl (by decide) (fun _ => rfl) (by decide) dX12_does_29 h (fun v29 h => ?_)
  refine xx_tsw C [117, 116, 118, 110, 100, 119, 114, 115] _ [124, 139, 156, 163, 170, 176, 183, 188] 194 dX12_does_30 (by decide) rfl h (fun h => ?_) ⟨fun h => ?_, fun h => ?_, fun h => ?_, fun h => ?_, fun h => ?_, fun h => ?_, fun h => ?_, fun h => ?_, trivial⟩
  · refine xx_aload_n C 195 rfl 2 dX12_does_194 rfl rfl ?_
    refine xx_cVi (As := []) (st := []) (o := 0) C 198 rfl (by decide) (ceM_0 _ _ _) rfl rfl ca_X12_doesRite cv_X12_doesRite w_1407 rfl ⟨Nat.le_of_ble_eq_true rfl, Nat.le_of_ble_eq_true rfl⟩ ⟨Nat.le_of_ble_eq_true rfl, Nat.le_of_ble_eq_true rfl⟩ (Nat.le_of_ble_eq_true rfl) dX12_does_195 (fun v195 μ195 e9 => c_X12_doesRite _ v195 μ195 e9) h (fun v195 μ195 h => ?_) rfl
    exact xx_iret C E rfl ⟨Nat.le_of_ble_eq_true rfl, Nat.le_of_ble_eq_true rfl⟩ dX12_does_198 h
  · refine xx_aload_n C 125 rfl 2 dX12_does_124 rfl rfl ?_
    refine xx_iload_n C 126 rfl 1 dX12_does_125 rfl rfl ?_
    refine xx_iconst C 127 rfl dX12_does_126 ?_
    refine xx_icmp_ne (tgt := 134) C 130 rfl dX12_does_127 (by decide) h (fun h => ?_) (fun h => ?_)
    · refine xx_iconst C 135 rfl dX12_does_134 ?_
      refine xx_cVi (As := [.int (iI 0)]) (st := []) (o := 0) C 138 rfl (by decide) (ceM_0 _ _ _) rfl rfl ca_X12_makes cv_X12_makes w_1248 rfl ⟨Nat.le_of_ble_eq_true rfl, Nat.le_of_ble_eq_true rfl⟩ ⟨Nat.le_of_ble_eq_true rfl, Nat.le_of_ble_eq_true rfl⟩ (Nat.le_of_ble_eq_true rfl) dX12_does_135 (fun v135 μ135 e9 => c_X12_makes _ _ v135 μ135 e9) h (fun v135 μ135 h => ?_) rfl
      exact xx_iret C E rfl ⟨Nat.le_of_ble_eq_true rfl, Nat.le_of_ble_eq_true rfl⟩ dX12_does_138 h
    · refine xx_iconst C 131 rfl dX12_does_130 ?_
      refine xx_goto C 135 dX12_does_131 (by decide) ?_
      refine xx_cVi (As := [.int (iI 1)]) (st := []) (o := 0) C 138 rfl (by decide) (ceM_0 _ _ _) rfl rfl ca_X12_makes cv_X12_makes w_1248 rfl ⟨Nat.le_of_ble_eq_true rfl, Nat.le_of_ble_eq_true rfl⟩ ⟨Nat.le_of_ble_eq_true rfl, Nat.le_of_ble_eq_true rfl⟩ (Nat.le_of_ble_eq_true rfl) dX12_does_135 (fun v135 μ135 e9 => c_X12_makes _ _ v135 μ135 e9) h (fun v135 μ135 h => ?_) rfl
      exact xx_iret C E rfl ⟨Nat.le_of_ble_eq_true rfl, Nat.le_of_ble_eq_true rfl⟩ dX12_does_138 h
  · refine xx_aload_n C 140 rfl 2 dX12_does_139 rfl rfl ?_
    refine xx_iload_n C 141 rfl 1 dX12_does_140 rfl rfl ?_
    refine xx_iload_n C 142 rfl 0 dX12_does_141 rfl rfl ?_
    refine xx_aload_n C 143 rfl 2 dX12_does_142 rfl rfl ?_
    refine xx_getr (fi := 7) C 146 rfl (by decide) (ceM_0 _ _ _) rfl in_X12 (by decide) rfl w_1186 dX12_does_143 ?_
    refine xx_iconst C 147 rfl dX12_does_146 ?_
    refine xx_iload_n C 148 rfl 3 dX12_does_147 rfl rfl ?_
    refine xx_imul C 149 rfl dX12_does_148 ?_
    refine xx_iconst C 150 rfl dX12_does_149 ?_
    refine xx_iadd C 151 rfl dX12_does_150 ?_
    refine xx_iaload C 152 rfl (by decide) (fun _ => rfl) (by decide) dX12_does_151 h (fun v151 h => ?_)
    refine xx_cVi (As := [.int (iI v9), .int (iI v20), .int (iI v151)]) (st := []) (o := 0) C 155 rfl (by decide) (ceM_0 _ _ _) rfl rfl ca_X12_ties cv_X12_ties w_1272 rfl ⟨Nat.le_of_ble_eq_true rfl, Nat.le_of_ble_eq_true rfl⟩ ⟨Nat.le_of_ble_eq_true rfl, Nat.le_of_ble_eq_true rfl⟩ (Nat.le_of_ble_eq_true rfl) dX12_does_152 (fun v152 μ152 e9 => c_X12_ties _ _ _ _ v152 μ152 e9) h (fun v152 μ152 h => ?_) rfl
    exact xx_iret C E rfl ⟨Nat.le_of_ble_eq_true rfl, Nat.le_of_ble_eq_true rfl⟩ dX12_does_155 h
  · refine xx_aload_n C 157 rfl 2 dX12_does_156 rfl rfl ?_
    refine xx_iload_n C 158 rfl 1 dX12_does_157 rfl rfl ?_
    refine xx_iload_n C 159 rfl 0 dX12_does_158 rfl rfl ?_
    refine xx_cVi (As := [.int (iI v9), .int (iI v20)]) (st := []) (o := 0) C 162 rfl (by decide) (ceM_0 _ _ _) rfl rfl ca_X12_unties cv_X12_unties w_1299 rfl ⟨Nat.le_of_ble_eq_true rfl, Nat.le_of_ble_eq_true rfl⟩ ⟨Nat.le_of_ble_eq_true rfl, Nat.le_of_ble_eq_true rfl⟩ (Nat.le_of_ble_eq_true rfl) dX12_does_159 (fun v159 μ159 e9 => c_X12_unties _ _ _ v159 μ159 e9) h (fun v159 μ159 h => ?_) rfl
    exact xx_iret C E rfl ⟨Nat.le_of_ble_eq_true rfl, Nat.le_of_ble_eq_true rfl⟩ dX12_does_162 h
  · refine xx_aload_n C 164 rfl 2 dX12_does_163 rfl rfl ?_
    refine xx_iload_n C 165 rfl 1 dX12_does_164 rfl rfl ?_
    refine xx_iload_n C 166 rfl 0 dX12_does_165 rfl rfl ?_
    refine xx_cVi (As := [.int (iI v9), .int (iI v20)]) (st := []) (o := 0) C 169 rfl (by decide) (ceM_0 _ _ _) rfl rfl ca_X12_names cv_X12_names w_1319 rfl ⟨Nat.le_of_ble_eq_true rfl, Nat.le_of_ble_eq_true rfl⟩ ⟨Nat.le_of_ble_eq_true rfl, Nat.le_of_ble_eq_true rfl⟩ (Nat.le_of_ble_eq_true rfl) dX12_does_166 (fun v166 μ166 e9 => c_X12_names _ _ _ v166 μ166 e9) h (fun v166 μ166 h => ?_) rfl
    exact xx_iret C E rfl ⟨Nat.le_of_ble_eq_true rfl, Nat.le_of_ble_eq_true rfl⟩ dX12_does_169 h
  · refine xx_aload_n C 171 rfl 2 dX12_does_170 rfl rfl ?_
    refine xx_iload_n C 172 rfl 1 dX12_does_171 rfl rfl ?_
    refine xx_cVi (As := [.int (iI v9)]) (st := []) (o := 0) C 175 rfl (by decide) (ceM_0 _ _ _) rfl rfl ca_X12_drops cv_X12_drops w_1327 rfl ⟨Nat.le_of_ble_eq_true rfl, Nat.le_of_ble_eq_true rfl⟩ ⟨Nat.le_of_ble_eq_true rfl, Nat.le_of_ble_eq_true rfl⟩ (Nat.le_of_ble_eq_true rfl) dX12_does_172 (fun v172 μ172 e9 => c_X12_drops _ _ v172 μ172 e9) h (fun v172 μ172 h => ?_) rfl
    exact xx_iret C E rfl ⟨Nat.le_of_ble_eq_true rfl, Nat.le_of_ble_eq_true rfl⟩ dX12_does_175 h
  · refine xx_aload_n C 177 rfl 2 dX12_does_176 rfl rfl ?_
    refine xx_iload_n C 178 rfl 1 dX12_does_177 rfl rfl ?_
    refine xx_iload_n C 179 rfl 0 dX12_does_178 rfl rfl ?_
    refine xx_cVi (As := [.int (iI v9), .int (iI v20)]) (st := []) (o := 0) C 182 rfl (by decide) (ceM_0 _ _ _) rfl rfl ca_X12_weakens cv_X12_weakens w_1307 rfl ⟨Nat.le_of_ble_eq_true rfl, Nat.le_of_ble_eq_true rfl⟩ ⟨Nat.le_of_ble_eq_true rfl, Nat.le_of_ble_eq_true rfl⟩ (Nat.le_of_ble_eq_true rfl) dX12_does_179 (fun v179 μ179 e9 => c_X12_weakens _ _ _ v179 μ179 e9) h (fun v179 μ179 h => ?_) rfl
    exact xx_iret C E rfl ⟨Nat.le_of_ble_eq_true rfl, Nat.le_of_ble_eq_true rfl⟩ dX12_does_182 h
  · refine xx_aload_n C 184 rfl 2 dX12_does_183 rfl rfl ?_
    refine xx_cVi (As := []) (st := []) (o := 0) C 187 rfl (by decide) (ceM_0 _ _ _) rfl rfl ca_X12_wholeRound cv_X12_wholeRound w_1399 rfl ⟨Nat.le_of_ble_eq_true rfl, Nat.le_of_ble_eq_true rfl⟩ ⟨Nat.le_of_ble_eq_true rfl, Nat.le_of_ble_eq_true rfl⟩ (Nat.le_of_ble_eq_true rfl) dX12_does_184 (fun v184 μ184 e9 => c_X12_wholeRound _ v184 μ184 e9) h (fun v184 μ184 h => ?_) rfl
    exact xx_iret C E rfl ⟨Nat.le_of_ble_eq_true rfl, Nat.le_of_ble_eq_true rfl⟩ dX12_does_187 h
  · refine xx_aload_n C 189 rfl 2 dX12_does_188 rfl rfl ?_
    refine xx_iload_n C 190 rfl 1 dX12_does_189 rfl rfl ?_
    refine xx_cVi (As := [.int (iI v9)]) (st := []) (o := 0) C 193 rfl (by decide) (ceM_0 _ _ _) rfl rfl ca_X12_stepsOn cv_X12_stepsOn w_1363 rfl ⟨Nat.le_of_ble_eq_true rfl, Nat.le_of_ble_eq_true rfl⟩ ⟨Nat.le_of_ble_eq_true rfl, Nat.le_of_ble_eq_true rfl⟩ (Nat.le_of_ble_eq_true rfl) dX12_does_190 (fun v190 μ190 e9 => c_X12_stepsOn _ _ v190 μ190 e9) h (fun v190 μ190 h => ?_) rfl
    exact xx_iret C E rfl ⟨Nat.le_of_ble_eq_true rfl, Nat.le_of_ble_eq_true rfl⟩ dX12_does_193 h

def f_X12_run_L116 (J141 : mu_T → Option (Int × mu_T)) : Nat → Int → mu_T → Option (Int × mu_T)
  | 0, _, _ => none
  | fu116 + 1, x2_116, μ116 => lt_ x2_116 293
      (rd_ μ116 2 293 x2_116 (fun v133 => wr_ μ116 1 293 x2_116 v133 (fun μ134 => nm_ (x2_116 + 1) (fun n135 => (f_X12_run_L116 J141 fu116) n135 μ134))))
      (J141 μ116)
def f_X12_run_L98 (J114 : Int → mu_T → Option (Int × mu_T)) (J159 : mu_T → Option (Int × mu_T)) : Nat → Int → mu_T → Option (Int × mu_T)
  | 0, _, _ => none
  | fu98 + 1, x1_98, μ98 => nm_ (μ98 0 18) (fun v100 => lt_ x1_98 v100
      (bp_ (f_X12_does μ98 x1_98) (fun v108 μ108 => eq_ v108 0
      (nm_ (x1_98 + 1) (fun n153 => (f_X12_run_L98 J114 J159 fu98) n153 μ108))
      (J114 x1_98 μ108)))
      (J159 μ98))
def f_X12_run_L36 (J69 : mu_T → Option (Int × mu_T)) : Nat → mu_T → Option (Int × mu_T)
  | 0, _ => none
  | fu36 + 1, μ36 => nm_ (μ36 0 19) (fun v37 => eq_ v37 0
      (bd_ (f_X12_here μ36) (fun v44 => eq_ v44 59
      (nm_ (μ36 0 16) (fun v54 => wf_ μ36 0 16 (v54 + 1) (fun μ59 => bd_ (f_X12_readsOne μ59) (fun μ63 => (f_X12_run_L36 J69 fu36) μ63))))
      (J69 μ36)))
      (J69 μ36))
def f_X12_run (μ : mu_T)  : Option (Int × mu_T) :=
  bd_ (f_X12_remembers μ) (fun μ1 => wf_ μ1 0 16 0 (fun μ6 => nm_ (μ6 0 10) (fun v11 => wf_ μ6 0 17 v11 (fun μ14 => wf_ μ14 0 10 0 (fun μ19 => wf_ μ19 0 18 0 (fun μ24 => wz_ μ24 0 19 0 (fun μ29 => bd_ (f_X12_readsOne μ29) (fun μ33 => jn_ (φ := mu_T → Option (Int × mu_T)) (fun μ69 => nm_ (μ69 0 19) (fun v70 => jn_ (φ := Unit → Option (Int × mu_T)) (fun _ => nm_ (μ69 0 16) (fun v91 => some (((-1000) - v91), μ69)))
      (fun J87 => eq_ v70 0
      (nm_ (μ69 0 16) (fun v77 => nm_ (μ69 0 17) (fun v81 => lt_ v77 v81
      (J87 ())
      (jn_ (φ := mu_T → Option (Int × mu_T)) (fun μ159 => nm_ (μ159 0 18) (fun v161 => bp_ (f_X12_changed μ159 v161) (fun v164 μ164 => some (v164, μ164))))
      (fun J159 => jn_ (φ := Int → mu_T → Option (Int × mu_T)) (fun x1_114 μ114 => jn_ (φ := mu_T → Option (Int × mu_T)) (fun μ141 => bp_ (f_X12_refused μ141 8 x1_114) (fun v146 μ146 => bp_ (f_X12_ends μ146 v146) (fun v149 μ149 => some (v149, μ149))))
      (fun J141 => f_X12_run_L116 J141 20000 0 μ114))
      (fun J114 => f_X12_run_L98 J114 J159 20000 0 μ69))))))
      (J87 ()))))
      (fun J69 => f_X12_run_L36 J69 20000 μ33)))))))))
set_option maxHeartbeats 4000000 in
set_option maxRecDepth 100000 in
theorem c_X12_run {G : gp_} {ad : Nat → Nat} (μ : mu_T)  (a : Int) (μr : mu_T) (h : f_X12_run μ  = some (a, μr)) : mi_ yX12_run cX12_run 3 (some .int) ({ frames := 8, cells := 0, slots := 0, locals := 175 } : Room) G 9 ad (ceM G ad) [.ref (ad 0)] μ a μr := by
  refine mi_in (own := "UrnHeapModel") (lv := [(0, .ref (ad 0))]) (by decide) rfl rfl (Nat.le_of_ble_eq_true rfl) (fun X C E => ?_)
  unfold f_X12_run at h
  refine xx_aload_n C 1 rfl 0 dX12_run_0 rfl rfl ?_
  refine xx_cVv (As := []) (st := []) (o := 0) C 4 rfl (by decide) (ceM_0 _ _ _) rfl rfl ca_X12_remembers cv_X12_remembers w_1244 rfl ⟨Nat.le_of_ble_eq_true rfl, Nat.le_of_ble_eq_true rfl⟩ ⟨Nat.le_of_ble_eq_true rfl, Nat.le_of_ble_eq_true rfl⟩ (Nat.le_of_ble_eq_true rfl) dX12_run_1 (fun μ1 e9 => c_X12_remembers _ μ1 e9) h (fun μ1 h => ?_) rfl
  refine xx_aload_n C 5 rfl 0 dX12_run_4 rfl rfl ?_
  refine xx_iconst C 6 rfl dX12_run_5 ?_
  refine xx_puti (fi := 16) (j := 16) C 9 rfl (by decide) (ceM_0 _ _ _) (puM_16 _ _ _ _) rfl in_X12 tyX12 tyX12_ok nmX12 (by decide) (Nat.le_of_ble_eq_true rfl) ⟨rfl, rfl⟩ w_1195 dX12_run_6 h (fun μ6 h => ?_)
  refine xx_aload_n C 10 rfl 0 dX12_run_9 rfl rfl ?_
  refine xx_aload_n C 11 rfl 0 dX12_run_10 rfl rfl ?_
  refine xx_geti (fi := 10) (j := 10) C 14 rfl (by decide) (ceM_0 _ _ _) rfl in_X12 (by decide) rfl w_1189 dX12_run_11 h (fun v11 h => ?_)
  refine xx_puti (fi := 17) (j := 17) C 17 rfl (by decide) (ceM_0 _ _ _) (puM_17 _ _ _ _) rfl in_X12 tyX12 tyX12_ok nmX12 (by decide) (Nat.le_of_ble_eq_true rfl) ⟨rfl, rfl⟩ w_1196 dX12_run_14 h (fun μ14 h => ?_)
  refine xx_aload_n C 18 rfl 0 dX12_run_17 rfl rfl ?_
  refine xx_iconst C 19 rfl dX12_run_18 ?_
  refine xx_puti (fi := 10) (j := 10) C 22 rfl (by decide) (ceM_0 _ _ _) (puM_10 _ _ _ _) rfl in_X12 tyX12 tyX12_ok nmX12 (by decide) (Nat.le_of_ble_eq_true rfl) ⟨rfl, rfl⟩ w_1189 dX12_run_19 h (fun μ19 h => ?_)
  refine xx_aload_n C 23 rfl 0 dX12_run_22 rfl rfl ?_
  refine xx_iconst C 24 rfl dX12_run_23 ?_
  refine xx_puti (fi := 18) (j := 18) C 27 rfl (by decide) (ceM_0 _ _ _) (puM_18 _ _ _ _) rfl in_X12 tyX12 tyX12_ok nmX12 (by decide) (Nat.le_of_ble_eq_true rfl) ⟨rfl, rfl⟩ w_1197 dX12_run_24 h (fun μ24 h => ?_)
  refine xx_aload_n C 28 rfl 0 dX12_run_27 rfl rfl ?_
  refine xx_iconst C 29 rfl dX12_run_28 ?_
  refine xx_putz (fi := 19) (j := 19) C 32 rfl (by decide) (ceM_0 _ _ _) (puM_19 _ _ _ _) rfl in_X12 tyX12 tyX12_ok nmX12 (by decide) (Nat.le_of_ble_eq_true rfl) ⟨rfl, rfl⟩ w_1198 dX12_run_29 h (fun μ29 h => ?_)
  refine xx_aload_n C 33 rfl 0 dX12_run_32 rfl rfl ?_
  refine xx_cVv (As := []) (st := []) (o := 0) C 36 rfl (by decide) (ceM_0 _ _ _) rfl rfl ca_X12_readsOne cv_X12_readsOne w_1480 rfl ⟨Nat.le_of_ble_eq_true rfl, Nat.le_of_ble_eq_true rfl⟩ ⟨Nat.le_of_ble_eq_true rfl, Nat.le_of_ble_eq_true rfl⟩ (Nat.le_of_ble_eq_true rfl) dX12_run_33 (fun μ33 e9 => c_X12_readsOne _ μ33 e9) h (fun μ33 h => ?_) rfl
  refine jn_r (fun J => ∀ (μ69 : mu_T), J μ69 = some (a, μr) → wx_ G X 9 ad (ceM G ad) μ69 0 0 69 [(0, .ref (ad 0))] []) h (fun μ69 h => ?_) (fun J69 K69 h => ?_)
  · refine xx_aload_n C 70 rfl 0 dX12_run_69 rfl rfl ?_
    refine xx_geti (fi := 19) (j := 19) C 73 rfl (by decide) (ceM_0 _ _ _) rfl in_X12 (by decide) rfl w_1198 dX12_run_70 h (fun v70 h => ?_)
    refine jn_r (fun J => ∀ (_u : Unit), J _u = some (a, μr) → wx_ G X 9 ad (ceM G ad) μ69 0 0 87 [(0, .ref (ad 0))] []) h (fun _ h => ?_) (fun J87 K87 h => ?_)
    · refine xx_sipush C 90 rfl dX12_run_87 (by decide) ?_
      refine xx_aload_n C 91 rfl 0 dX12_run_90 rfl rfl ?_
      refine xx_geti (fi := 16) (j := 16) C 94 rfl (by decide) (ceM_0 _ _ _) rfl in_X12 (by decide) rfl w_1195 dX12_run_91 h (fun v91 h => ?_)
      refine xx_isub C 95 rfl dX12_run_94 ?_
      exact xx_iret C E rfl ⟨Nat.le_of_ble_eq_true rfl, Nat.le_of_ble_eq_true rfl⟩ dX12_run_95 h
    · refine xx_if_ne (tgt := 87) C 76 rfl dX12_run_73 (by decide) h (fun h => ?_) (fun h => ?_)
      · exact K87 () h
      · refine xx_aload_n C 77 rfl 0 dX12_run_76 rfl rfl ?_
        refine xx_geti (fi := 16) (j := 16) C 80 rfl (by decide) (ceM_0 _ _ _) rfl in_X12 (by decide) rfl w_1195 dX12_run_77 h (fun v77 h => ?_)
        refine xx_aload_n C 81 rfl 0 dX12_run_80 rfl rfl ?_
        refine xx_geti (fi := 17) (j := 17) C 84 rfl (by decide) (ceM_0 _ _ _) rfl in_X12 (by decide) rfl w_1196 dX12_run_81 h (fun v81 h => ?_)
        refine xx_icmp_ge (tgt := 96) C 87 rfl dX12_run_84 (by decide) h (fun h => ?_) (fun h => ?_)
        · refine xx_iconst C 97 rfl dX12_run_96 ?_
          refine xx_istore_n (lv1 := [(1, .int (iI 0)), (0, .ref (ad 0))]) C 98 rfl (by decide) dX12_run_97 rfl rfl ?_
          refine jn_r (fun J => ∀ (μ159 : mu_T), J μ159 = some (a, μr) → wx_ G X 9 ad (ceM G ad) μ159 0 0 159 [(0, .ref (ad 0))] []) h (fun μ159 h => ?_) (fun J159 K159 h => ?_)
          · refine xx_aload_n C 160 rfl 0 dX12_run_159 rfl rfl ?_
            refine xx_aload_n C 161 rfl 0 dX12_run_160 rfl rfl ?_
            refine xx_geti (fi := 18) (j := 18) C 164 rfl (by decide) (ceM_0 _ _ _) rfl in_X12 (by decide) rfl w_1197 dX12_run_161 h (fun v161 h => ?_)
            refine xx_cVi (As := [.int (iI v161)]) (st := []) (o := 0) C 167 rfl (by decide) (ceM_0 _ _ _) rfl rfl ca_X12_changed cv_X12_changed w_1264 rfl ⟨Nat.le_of_ble_eq_true rfl, Nat.le_of_ble_eq_true rfl⟩ ⟨Nat.le_of_ble_eq_true rfl, Nat.le_of_ble_eq_true rfl⟩ (Nat.le_of_ble_eq_true rfl) dX12_run_164 (fun v164 μ164 e9 => c_X12_changed _ _ v164 μ164 e9) h (fun v164 μ164 h => ?_) rfl
            exact xx_iret C E rfl ⟨Nat.le_of_ble_eq_true rfl, Nat.le_of_ble_eq_true rfl⟩ dX12_run_167 h
          · refine jn_r (fun J => ∀ (x1_114 : Int) (μ114 : mu_T), J x1_114 μ114 = some (a, μr) → wx_ G X 9 ad (ceM G ad) μ114 0 0 114 [(0, .ref (ad 0)), (1, .int (iI x1_114))] []) h (fun x1_114 μ114 h => ?_) (fun J114 K114 h => ?_)
            · refine xx_iconst C 115 rfl dX12_run_114 ?_
              refine xx_istore_n (lv1 := [(2, .int (iI 0)), (0, .ref (ad 0)), (1, .int (iI x1_114))]) C 116 rfl (by decide) dX12_run_115 rfl rfl ?_
              refine jn_r (fun J => ∀ (μ141 : mu_T), J μ141 = some (a, μr) → wx_ G X 9 ad (ceM G ad) μ141 0 0 141 [(0, .ref (ad 0)), (1, .int (iI x1_114))] []) h (fun μ141 h => ?_) (fun J141 K141 h => ?_)
              · refine xx_aload_n C 142 rfl 0 dX12_run_141 rfl rfl ?_
                refine xx_aload_n C 143 rfl 0 dX12_run_142 rfl rfl ?_
                refine xx_bipush C 145 rfl dX12_run_143 (by decide) ?_
                refine xx_iload_n C 146 rfl 1 dX12_run_145 rfl rfl ?_
                refine xx_cVi (As := [.int (iI 8), .int (iI x1_114)]) (st := [.ref (ad 0)]) (o := 0) C 149 rfl (by decide) (ceM_0 _ _ _) rfl rfl ca_X12_refused cv_X12_refused w_1252 rfl ⟨Nat.le_of_ble_eq_true rfl, Nat.le_of_ble_eq_true rfl⟩ ⟨Nat.le_of_ble_eq_true rfl, Nat.le_of_ble_eq_true rfl⟩ (Nat.le_of_ble_eq_true rfl) dX12_run_146 (fun v146 μ146 e9 => c_X12_refused _ _ _ v146 μ146 e9) h (fun v146 μ146 h => ?_) rfl
                refine xx_cVi (As := [.int (iI v146)]) (st := []) (o := 0) C 152 rfl (by decide) (ceM_0 _ _ _) rfl rfl ca_X12_ends cv_X12_ends w_1260 rfl ⟨Nat.le_of_ble_eq_true rfl, Nat.le_of_ble_eq_true rfl⟩ ⟨Nat.le_of_ble_eq_true rfl, Nat.le_of_ble_eq_true rfl⟩ (Nat.le_of_ble_eq_true rfl) dX12_run_149 (fun v149 μ149 e9 => c_X12_ends _ _ v149 μ149 e9) h (fun v149 μ149 h => ?_) rfl
                exact xx_iret C E rfl ⟨Nat.le_of_ble_eq_true rfl, Nat.le_of_ble_eq_true rfl⟩ dX12_run_152 h
              · have L116 : ∀ (fu116 : Nat) (x2_116 : Int) (μ116 : mu_T), f_X12_run_L116 J141 fu116 x2_116 μ116 = some (a, μr) → wx_ G X 9 ad (ceM G ad) μ116 0 0 116 [(0, .ref (ad 0)), (1, .int (iI x1_114)), (2, .int (iI x2_116))] [] := by
                  intro fu116
                  induction fu116 with
                  | zero => intro x2_116 μ116 h; exact nn_ h
                  | succ fu116 K116 =>
                    intro x2_116 μ116 h
                    rw [f_X12_run_L116] at h
                    generalize f_X12_run_L116 J141 fu116 = R116 at K116 h
                    refine xx_iload_n C 117 rfl 2 dX12_run_116 rfl rfl ?_
                    refine xx_sipush C 120 rfl dX12_run_117 (by decide) ?_
                    refine xx_icmp_ge (tgt := 141) C 123 rfl dX12_run_120 (by decide) h (fun h => ?_) (fun h => ?_)
                    · refine xx_sub [0, 1] rfl ?_
                      exact K141 μ116 h
                    · refine xx_aload_n C 124 rfl 0 dX12_run_123 rfl rfl ?_
                      refine xx_getr (fi := 0) C 127 rfl (by decide) (ceM_0 _ _ _) rfl in_X12 (by decide) rfl w_1179 dX12_run_124 ?_
                      refine xx_iload_n C 128 rfl 2 dX12_run_127 rfl rfl ?_
                      refine xx_aload_n C 129 rfl 0 dX12_run_128 rfl rfl ?_
                      refine xx_getr (fi := 1) C 132 rfl (by decide) (ceM_0 _ _ _) rfl in_X12 (by decide) rfl w_1180 dX12_run_129 ?_
                      refine xx_iload_n C 133 rfl 2 dX12_run_132 rfl rfl ?_
                      refine xx_iaload C 134 rfl (by decide) (fun _ => rfl) (by decide) dX12_run_133 h (fun v133 h => ?_)
                      refine xx_iastore C 135 rfl (by decide) (fun _ => rfl) (by decide) dX12_run_134 h (fun μ134 h => ?_)
                      refine xx_iincn C 138 rfl 2 (by decide) dX12_run_135 rfl h (fun n135 h => ?_)
                      refine xx_lv (lv1 := [(2, .int (iI n135)), (0, .ref (ad 0)), (1, .int (iI x1_114))]) rfl ?_
                      refine xx_goto C 116 dX12_run_138 (by decide) ?_
                      refine xx_sub [1, 2, 0] rfl ?_
                      exact K116 n135 μ134 h
                refine xx_sub [1, 2, 0] rfl ?_
                exact L116 _ _ _ h
            · have L98 : ∀ (fu98 : Nat) (x1_98 : Int) (μ98 : mu_T), f_X12_run_L98 J114 J159 fu98 x1_98 μ98 = some (a, μr) → wx_ G X 9 ad (ceM G ad) μ98 0 0 98 [(0, .ref (ad 0)), (1, .int (iI x1_98))] [] := by
                intro fu98
                induction fu98 with
                | zero => intro x1_98 μ98 h; exact nn_ h
                | succ fu98 K98 =>
                  intro x1_98 μ98 h
                  rw [f_X12_run_L98] at h
                  generalize f_X12_run_L98 J114 J159 fu98 = R98 at K98 h
                  refine xx_iload_n C 99 rfl 1 dX12_run_98 rfl rfl ?_
                  refine xx_aload_n C 100 rfl 0 dX12_run_99 rfl rfl ?_
                  refine xx_geti (fi := 18) (j := 18) C 103 rfl (by decide) (ceM_0 _ _ _) rfl in_X12 (by decide) rfl w_1197 dX12_run_100 h (fun v100 h => ?_)
                  refine xx_icmp_ge (tgt := 159) C 106 rfl dX12_run_103 (by decide) h (fun h => ?_) (fun h => ?_)
                  · refine xx_sub [0] rfl ?_
                    exact K159 μ98 h
                  · refine xx_aload_n C 107 rfl 0 dX12_run_106 rfl rfl ?_
                    refine xx_iload_n C 108 rfl 1 dX12_run_107 rfl rfl ?_
                    refine xx_cVi (As := [.int (iI x1_98)]) (st := []) (o := 0) C 111 rfl (by decide) (ceM_0 _ _ _) rfl rfl ca_X12_does cv_X12_does w_1525 rfl ⟨Nat.le_of_ble_eq_true rfl, Nat.le_of_ble_eq_true rfl⟩ ⟨Nat.le_of_ble_eq_true rfl, Nat.le_of_ble_eq_true rfl⟩ (Nat.le_of_ble_eq_true rfl) dX12_run_108 (fun v108 μ108 e9 => c_X12_does _ _ v108 μ108 e9) h (fun v108 μ108 h => ?_) rfl
                    refine xx_if_eq (tgt := 153) C 114 rfl dX12_run_111 (by decide) h (fun h => ?_) (fun h => ?_)
                    · refine xx_iincn C 156 rfl 1 (by decide) dX12_run_153 rfl h (fun n153 h => ?_)
                      refine xx_lv (lv1 := [(1, .int (iI n153)), (0, .ref (ad 0))]) rfl ?_
                      refine xx_goto C 98 dX12_run_156 (by decide) ?_
                      refine xx_sub [1, 0] rfl ?_
                      exact K98 n153 μ108 h
                    · exact K114 x1_98 μ108 h
              refine xx_sub [1, 0] rfl ?_
              exact L98 _ _ _ h
        · exact K87 () h
  · have L36 : ∀ (fu36 : Nat) (μ36 : mu_T), f_X12_run_L36 J69 fu36 μ36 = some (a, μr) → wx_ G X 9 ad (ceM G ad) μ36 0 0 36 [(0, .ref (ad 0))] [] := by
      intro fu36
      induction fu36 with
      | zero => intro μ36 h; exact nn_ h
      | succ fu36 K36 =>
        intro μ36 h
        rw [f_X12_run_L36] at h
        generalize f_X12_run_L36 J69 fu36 = R36 at K36 h
        refine xx_aload_n C 37 rfl 0 dX12_run_36 rfl rfl ?_
        refine xx_geti (fi := 19) (j := 19) C 40 rfl (by decide) (ceM_0 _ _ _) rfl in_X12 (by decide) rfl w_1198 dX12_run_37 h (fun v37 h => ?_)
        refine xx_if_ne (tgt := 69) C 43 rfl dX12_run_40 (by decide) h (fun h => ?_) (fun h => ?_)
        · exact K69 μ36 h
        · refine xx_aload_n C 44 rfl 0 dX12_run_43 rfl rfl ?_
          refine xx_cVip (As := []) (st := []) (o := 0) C 47 rfl (by decide) (ceM_0 _ _ _) rfl rfl ca_X12_here cv_X12_here w_1484 rfl ⟨Nat.le_of_ble_eq_true rfl, Nat.le_of_ble_eq_true rfl⟩ ⟨Nat.le_of_ble_eq_true rfl, Nat.le_of_ble_eq_true rfl⟩ (Nat.le_of_ble_eq_true rfl) dX12_run_44 (fun v44 e9 => c_X12_here _ v44 e9) h (fun v44 h => ?_) rfl
          refine xx_bipush C 49 rfl dX12_run_47 (by decide) ?_
          refine xx_icmp_ne (tgt := 69) C 52 rfl dX12_run_49 (by decide) h (fun h => ?_) (fun h => ?_)
          · exact K69 μ36 h
          · refine xx_aload_n C 53 rfl 0 dX12_run_52 rfl rfl ?_
            refine xx_dup C 54 rfl dX12_run_53 rfl ?_
            refine xx_geti (fi := 16) (j := 16) C 57 rfl (by decide) (ceM_0 _ _ _) rfl in_X12 (by decide) rfl w_1195 dX12_run_54 h (fun v54 h => ?_)
            refine xx_iconst C 58 rfl dX12_run_57 ?_
            refine xx_iadd C 59 rfl dX12_run_58 ?_
            refine xx_puti (fi := 16) (j := 16) C 62 rfl (by decide) (ceM_0 _ _ _) (puM_16 _ _ _ _) rfl in_X12 tyX12 tyX12_ok nmX12 (by decide) (Nat.le_of_ble_eq_true rfl) ⟨rfl, rfl⟩ w_1195 dX12_run_59 h (fun μ59 h => ?_)
            refine xx_aload_n C 63 rfl 0 dX12_run_62 rfl rfl ?_
            refine xx_cVv (As := []) (st := []) (o := 0) C 66 rfl (by decide) (ceM_0 _ _ _) rfl rfl ca_X12_readsOne cv_X12_readsOne w_1480 rfl ⟨Nat.le_of_ble_eq_true rfl, Nat.le_of_ble_eq_true rfl⟩ ⟨Nat.le_of_ble_eq_true rfl, Nat.le_of_ble_eq_true rfl⟩ (Nat.le_of_ble_eq_true rfl) dX12_run_63 (fun μ63 e9 => c_X12_readsOne _ μ63 e9) h (fun μ63 h => ?_) rfl
            refine xx_goto C 36 dX12_run_66 (by decide) ?_
            exact K36 μ63 h
    exact L36 _ _ h

def f_X12_writes (μ : mu_T) (a1 : Int) : Option mu_T :=
  nm_ (μ 0 11) (fun v5 => wr_ μ 7 60 v5 a1 (fun μ9 => nm_ (μ9 0 11) (fun v12 => wf_ μ9 0 11 (v12 + 1) (fun μ17 => some μ17))))
set_option maxHeartbeats 4000000 in
set_option maxRecDepth 100000 in
theorem c_X12_writes {G : gp_} {ad : Nat → Nat} (μ : mu_T) (a1 : Int) (μr : mu_T) (h : f_X12_writes μ a1 = some μr) : mv_ yX12_writes cX12_writes 2 ({ frames := 0, cells := 0, slots := 0, locals := 0 } : Room) G 9 ad (ceM G ad) [.ref (ad 0), .int (iI a1)] μ μr := by
  refine mv_in (own := "UrnHeapModel") (lv := [(0, .ref (ad 0)), (1, .int (iI a1))]) (by decide) rfl rfl (Nat.le_of_ble_eq_true rfl) (fun X C E => ?_)
  unfold f_X12_writes at h
  refine xx_aload_n C 1 rfl 0 dX12_writes_0 rfl rfl ?_
  refine xx_getr (fi := 8) C 4 rfl (by decide) (ceM_0 _ _ _) rfl in_X12 (by decide) rfl w_1187 dX12_writes_1 ?_
  refine xx_aload_n C 5 rfl 0 dX12_writes_4 rfl rfl ?_
  refine xx_geti (fi := 11) (j := 11) C 8 rfl (by decide) (ceM_0 _ _ _) rfl in_X12 (by decide) rfl w_1190 dX12_writes_5 h (fun v5 h => ?_)
  refine xx_iload_n C 9 rfl 1 dX12_writes_8 rfl rfl ?_
  refine xx_iastore C 10 rfl (by decide) (fun _ => rfl) (by decide) dX12_writes_9 h (fun μ9 h => ?_)
  refine xx_aload_n C 11 rfl 0 dX12_writes_10 rfl rfl ?_
  refine xx_dup C 12 rfl dX12_writes_11 rfl ?_
  refine xx_geti (fi := 11) (j := 11) C 15 rfl (by decide) (ceM_0 _ _ _) rfl in_X12 (by decide) rfl w_1190 dX12_writes_12 h (fun v12 h => ?_)
  refine xx_iconst C 16 rfl dX12_writes_15 ?_
  refine xx_iadd C 17 rfl dX12_writes_16 ?_
  refine xx_puti (fi := 11) (j := 11) C 20 rfl (by decide) (ceM_0 _ _ _) (puM_11 _ _ _ _) rfl in_X12 tyX12 tyX12_ok nmX12 (by decide) (Nat.le_of_ble_eq_true rfl) ⟨rfl, rfl⟩ w_1190 dX12_writes_17 h (fun μ17 h => ?_)
  exact xx_vret C E rfl ⟨Nat.le_of_ble_eq_true rfl, Nat.le_of_ble_eq_true rfl⟩ dX12_writes_20 h

def f_X12_writesNumber (μ : mu_T) (a1 : Int) : Option mu_T :=
  jn_ (φ := mu_T → Option mu_T) (fun μ17 => rm_ a1 10 (fun v23 => bd_ (f_X12_writes μ17 (48 + v23)) (fun μ25 => some μ25)))
      (fun J17 => lt_ 9 a1
      (dv_ a1 10 (fun v12 => bd_ (f_X12_writes μ (48 + v12)) (fun μ14 => J17 μ14)))
      (J17 μ))
set_option maxHeartbeats 4000000 in
set_option maxRecDepth 100000 in
theorem c_X12_writesNumber {G : gp_} {ad : Nat → Nat} (μ : mu_T) (a1 : Int) (μr : mu_T) (h : f_X12_writesNumber μ a1 = some μr) : mv_ yX12_writesNumber cX12_writesNumber 2 ({ frames := 1, cells := 0, slots := 0, locals := 21 } : Room) G 9 ad (ceM G ad) [.ref (ad 0), .int (iI a1)] μ μr := by
  refine mv_in (own := "UrnHeapModel") (lv := [(0, .ref (ad 0)), (1, .int (iI a1))]) (by decide) rfl rfl (Nat.le_of_ble_eq_true rfl) (fun X C E => ?_)
  unfold f_X12_writesNumber at h
  refine xx_iload_n C 1 rfl 1 dX12_writesNumber_0 rfl rfl ?_
  refine xx_bipush C 3 rfl dX12_writesNumber_1 (by decide) ?_
  refine jn_r (fun J => ∀ (μ17 : mu_T), J μ17 = some μr → wx_ G X 9 ad (ceM G ad) μ17 0 0 17 [(0, .ref (ad 0)), (1, .int (iI a1))] []) h (fun μ17 h => ?_) (fun J17 K17 h => ?_)
  · refine xx_aload_n C 18 rfl 0 dX12_writesNumber_17 rfl rfl ?_
    refine xx_bipush C 20 rfl dX12_writesNumber_18 (by decide) ?_
    refine xx_iload_n C 21 rfl 1 dX12_writesNumber_20 rfl rfl ?_
    refine xx_bipush C 23 rfl dX12_writesNumber_21 (by decide) ?_
    refine xx_irem C 24 rfl dX12_writesNumber_23 h (fun v23 h => ?_)
    refine xx_iadd C 25 rfl dX12_writesNumber_24 ?_
    refine xx_cVv (As := [.int (iI (48 + v23))]) (st := []) (o := 0) C 28 rfl (by decide) (ceM_0 _ _ _) rfl rfl ca_X12_writes cv_X12_writes w_1537 rfl ⟨Nat.le_of_ble_eq_true rfl, Nat.le_of_ble_eq_true rfl⟩ ⟨Nat.le_of_ble_eq_true rfl, Nat.le_of_ble_eq_true rfl⟩ (Nat.le_of_ble_eq_true rfl) dX12_writesNumber_25 (fun μ25 e9 => c_X12_writes _ _ μ25 e9) h (fun μ25 h => ?_) rfl
    exact xx_vret C E rfl ⟨Nat.le_of_ble_eq_true rfl, Nat.le_of_ble_eq_true rfl⟩ dX12_writesNumber_28 h
  · refine xx_icmp_le (tgt := 17) C 6 rfl dX12_writesNumber_3 (by decide) h (fun h => ?_) (fun h => ?_)
    · exact K17 μ h
    · refine xx_aload_n C 7 rfl 0 dX12_writesNumber_6 rfl rfl ?_
      refine xx_bipush C 9 rfl dX12_writesNumber_7 (by decide) ?_
      refine xx_iload_n C 10 rfl 1 dX12_writesNumber_9 rfl rfl ?_
      refine xx_bipush C 12 rfl dX12_writesNumber_10 (by decide) ?_
      refine xx_idiv C 13 rfl dX12_writesNumber_12 h (fun v12 h => ?_)
      refine xx_iadd C 14 rfl dX12_writesNumber_13 ?_
      refine xx_cVv (As := [.int (iI (48 + v12))]) (st := []) (o := 0) C 17 rfl (by decide) (ceM_0 _ _ _) rfl rfl ca_X12_writes cv_X12_writes w_1537 rfl ⟨Nat.le_of_ble_eq_true rfl, Nat.le_of_ble_eq_true rfl⟩ ⟨Nat.le_of_ble_eq_true rfl, Nat.le_of_ble_eq_true rfl⟩ (Nat.le_of_ble_eq_true rfl) dX12_writesNumber_14 (fun μ14 e9 => c_X12_writes _ _ μ14 e9) h (fun μ14 h => ?_) rfl
      exact K17 μ14 h

def f_X12_tell_L65 (J124 : mu_T → Option (Int × mu_T)) (a1 : Int) : Nat → Int → mu_T → Option (Int × mu_T)
  | 0, _, _ => none
  | fu65 + 1, x2_65, μ65 => lt_ x2_65 4
      (jn_ (φ := mu_T → Option (Int × mu_T)) (fun μ80 => bd_ (f_X12_at μ80 a1 x2_65) (fun v86 => rd_ μ80 1 293 v86 (fun v89 => jn_ (φ := mu_T → Option (Int × mu_T)) (fun μ118 => nm_ (x2_65 + 1) (fun n118 => (f_X12_tell_L65 J124 a1 fu65) n118 μ118))
      (fun J118 => eq_ v89 (-15)
      (bd_ (f_X12_writes μ80 45) (fun μ98 => J118 μ98))
      (bd_ (f_X12_at μ80 a1 x2_65) (fun v111 => rd_ μ80 1 293 v111 (fun v114 => bd_ (f_X12_writesNumber μ80 v114) (fun μ115 => J118 μ115))))))))
      (fun J80 => lt_ 0 x2_65
      (bd_ (f_X12_writes μ65 44) (fun μ77 => J80 μ77))
      (J80 μ65)))
      (J124 μ65)
def f_X12_tell (μ : mu_T) (a1 : Int) : Option (Int × mu_T) :=
  bd_ (f_X12_isUrn μ a1) (fun v2 => eq_ v2 0
      (some ((-11), μ))
      (wf_ μ 0 11 0 (fun μ13 => bd_ (f_X12_writesNumber μ13 a1) (fun μ18 => rd_ μ18 1 293 (65 + a1) (fun v29 => jn_ (φ := mu_T → Option (Int × mu_T)) (fun μ57 => bd_ (f_X12_writes μ57 58) (fun μ60 => jn_ (φ := mu_T → Option (Int × mu_T)) (fun μ124 => rd_ μ124 1 293 (113 + a1) (fun v132 => eq_ v132 (-15)
      (nm_ (μ124 0 11) (fun v139 => some (v139, μ124)))
      (bd_ (f_X12_writes μ124 126) (fun μ146 => rd_ μ146 1 293 (113 + a1) (fun v158 => bd_ (f_X12_writesNumber μ146 v158) (fun μ159 => nm_ (μ159 0 11) (fun v163 => some (v163, μ159))))))))
      (fun J124 => f_X12_tell_L65 J124 a1 20000 0 μ60)))
      (fun J57 => lt_ 0 v29
      (rd_ μ18 1 293 (65 + a1) (fun v42 => jn_ (φ := Int → Option (Int × mu_T)) (fun s0_54 => bd_ (f_X12_writes μ18 s0_54) (fun μ54 => J57 μ54))
      (fun J54 => eq_ v42 1
      (J54 33)
      (J54 63))))
      (J57 μ18)))))))
set_option maxHeartbeats 4000000 in
set_option maxRecDepth 100000 in
theorem c_X12_tell {G : gp_} {ad : Nat → Nat} (μ : mu_T) (a1 : Int) (a : Int) (μr : mu_T) (h : f_X12_tell μ a1 = some (a, μr)) : mi_ yX12_tell cX12_tell 3 (some .int) ({ frames := 2, cells := 0, slots := 0, locals := 43 } : Room) G 9 ad (ceM G ad) [.ref (ad 0), .int (iI a1)] μ a μr := by
  refine mi_in (own := "UrnHeapModel") (lv := [(0, .ref (ad 0)), (1, .int (iI a1))]) (by decide) rfl rfl (Nat.le_of_ble_eq_true rfl) (fun X C E => ?_)
  unfold f_X12_tell at h
  refine xx_aload_n C 1 rfl 0 dX12_tell_0 rfl rfl ?_
  refine xx_iload_n C 2 rfl 1 dX12_tell_1 rfl rfl ?_
  refine xx_cVip (As := [.int (iI a1)]) (st := []) (o := 0) C 5 rfl (by decide) (ceM_0 _ _ _) rfl rfl ca_X12_isUrn cv_X12_isUrn w_1276 rfl ⟨Nat.le_of_ble_eq_true rfl, Nat.le_of_ble_eq_true rfl⟩ ⟨Nat.le_of_ble_eq_true rfl, Nat.le_of_ble_eq_true rfl⟩ (Nat.le_of_ble_eq_true rfl) dX12_tell_2 (fun v2 e9 => c_X12_isUrn _ _ v2 e9) h (fun v2 h => ?_) rfl
  refine xx_if_ne (tgt := 11) C 8 rfl dX12_tell_5 (by decide) h (fun h => ?_) (fun h => ?_)
  · refine xx_aload_n C 12 rfl 0 dX12_tell_11 rfl rfl ?_
    refine xx_iconst C 13 rfl dX12_tell_12 ?_
    refine xx_puti (fi := 11) (j := 11) C 16 rfl (by decide) (ceM_0 _ _ _) (puM_11 _ _ _ _) rfl in_X12 tyX12 tyX12_ok nmX12 (by decide) (Nat.le_of_ble_eq_true rfl) ⟨rfl, rfl⟩ w_1190 dX12_tell_13 h (fun μ13 h => ?_)
    refine xx_aload_n C 17 rfl 0 dX12_tell_16 rfl rfl ?_
    refine xx_iload_n C 18 rfl 1 dX12_tell_17 rfl rfl ?_
    refine xx_cVv (As := [.int (iI a1)]) (st := []) (o := 0) C 21 rfl (by decide) (ceM_0 _ _ _) rfl rfl ca_X12_writesNumber cv_X12_writesNumber w_1533 rfl ⟨Nat.le_of_ble_eq_true rfl, Nat.le_of_ble_eq_true rfl⟩ ⟨Nat.le_of_ble_eq_true rfl, Nat.le_of_ble_eq_true rfl⟩ (Nat.le_of_ble_eq_true rfl) dX12_tell_18 (fun μ18 e9 => c_X12_writesNumber _ _ μ18 e9) h (fun μ18 h => ?_) rfl
    refine xx_aload_n C 22 rfl 0 dX12_tell_21 rfl rfl ?_
    refine xx_getr (fi := 0) C 25 rfl (by decide) (ceM_0 _ _ _) rfl in_X12 (by decide) rfl w_1179 dX12_tell_22 ?_
    refine xx_bipush C 27 rfl dX12_tell_25 (by decide) ?_
    refine xx_iload_n C 28 rfl 1 dX12_tell_27 rfl rfl ?_
    refine xx_iadd C 29 rfl dX12_tell_28 ?_
    refine xx_iaload C 30 rfl (by decide) (fun _ => rfl) (by decide) dX12_tell_29 h (fun v29 h => ?_)
    refine jn_r (fun J => ∀ (μ57 : mu_T), J μ57 = some (a, μr) → wx_ G X 9 ad (ceM G ad) μ57 0 0 57 [(0, .ref (ad 0)), (1, .int (iI a1))] []) h (fun μ57 h => ?_) (fun J57 K57 h => ?_)
    · refine xx_aload_n C 58 rfl 0 dX12_tell_57 rfl rfl ?_
      refine xx_bipush C 60 rfl dX12_tell_58 (by decide) ?_
      refine xx_cVv (As := [.int (iI 58)]) (st := []) (o := 0) C 63 rfl (by decide) (ceM_0 _ _ _) rfl rfl ca_X12_writes cv_X12_writes w_1537 rfl ⟨Nat.le_of_ble_eq_true rfl, Nat.le_of_ble_eq_true rfl⟩ ⟨Nat.le_of_ble_eq_true rfl, Nat.le_of_ble_eq_true rfl⟩ (Nat.le_of_ble_eq_true rfl) dX12_tell_60 (fun μ60 e9 => c_X12_writes _ _ μ60 e9) h (fun μ60 h => ?_) rfl
      refine xx_iconst C 64 rfl dX12_tell_63 ?_
      refine xx_istore_n (lv1 := [(2, .int (iI 0)), (0, .ref (ad 0)), (1, .int (iI a1))]) C 65 rfl (by decide) dX12_tell_64 rfl rfl ?_
      refine jn_r (fun J => ∀ (μ124 : mu_T), J μ124 = some (a, μr) → wx_ G X 9 ad (ceM G ad) μ124 0 0 124 [(0, .ref (ad 0)), (1, .int (iI a1))] []) h (fun μ124 h => ?_) (fun J124 K124 h => ?_)
      · refine xx_aload_n C 125 rfl 0 dX12_tell_124 rfl rfl ?_
        refine xx_getr (fi := 0) C 128 rfl (by decide) (ceM_0 _ _ _) rfl in_X12 (by decide) rfl w_1179 dX12_tell_125 ?_
        refine xx_bipush C 130 rfl dX12_tell_128 (by decide) ?_
        refine xx_iload_n C 131 rfl 1 dX12_tell_130 rfl rfl ?_
        refine xx_iadd C 132 rfl dX12_tell_131 ?_
        refine xx_iaload C 133 rfl (by decide) (fun _ => rfl) (by decide) dX12_tell_132 h (fun v132 h => ?_)
        refine xx_bipush C 135 rfl dX12_tell_133 (by decide) ?_
        refine xx_icmp_ne (tgt := 143) C 138 rfl dX12_tell_135 (by decide) h (fun h => ?_) (fun h => ?_)
        · refine xx_aload_n C 144 rfl 0 dX12_tell_143 rfl rfl ?_
          refine xx_bipush C 146 rfl dX12_tell_144 (by decide) ?_
          refine xx_cVv (As := [.int (iI 126)]) (st := []) (o := 0) C 149 rfl (by decide) (ceM_0 _ _ _) rfl rfl ca_X12_writes cv_X12_writes w_1537 rfl ⟨Nat.le_of_ble_eq_true rfl, Nat.le_of_ble_eq_true rfl⟩ ⟨Nat.le_of_ble_eq_true rfl, Nat.le_of_ble_eq_true rfl⟩ (Nat.le_of_ble_eq_true rfl) dX12_tell_146 (fun μ146 e9 => c_X12_writes _ _ μ146 e9) h (fun μ146 h => ?_) rfl
          refine xx_aload_n C 150 rfl 0 dX12_tell_149 rfl rfl ?_
          refine xx_aload_n C 151 rfl 0 dX12_tell_150 rfl rfl ?_
          refine xx_getr (fi := 0) C 154 rfl (by decide) (ceM_0 _ _ _) rfl in_X12 (by decide) rfl w_1179 dX12_tell_151 ?_
          refine xx_bipush C 156 rfl dX12_tell_154 (by decide) ?_
          refine xx_iload_n C 157 rfl 1 dX12_tell_156 rfl rfl ?_
          refine xx_iadd C 158 rfl dX12_tell_157 ?_
          refine xx_iaload C 159 rfl (by decide) (fun _ => rfl) (by decide) dX12_tell_158 h (fun v158 h => ?_)
          refine xx_cVv (As := [.int (iI v158)]) (st := []) (o := 0) C 162 rfl (by decide) (ceM_0 _ _ _) rfl rfl ca_X12_writesNumber cv_X12_writesNumber w_1533 rfl ⟨Nat.le_of_ble_eq_true rfl, Nat.le_of_ble_eq_true rfl⟩ ⟨Nat.le_of_ble_eq_true rfl, Nat.le_of_ble_eq_true rfl⟩ (Nat.le_of_ble_eq_true rfl) dX12_tell_159 (fun μ159 e9 => c_X12_writesNumber _ _ μ159 e9) h (fun μ159 h => ?_) rfl
          refine xx_aload_n C 163 rfl 0 dX12_tell_162 rfl rfl ?_
          refine xx_geti (fi := 11) (j := 11) C 166 rfl (by decide) (ceM_0 _ _ _) rfl in_X12 (by decide) rfl w_1190 dX12_tell_163 h (fun v163 h => ?_)
          exact xx_iret C E rfl ⟨Nat.le_of_ble_eq_true rfl, Nat.le_of_ble_eq_true rfl⟩ dX12_tell_166 h
        · refine xx_aload_n C 139 rfl 0 dX12_tell_138 rfl rfl ?_
          refine xx_geti (fi := 11) (j := 11) C 142 rfl (by decide) (ceM_0 _ _ _) rfl in_X12 (by decide) rfl w_1190 dX12_tell_139 h (fun v139 h => ?_)
          exact xx_iret C E rfl ⟨Nat.le_of_ble_eq_true rfl, Nat.le_of_ble_eq_true rfl⟩ dX12_tell_142 h
      · have L65 : ∀ (fu65 : Nat) (x2_65 : Int) (μ65 : mu_T), f_X12_tell_L65 J124 a1 fu65 x2_65 μ65 = some (a, μr) → wx_ G X 9 ad (ceM G ad) μ65 0 0 65 [(0, .ref (ad 0)), (1, .int (iI a1)), (2, .int (iI x2_65))] [] := by
          intro fu65
          induction fu65 with
          | zero => intro x2_65 μ65 h; exact nn_ h
          | succ fu65 K65 =>
            intro x2_65 μ65 h
            rw [f_X12_tell_L65] at h
            generalize f_X12_tell_L65 J124 a1 fu65 = R65 at K65 h
            refine xx_iload_n C 66 rfl 2 dX12_tell_65 rfl rfl ?_
            refine xx_iconst C 67 rfl dX12_tell_66 ?_
            refine xx_icmp_ge (tgt := 124) C 70 rfl dX12_tell_67 (by decide) h (fun h => ?_) (fun h => ?_)
            · refine xx_sub [0, 1] rfl ?_
              exact K124 μ65 h
            · refine xx_iload_n C 71 rfl 2 dX12_tell_70 rfl rfl ?_
              refine jn_r (fun J => ∀ (μ80 : mu_T), J μ80 = some (a, μr) → wx_ G X 9 ad (ceM G ad) μ80 0 0 80 [(0, .ref (ad 0)), (1, .int (iI a1)), (2, .int (iI x2_65))] []) h (fun μ80 h => ?_) (fun J80 K80 h => ?_)
              · refine xx_aload_n C 81 rfl 0 dX12_tell_80 rfl rfl ?_
                refine xx_getr (fi := 0) C 84 rfl (by decide) (ceM_0 _ _ _) rfl in_X12 (by decide) rfl w_1179 dX12_tell_81 ?_
                refine xx_iload_n C 85 rfl 1 dX12_tell_84 rfl rfl ?_
                refine xx_iload_n C 86 rfl 2 dX12_tell_85 rfl rfl ?_
                refine xx_cSip (As := [.int (iI a1), .int (iI x2_65)]) (st := [.ref (ad 1)]) C 89 rfl  ca_X12_at cs_X12_at w_1176 rfl ⟨Nat.le_of_ble_eq_true rfl, Nat.le_of_ble_eq_true rfl⟩ ⟨Nat.le_of_ble_eq_true rfl, Nat.le_of_ble_eq_true rfl⟩ (Nat.le_of_ble_eq_true rfl) dX12_tell_86 (fun v86 e9 => c_X12_at _ _ _ v86 e9) h (fun v86 h => ?_) rfl
                refine xx_iaload C 90 rfl (by decide) (fun _ => rfl) (by decide) dX12_tell_89 h (fun v89 h => ?_)
                refine xx_bipush C 92 rfl dX12_tell_90 (by decide) ?_
                refine jn_r (fun J => ∀ (μ118 : mu_T), J μ118 = some (a, μr) → wx_ G X 9 ad (ceM G ad) μ118 0 0 118 [(0, .ref (ad 0)), (1, .int (iI a1)), (2, .int (iI x2_65))] []) h (fun μ118 h => ?_) (fun J118 K118 h => ?_)
                · refine xx_iincn C 121 rfl 2 (by decide) dX12_tell_118 rfl h (fun n118 h => ?_)
                  refine xx_lv (lv1 := [(2, .int (iI n118)), (0, .ref (ad 0)), (1, .int (iI a1))]) rfl ?_
                  refine xx_goto C 65 dX12_tell_121 (by decide) ?_
                  refine xx_sub [1, 2, 0] rfl ?_
                  exact K65 n118 μ118 h
                · refine xx_icmp_ne (tgt := 104) C 95 rfl dX12_tell_92 (by decide) h (fun h => ?_) (fun h => ?_)
                  · refine xx_aload_n C 105 rfl 0 dX12_tell_104 rfl rfl ?_
                    refine xx_aload_n C 106 rfl 0 dX12_tell_105 rfl rfl ?_
                    refine xx_getr (fi := 0) C 109 rfl (by decide) (ceM_0 _ _ _) rfl in_X12 (by decide) rfl w_1179 dX12_tell_106 ?_
                    refine xx_iload_n C 110 rfl 1 dX12_tell_109 rfl rfl ?_
                    refine xx_iload_n C 111 rfl 2 dX12_tell_110 rfl rfl ?_
                    refine xx_cSip (As := [.int (iI a1), .int (iI x2_65)]) (st := [.ref (ad 1), .ref (ad 0)]) C 114 rfl  ca_X12_at cs_X12_at w_1176 rfl ⟨Nat.le_of_ble_eq_true rfl, Nat.le_of_ble_eq_true rfl⟩ ⟨Nat.le_of_ble_eq_true rfl, Nat.le_of_ble_eq_true rfl⟩ (Nat.le_of_ble_eq_true rfl) dX12_tell_111 (fun v111 e9 => c_X12_at _ _ _ v111 e9) h (fun v111 h => ?_) rfl
                    refine xx_iaload C 115 rfl (by decide) (fun _ => rfl) (by decide) dX12_tell_114 h (fun v114 h => ?_)
                    refine xx_cVv (As := [.int (iI v114)]) (st := []) (o := 0) C 118 rfl (by decide) (ceM_0 _ _ _) rfl rfl ca_X12_writesNumber cv_X12_writesNumber w_1533 rfl ⟨Nat.le_of_ble_eq_true rfl, Nat.le_of_ble_eq_true rfl⟩ ⟨Nat.le_of_ble_eq_true rfl, Nat.le_of_ble_eq_true rfl⟩ (Nat.le_of_ble_eq_true rfl) dX12_tell_115 (fun μ115 e9 => c_X12_writesNumber _ _ μ115 e9) h (fun μ115 h => ?_) rfl
                    exact K118 μ115 h
                  · refine xx_aload_n C 96 rfl 0 dX12_tell_95 rfl rfl ?_
                    refine xx_bipush C 98 rfl dX12_tell_96 (by decide) ?_
                    refine xx_cVv (As := [.int (iI 45)]) (st := []) (o := 0) C 101 rfl (by decide) (ceM_0 _ _ _) rfl rfl ca_X12_writes cv_X12_writes w_1537 rfl ⟨Nat.le_of_ble_eq_true rfl, Nat.le_of_ble_eq_true rfl⟩ ⟨Nat.le_of_ble_eq_true rfl, Nat.le_of_ble_eq_true rfl⟩ (Nat.le_of_ble_eq_true rfl) dX12_tell_98 (fun μ98 e9 => c_X12_writes _ _ μ98 e9) h (fun μ98 h => ?_) rfl
                    refine xx_goto C 118 dX12_tell_101 (by decide) ?_
                    exact K118 μ98 h
              · refine xx_if_le (tgt := 80) C 74 rfl dX12_tell_71 (by decide) h (fun h => ?_) (fun h => ?_)
                · exact K80 μ65 h
                · refine xx_aload_n C 75 rfl 0 dX12_tell_74 rfl rfl ?_
                  refine xx_bipush C 77 rfl dX12_tell_75 (by decide) ?_
                  refine xx_cVv (As := [.int (iI 44)]) (st := []) (o := 0) C 80 rfl (by decide) (ceM_0 _ _ _) rfl rfl ca_X12_writes cv_X12_writes w_1537 rfl ⟨Nat.le_of_ble_eq_true rfl, Nat.le_of_ble_eq_true rfl⟩ ⟨Nat.le_of_ble_eq_true rfl, Nat.le_of_ble_eq_true rfl⟩ (Nat.le_of_ble_eq_true rfl) dX12_tell_77 (fun μ77 e9 => c_X12_writes _ _ μ77 e9) h (fun μ77 h => ?_) rfl
                  exact K80 μ77 h
        refine xx_sub [1, 2, 0] rfl ?_
        exact L65 _ _ _ h
    · refine xx_if_le (tgt := 57) C 33 rfl dX12_tell_30 (by decide) h (fun h => ?_) (fun h => ?_)
      · exact K57 μ18 h
      · refine xx_aload_n C 34 rfl 0 dX12_tell_33 rfl rfl ?_
        refine xx_aload_n C 35 rfl 0 dX12_tell_34 rfl rfl ?_
        refine xx_getr (fi := 0) C 38 rfl (by decide) (ceM_0 _ _ _) rfl in_X12 (by decide) rfl w_1179 dX12_tell_35 ?_
        refine xx_bipush C 40 rfl dX12_tell_38 (by decide) ?_
        refine xx_iload_n C 41 rfl 1 dX12_tell_40 rfl rfl ?_
        refine xx_iadd C 42 rfl dX12_tell_41 ?_
        refine xx_iaload C 43 rfl (by decide) (fun _ => rfl) (by decide) dX12_tell_42 h (fun v42 h => ?_)
        refine xx_iconst C 44 rfl dX12_tell_43 ?_
        refine jn_r (fun J => ∀ (s0_54 : Int), J s0_54 = some (a, μr) → wx_ G X 9 ad (ceM G ad) μ18 0 0 54 [(0, .ref (ad 0)), (1, .int (iI a1))] [.int (iI s0_54), .ref (ad 0)]) h (fun s0_54 h => ?_) (fun J54 K54 h => ?_)
        · refine xx_cVv (As := [.int (iI s0_54)]) (st := []) (o := 0) C 57 rfl (by decide) (ceM_0 _ _ _) rfl rfl ca_X12_writes cv_X12_writes w_1537 rfl ⟨Nat.le_of_ble_eq_true rfl, Nat.le_of_ble_eq_true rfl⟩ ⟨Nat.le_of_ble_eq_true rfl, Nat.le_of_ble_eq_true rfl⟩ (Nat.le_of_ble_eq_true rfl) dX12_tell_54 (fun μ54 e9 => c_X12_writes _ _ μ54 e9) h (fun μ54 h => ?_) rfl
          exact K57 μ54 h
        · refine xx_icmp_ne (tgt := 52) C 47 rfl dX12_tell_44 (by decide) h (fun h => ?_) (fun h => ?_)
          · refine xx_bipush C 54 rfl dX12_tell_52 (by decide) ?_
            exact K54 63 h
          · refine xx_bipush C 49 rfl dX12_tell_47 (by decide) ?_
            refine xx_goto C 54 dX12_tell_49 (by decide) ?_
            exact K54 33 h
  · refine xx_bipush C 10 rfl dX12_tell_8 (by decide) ?_
    exact xx_iret C E rfl ⟨Nat.le_of_ble_eq_true rfl, Nat.le_of_ble_eq_true rfl⟩ dX12_tell_10 h

def f_X12_tellHeap_L7  : Nat → Int → mu_T → Option (Int × mu_T)
  | 0, _, _ => none
  | fu7 + 1, x1_7, μ7 => lt_ x1_7 24
      (rd_ μ7 1 293 (17 + x1_7) (fun v22 => jn_ (φ := Int → Option (Int × mu_T)) (fun s0_68 => bd_ (f_X12_writes μ7 s0_68) (fun μ68 => nm_ (x1_7 + 1) (fun n71 => (f_X12_tellHeap_L7 fu7) n71 μ68)))
      (fun J68 => eq_ v22 0
      (J68 46)
      (rd_ μ7 1 293 (41 + x1_7) (fun v39 => eq_ v39 0
      (J68 119)
      (rd_ μ7 1 293 (41 + x1_7) (fun v56 => eq_ v56 1
      (J68 103)
      (J68 98))))))))
      (nm_ (μ7 0 11) (fun v78 => some (v78, μ7)))
def f_X12_tellHeap (μ : mu_T)  : Option (Int × mu_T) :=
  wf_ μ 0 11 0 (fun μ2 => f_X12_tellHeap_L7 20000 0 μ2)
set_option maxHeartbeats 4000000 in
set_option maxRecDepth 100000 in
theorem c_X12_tellHeap {G : gp_} {ad : Nat → Nat} (μ : mu_T)  (a : Int) (μr : mu_T) (h : f_X12_tellHeap μ  = some (a, μr)) : mi_ yX12_tellHeap cX12_tellHeap 2 (some .int) ({ frames := 1, cells := 0, slots := 0, locals := 21 } : Room) G 9 ad (ceM G ad) [.ref (ad 0)] μ a μr := by
  refine mi_in (own := "UrnHeapModel") (lv := [(0, .ref (ad 0))]) (by decide) rfl rfl (Nat.le_of_ble_eq_true rfl) (fun X C E => ?_)
  unfold f_X12_tellHeap at h
  refine xx_aload_n C 1 rfl 0 dX12_tellHeap_0 rfl rfl ?_
  refine xx_iconst C 2 rfl dX12_tellHeap_1 ?_
  refine xx_puti (fi := 11) (j := 11) C 5 rfl (by decide) (ceM_0 _ _ _) (puM_11 _ _ _ _) rfl in_X12 tyX12 tyX12_ok nmX12 (by decide) (Nat.le_of_ble_eq_true rfl) ⟨rfl, rfl⟩ w_1190 dX12_tellHeap_2 h (fun μ2 h => ?_)
  refine xx_iconst C 6 rfl dX12_tellHeap_5 ?_
  refine xx_istore_n (lv1 := [(1, .int (iI 0)), (0, .ref (ad 0))]) C 7 rfl (by decide) dX12_tellHeap_6 rfl rfl ?_
  have L7 : ∀ (fu7 : Nat) (x1_7 : Int) (μ7 : mu_T), f_X12_tellHeap_L7 fu7 x1_7 μ7 = some (a, μr) → wx_ G X 9 ad (ceM G ad) μ7 0 0 7 [(0, .ref (ad 0)), (1, .int (iI x1_7))] [] := by
    intro fu7
    induction fu7 with
    | zero => intro x1_7 μ7 h; exact nn_ h
    | succ fu7 K7 =>
      intro x1_7 μ7 h
      rw [f_X12_tellHeap_L7] at h
      generalize f_X12_tellHeap_L7 fu7 = R7 at K7 h
      refine xx_iload_n C 8 rfl 1 dX12_tellHeap_7 rfl rfl ?_
      refine xx_bipush C 10 rfl dX12_tellHeap_8 (by decide) ?_
      refine xx_icmp_ge (tgt := 77) C 13 rfl dX12_tellHeap_10 (by decide) h (fun h => ?_) (fun h => ?_)
      · refine xx_aload_n C 78 rfl 0 dX12_tellHeap_77 rfl rfl ?_
        refine xx_geti (fi := 11) (j := 11) C 81 rfl (by decide) (ceM_0 _ _ _) rfl in_X12 (by decide) rfl w_1190 dX12_tellHeap_78 h (fun v78 h => ?_)
        exact xx_iret C E rfl ⟨Nat.le_of_ble_eq_true rfl, Nat.le_of_ble_eq_true rfl⟩ dX12_tellHeap_81 h
      · refine xx_aload_n C 14 rfl 0 dX12_tellHeap_13 rfl rfl ?_
        refine xx_aload_n C 15 rfl 0 dX12_tellHeap_14 rfl rfl ?_
        refine xx_getr (fi := 0) C 18 rfl (by decide) (ceM_0 _ _ _) rfl in_X12 (by decide) rfl w_1179 dX12_tellHeap_15 ?_
        refine xx_bipush C 20 rfl dX12_tellHeap_18 (by decide) ?_
        refine xx_iload_n C 21 rfl 1 dX12_tellHeap_20 rfl rfl ?_
        refine xx_iadd C 22 rfl dX12_tellHeap_21 ?_
        refine xx_iaload C 23 rfl (by decide) (fun _ => rfl) (by decide) dX12_tellHeap_22 h (fun v22 h => ?_)
        refine jn_r (fun J => ∀ (s0_68 : Int), J s0_68 = some (a, μr) → wx_ G X 9 ad (ceM G ad) μ7 0 0 68 [(0, .ref (ad 0)), (1, .int (iI x1_7))] [.int (iI s0_68), .ref (ad 0)]) h (fun s0_68 h => ?_) (fun J68 K68 h => ?_)
        · refine xx_cVv (As := [.int (iI s0_68)]) (st := []) (o := 0) C 71 rfl (by decide) (ceM_0 _ _ _) rfl rfl ca_X12_writes cv_X12_writes w_1537 rfl ⟨Nat.le_of_ble_eq_true rfl, Nat.le_of_ble_eq_true rfl⟩ ⟨Nat.le_of_ble_eq_true rfl, Nat.le_of_ble_eq_true rfl⟩ (Nat.le_of_ble_eq_true rfl) dX12_tellHeap_68 (fun μ68 e9 => c_X12_writes _ _ μ68 e9) h (fun μ68 h => ?_) rfl
          refine xx_iincn C 74 rfl 1 (by decide) dX12_tellHeap_71 rfl h (fun n71 h => ?_)
          refine xx_lv (lv1 := [(1, .int (iI n71)), (0, .ref (ad 0))]) rfl ?_
          refine xx_goto C 7 dX12_tellHeap_74 (by decide) ?_
          refine xx_sub [1, 0] rfl ?_
          exact K7 n71 μ68 h
        · refine xx_if_ne (tgt := 31) C 26 rfl dX12_tellHeap_23 (by decide) h (fun h => ?_) (fun h => ?_)
          · refine xx_aload_n C 32 rfl 0 dX12_tellHeap_31 rfl rfl ?_
            refine xx_getr (fi := 0) C 35 rfl (by decide) (ceM_0 _ _ _) rfl in_X12 (by decide) rfl w_1179 dX12_tellHeap_32 ?_
            refine xx_bipush C 37 rfl dX12_tellHeap_35 (by decide) ?_
            refine xx_iload_n C 38 rfl 1 dX12_tellHeap_37 rfl rfl ?_
            refine xx_iadd C 39 rfl dX12_tellHeap_38 ?_
            refine xx_iaload C 40 rfl (by decide) (fun _ => rfl) (by decide) dX12_tellHeap_39 h (fun v39 h => ?_)
            refine xx_if_ne (tgt := 48) C 43 rfl dX12_tellHeap_40 (by decide) h (fun h => ?_) (fun h => ?_)
            · refine xx_aload_n C 49 rfl 0 dX12_tellHeap_48 rfl rfl ?_
              refine xx_getr (fi := 0) C 52 rfl (by decide) (ceM_0 _ _ _) rfl in_X12 (by decide) rfl w_1179 dX12_tellHeap_49 ?_
              refine xx_bipush C 54 rfl dX12_tellHeap_52 (by decide) ?_
              refine xx_iload_n C 55 rfl 1 dX12_tellHeap_54 rfl rfl ?_
              refine xx_iadd C 56 rfl dX12_tellHeap_55 ?_
              refine xx_iaload C 57 rfl (by decide) (fun _ => rfl) (by decide) dX12_tellHeap_56 h (fun v56 h => ?_)
              refine xx_iconst C 58 rfl dX12_tellHeap_57 ?_
              refine xx_icmp_ne (tgt := 66) C 61 rfl dX12_tellHeap_58 (by decide) h (fun h => ?_) (fun h => ?_)
              · refine xx_bipush C 68 rfl dX12_tellHeap_66 (by decide) ?_
                exact K68 98 h
              · refine xx_bipush C 63 rfl dX12_tellHeap_61 (by decide) ?_
                refine xx_goto C 68 dX12_tellHeap_63 (by decide) ?_
                exact K68 103 h
            · refine xx_bipush C 45 rfl dX12_tellHeap_43 (by decide) ?_
              refine xx_goto C 68 dX12_tellHeap_45 (by decide) ?_
              exact K68 119 h
          · refine xx_bipush C 28 rfl dX12_tellHeap_26 (by decide) ?_
            refine xx_goto C 68 dX12_tellHeap_28 (by decide) ?_
            exact K68 46 h
  refine xx_sub [1, 0] rfl ?_
  exact L7 _ _ _ h

def f_X12_character (μ : mu_T) (a1 : Int) : Option Int :=
  nm_ (μ 0 11) (fun v3 => bd_ (f_X12_in μ a1 0 (v3 - 1)) (fun v8 => eq_ v8 0
      (some (-11))
      (rd_ μ 7 60 a1 (fun v19 => some v19))))
set_option maxHeartbeats 4000000 in
set_option maxRecDepth 100000 in
theorem c_X12_character {G : gp_} {ad : Nat → Nat} (μ : mu_T) (a1 : Int) (a : Int) (h : f_X12_character μ a1 = some a) : mi_ yX12_character cX12_character 2 (some .int) ({ frames := 1, cells := 0, slots := 0, locals := 22 } : Room) G 9 ad (ceM G ad) [.ref (ad 0), .int (iI a1)] μ a μ := by
  refine mi_in (own := "UrnHeapModel") (lv := [(0, .ref (ad 0)), (1, .int (iI a1))]) (by decide) rfl rfl (Nat.le_of_ble_eq_true rfl) (fun X C E => ?_)
  unfold f_X12_character at h
  refine xx_iload_n C 1 rfl 1 dX12_character_0 rfl rfl ?_
  refine xx_iconst C 2 rfl dX12_character_1 ?_
  refine xx_aload_n C 3 rfl 0 dX12_character_2 rfl rfl ?_
  refine xx_geti (fi := 11) (j := 11) C 6 rfl (by decide) (ceM_0 _ _ _) rfl in_X12 (by decide) rfl w_1190 dX12_character_3 h (fun v3 h => ?_)
  refine xx_iconst C 7 rfl dX12_character_6 ?_
  refine xx_isub C 8 rfl dX12_character_7 ?_
  refine xx_cSip (As := [.int (iI a1), .int (iI 0), .int (iI (v3 - 1))]) (st := []) C 11 rfl  ca_X12_in cs_X12_in w_1280 rfl ⟨Nat.le_of_ble_eq_true rfl, Nat.le_of_ble_eq_true rfl⟩ ⟨Nat.le_of_ble_eq_true rfl, Nat.le_of_ble_eq_true rfl⟩ (Nat.le_of_ble_eq_true rfl) dX12_character_8 (fun v8 e9 => c_X12_in _ _ _ _ v8 e9) h (fun v8 h => ?_) rfl
  refine xx_if_eq (tgt := 23) C 14 rfl dX12_character_11 (by decide) h (fun h => ?_) (fun h => ?_)
  · refine xx_bipush C 25 rfl dX12_character_23 (by decide) ?_
    exact xx_iretp C E rfl ⟨Nat.le_of_ble_eq_true rfl, Nat.le_of_ble_eq_true rfl⟩ dX12_character_25 h
  · refine xx_aload_n C 15 rfl 0 dX12_character_14 rfl rfl ?_
    refine xx_getr (fi := 8) C 18 rfl (by decide) (ceM_0 _ _ _) rfl in_X12 (by decide) rfl w_1187 dX12_character_15 ?_
    refine xx_iload_n C 19 rfl 1 dX12_character_18 rfl rfl ?_
    refine xx_iaload C 20 rfl (by decide) (fun _ => rfl) (by decide) dX12_character_19 h (fun v19 h => ?_)
    refine xx_goto C 25 dX12_character_20 (by decide) ?_
    exact xx_iretp C E rfl ⟨Nat.le_of_ble_eq_true rfl, Nat.le_of_ble_eq_true rfl⟩ dX12_character_25 h

def f_X12_reason (μ : mu_T) (a1 : Int) : Option Int :=
  nm_ (μ 0 12) (fun v1 => eq_ v1 0
      (some (-15))
      (eq_ a1 0
      (nm_ (μ 0 12) (fun v24 => some v24))
      (nm_ (μ 0 13) (fun v17 => some v17))))
set_option maxHeartbeats 4000000 in
set_option maxRecDepth 100000 in
theorem c_X12_reason {G : gp_} {ad : Nat → Nat} (μ : mu_T) (a1 : Int) (a : Int) (h : f_X12_reason μ a1 = some a) : mi_ yX12_reason cX12_reason 2 (some .int) ({ frames := 0, cells := 0, slots := 0, locals := 0 } : Room) G 9 ad (ceM G ad) [.ref (ad 0), .int (iI a1)] μ a μ := by
  refine mi_in (own := "UrnHeapModel") (lv := [(0, .ref (ad 0)), (1, .int (iI a1))]) (by decide) rfl rfl (Nat.le_of_ble_eq_true rfl) (fun X C E => ?_)
  unfold f_X12_reason at h
  refine xx_aload_n C 1 rfl 0 dX12_reason_0 rfl rfl ?_
  refine xx_geti (fi := 12) (j := 12) C 4 rfl (by decide) (ceM_0 _ _ _) rfl in_X12 (by decide) rfl w_1191 dX12_reason_1 h (fun v1 h => ?_)
  refine xx_if_ne (tgt := 12) C 7 rfl dX12_reason_4 (by decide) h (fun h => ?_) (fun h => ?_)
  · refine xx_iload_n C 13 rfl 1 dX12_reason_12 rfl rfl ?_
    refine xx_if_eq (tgt := 23) C 16 rfl dX12_reason_13 (by decide) h (fun h => ?_) (fun h => ?_)
    · refine xx_aload_n C 24 rfl 0 dX12_reason_23 rfl rfl ?_
      refine xx_geti (fi := 12) (j := 12) C 27 rfl (by decide) (ceM_0 _ _ _) rfl in_X12 (by decide) rfl w_1191 dX12_reason_24 h (fun v24 h => ?_)
      exact xx_iretp C E rfl ⟨Nat.le_of_ble_eq_true rfl, Nat.le_of_ble_eq_true rfl⟩ dX12_reason_27 h
    · refine xx_aload_n C 17 rfl 0 dX12_reason_16 rfl rfl ?_
      refine xx_geti (fi := 13) (j := 13) C 20 rfl (by decide) (ceM_0 _ _ _) rfl in_X12 (by decide) rfl w_1192 dX12_reason_17 h (fun v17 h => ?_)
      refine xx_goto C 27 dX12_reason_20 (by decide) ?_
      exact xx_iretp C E rfl ⟨Nat.le_of_ble_eq_true rfl, Nat.le_of_ble_eq_true rfl⟩ dX12_reason_27 h
  · refine xx_bipush C 9 rfl dX12_reason_7 (by decide) ?_
    refine xx_goto C 27 dX12_reason_9 (by decide) ?_
    exact xx_iretp C E rfl ⟨Nat.le_of_ble_eq_true rfl, Nat.le_of_ble_eq_true rfl⟩ dX12_reason_27 h

def f_X12_manyUrns_L4 (μ : mu_T) : Nat → Int → Int → Option Int
  | 0, _, _ => none
  | fu4 + 1, x1_4, x2_4 => lt_ x2_4 24
      (rd_ μ 1 293 (17 + x2_4) (fun v19 => nm_ ((x1_4 + v19)) (fun n21 => nm_ (x2_4 + 1) (fun n22 => (f_X12_manyUrns_L4 μ fu4) n21 n22))))
      (some x1_4)
def f_X12_manyUrns (μ : mu_T)  : Option Int :=
  f_X12_manyUrns_L4 μ 20000 0 0
set_option maxHeartbeats 4000000 in
set_option maxRecDepth 100000 in
theorem c_X12_manyUrns {G : gp_} {ad : Nat → Nat} (μ : mu_T)  (a : Int) (h : f_X12_manyUrns μ  = some a) : mi_ yX12_manyUrns cX12_manyUrns 3 (some .int) ({ frames := 0, cells := 0, slots := 0, locals := 0 } : Room) G 9 ad (ceM G ad) [.ref (ad 0)] μ a μ := by
  refine mi_in (own := "UrnHeapModel") (lv := [(0, .ref (ad 0))]) (by decide) rfl rfl (Nat.le_of_ble_eq_true rfl) (fun X C E => ?_)
  unfold f_X12_manyUrns at h
  refine xx_iconst C 1 rfl dX12_manyUrns_0 ?_
  refine xx_istore_n (lv1 := [(1, .int (iI 0)), (0, .ref (ad 0))]) C 2 rfl (by decide) dX12_manyUrns_1 rfl rfl ?_
  refine xx_iconst C 3 rfl dX12_manyUrns_2 ?_
  refine xx_istore_n (lv1 := [(2, .int (iI 0)), (1, .int (iI 0)), (0, .ref (ad 0))]) C 4 rfl (by decide) dX12_manyUrns_3 rfl rfl ?_
  have L4 : ∀ (fu4 : Nat) (x1_4 : Int) (x2_4 : Int), f_X12_manyUrns_L4 μ fu4 x1_4 x2_4 = some a → wx_ G X 9 ad (ceM G ad) μ 0 0 4 [(0, .ref (ad 0)), (1, .int (iI x1_4)), (2, .int (iI x2_4))] [] := by
    intro fu4
    induction fu4 with
    | zero => intro x1_4 x2_4 h; exact nn_ h
    | succ fu4 K4 =>
      intro x1_4 x2_4 h
      rw [f_X12_manyUrns_L4] at h
      generalize f_X12_manyUrns_L4 μ fu4 = R4 at K4 h
      refine xx_iload_n C 5 rfl 2 dX12_manyUrns_4 rfl rfl ?_
      refine xx_bipush C 7 rfl dX12_manyUrns_5 (by decide) ?_
      refine xx_icmp_ge (tgt := 28) C 10 rfl dX12_manyUrns_7 (by decide) h (fun h => ?_) (fun h => ?_)
      · refine xx_iload_n C 29 rfl 1 dX12_manyUrns_28 rfl rfl ?_
        exact xx_iretp C E rfl ⟨Nat.le_of_ble_eq_true rfl, Nat.le_of_ble_eq_true rfl⟩ dX12_manyUrns_29 h
      · refine xx_iload_n C 11 rfl 1 dX12_manyUrns_10 rfl rfl ?_
        refine xx_aload_n C 12 rfl 0 dX12_manyUrns_11 rfl rfl ?_
        refine xx_getr (fi := 0) C 15 rfl (by decide) (ceM_0 _ _ _) rfl in_X12 (by decide) rfl w_1179 dX12_manyUrns_12 ?_
        refine xx_bipush C 17 rfl dX12_manyUrns_15 (by decide) ?_
        refine xx_iload_n C 18 rfl 2 dX12_manyUrns_17 rfl rfl ?_
        refine xx_iadd C 19 rfl dX12_manyUrns_18 ?_
        refine xx_iaload C 20 rfl (by decide) (fun _ => rfl) (by decide) dX12_manyUrns_19 h (fun v19 h => ?_)
        refine xx_iadd C 21 rfl dX12_manyUrns_20 ?_
        refine xx_nm C h (fun n21 h => ?_)
        refine xx_istore_n (lv1 := [(1, .int (iI n21)), (0, .ref (ad 0)), (2, .int (iI x2_4))]) C 22 rfl (by decide) dX12_manyUrns_21 rfl rfl ?_
        refine xx_iincn C 25 rfl 2 (by decide) dX12_manyUrns_22 rfl h (fun n22 h => ?_)
        refine xx_lv (lv1 := [(2, .int (iI n22)), (1, .int (iI n21)), (0, .ref (ad 0))]) rfl ?_
        refine xx_goto C 4 dX12_manyUrns_25 (by decide) ?_
        refine xx_sub [2, 1, 0] rfl ?_
        exact K4 n21 n22 h
  refine xx_sub [2, 1, 0] rfl ?_
  exact L4 _ _ _ h

def f_X12_manyThat_L4 (a1 : Int) (μ : mu_T) : Nat → Int → Int → Option Int
  | 0, _, _ => none
  | fu4 + 1, x2_4, x3_4 => lt_ x3_4 24
      (rd_ μ 1 293 (17 + x3_4) (fun v19 => jn_ (φ := Int → Option Int) (fun s0_42 => nm_ ((x2_4 + s0_42)) (fun n43 => nm_ (x3_4 + 1) (fun n44 => (f_X12_manyThat_L4 a1 μ fu4) n43 n44)))
      (fun J42 => jn_ (φ := Unit → Option Int) (fun _ => J42 0)
      (fun J41 => eq_ v19 1
      (rd_ μ 1 293 (41 + x3_4) (fun v32 => eq_ v32 a1
      (J42 1)
      (J41 ())))
      (J41 ())))))
      (some x2_4)
def f_X12_manyThat (μ : mu_T) (a1 : Int) : Option Int :=
  f_X12_manyThat_L4 a1 μ 20000 0 0
set_option maxHeartbeats 4000000 in
set_option maxRecDepth 100000 in
theorem c_X12_manyThat {G : gp_} {ad : Nat → Nat} (μ : mu_T) (a1 : Int) (a : Int) (h : f_X12_manyThat μ a1 = some a) : mi_ yX12_manyThat cX12_manyThat 4 (some .int) ({ frames := 0, cells := 0, slots := 0, locals := 0 } : Room) G 9 ad (ceM G ad) [.ref (ad 0), .int (iI a1)] μ a μ := by
  refine mi_in (own := "UrnHeapModel") (lv := [(0, .ref (ad 0)), (1, .int (iI a1))]) (by decide) rfl rfl (Nat.le_of_ble_eq_true rfl) (fun X C E => ?_)
  unfold f_X12_manyThat at h
  refine xx_iconst C 1 rfl dX12_manyThat_0 ?_
  refine xx_istore_n (lv1 := [(2, .int (iI 0)), (0, .ref (ad 0)), (1, .int (iI a1))]) C 2 rfl (by decide) dX12_manyThat_1 rfl rfl ?_
  refine xx_iconst C 3 rfl dX12_manyThat_2 ?_
  refine xx_istore_n (lv1 := [(3, .int (iI 0)), (2, .int (iI 0)), (0, .ref (ad 0)), (1, .int (iI a1))]) C 4 rfl (by decide) dX12_manyThat_3 rfl rfl ?_
  have L4 : ∀ (fu4 : Nat) (x2_4 : Int) (x3_4 : Int), f_X12_manyThat_L4 a1 μ fu4 x2_4 x3_4 = some a → wx_ G X 9 ad (ceM G ad) μ 0 0 4 [(0, .ref (ad 0)), (1, .int (iI a1)), (2, .int (iI x2_4)), (3, .int (iI x3_4))] [] := by
    intro fu4
    induction fu4 with
    | zero => intro x2_4 x3_4 h; exact nn_ h
    | succ fu4 K4 =>
      intro x2_4 x3_4 h
      rw [f_X12_manyThat_L4] at h
      generalize f_X12_manyThat_L4 a1 μ fu4 = R4 at K4 h
      refine xx_iload_n C 5 rfl 3 dX12_manyThat_4 rfl rfl ?_
      refine xx_bipush C 7 rfl dX12_manyThat_5 (by decide) ?_
      refine xx_icmp_ge (tgt := 50) C 10 rfl dX12_manyThat_7 (by decide) h (fun h => ?_) (fun h => ?_)
      · refine xx_iload_n C 51 rfl 2 dX12_manyThat_50 rfl rfl ?_
        exact xx_iretp C E rfl ⟨Nat.le_of_ble_eq_true rfl, Nat.le_of_ble_eq_true rfl⟩ dX12_manyThat_51 h
      · refine xx_iload_n C 11 rfl 2 dX12_manyThat_10 rfl rfl ?_
        refine xx_aload_n C 12 rfl 0 dX12_manyThat_11 rfl rfl ?_
        refine xx_getr (fi := 0) C 15 rfl (by decide) (ceM_0 _ _ _) rfl in_X12 (by decide) rfl w_1179 dX12_manyThat_12 ?_
        refine xx_bipush C 17 rfl dX12_manyThat_15 (by decide) ?_
        refine xx_iload_n C 18 rfl 3 dX12_manyThat_17 rfl rfl ?_
        refine xx_iadd C 19 rfl dX12_manyThat_18 ?_
        refine xx_iaload C 20 rfl (by decide) (fun _ => rfl) (by decide) dX12_manyThat_19 h (fun v19 h => ?_)
        refine xx_iconst C 21 rfl dX12_manyThat_20 ?_
        refine jn_r (fun J => ∀ (s0_42 : Int), J s0_42 = some a → wx_ G X 9 ad (ceM G ad) μ 0 0 42 [(0, .ref (ad 0)), (1, .int (iI a1)), (3, .int (iI x3_4))] [.int (iI s0_42), .int (iI x2_4)]) h (fun s0_42 h => ?_) (fun J42 K42 h => ?_)
        · refine xx_iadd C 43 rfl dX12_manyThat_42 ?_
          refine xx_nm C h (fun n43 h => ?_)
          refine xx_istore_n (lv1 := [(2, .int (iI n43)), (0, .ref (ad 0)), (1, .int (iI a1)), (3, .int (iI x3_4))]) C 44 rfl (by decide) dX12_manyThat_43 rfl rfl ?_
          refine xx_iincn C 47 rfl 3 (by decide) dX12_manyThat_44 rfl h (fun n44 h => ?_)
          refine xx_lv (lv1 := [(3, .int (iI n44)), (2, .int (iI n43)), (0, .ref (ad 0)), (1, .int (iI a1))]) rfl ?_
          refine xx_goto C 4 dX12_manyThat_47 (by decide) ?_
          refine xx_sub [2, 3, 1, 0] rfl ?_
          exact K4 n43 n44 h
        · refine jn_r (fun J => ∀ (_u : Unit), J _u = some a → wx_ G X 9 ad (ceM G ad) μ 0 0 41 [(0, .ref (ad 0)), (1, .int (iI a1)), (3, .int (iI x3_4))] [.int (iI x2_4)]) h (fun _ h => ?_) (fun J41 K41 h => ?_)
          · refine xx_iconst C 42 rfl dX12_manyThat_41 ?_
            exact K42 0 h
          · refine xx_icmp_ne (tgt := 41) C 24 rfl dX12_manyThat_21 (by decide) h (fun h => ?_) (fun h => ?_)
            · refine xx_sub [0, 1, 3] rfl ?_
              exact K41 () h
            · refine xx_aload_n C 25 rfl 0 dX12_manyThat_24 rfl rfl ?_
              refine xx_getr (fi := 0) C 28 rfl (by decide) (ceM_0 _ _ _) rfl in_X12 (by decide) rfl w_1179 dX12_manyThat_25 ?_
              refine xx_bipush C 30 rfl dX12_manyThat_28 (by decide) ?_
              refine xx_iload_n C 31 rfl 3 dX12_manyThat_30 rfl rfl ?_
              refine xx_iadd C 32 rfl dX12_manyThat_31 ?_
              refine xx_iaload C 33 rfl (by decide) (fun _ => rfl) (by decide) dX12_manyThat_32 h (fun v32 h => ?_)
              refine xx_iload_n C 34 rfl 1 dX12_manyThat_33 rfl rfl ?_
              refine xx_icmp_ne (tgt := 41) C 37 rfl dX12_manyThat_34 (by decide) h (fun h => ?_) (fun h => ?_)
              · refine xx_sub [0, 1, 3] rfl ?_
                exact K41 () h
              · refine xx_iconst C 38 rfl dX12_manyThat_37 ?_
                refine xx_goto C 42 dX12_manyThat_38 (by decide) ?_
                refine xx_sub [0, 1, 3] rfl ?_
                exact K42 1 h
  refine xx_sub [2, 3, 1, 0] rfl ?_
  exact L4 _ _ _ h

def f_X12_namesUsed_L4 (μ : mu_T) : Nat → Int → Int → Option Int
  | 0, _, _ => none
  | fu4 + 1, x1_4, x2_4 => lt_ x2_4 6
      (rd_ μ 1 293 (11 + x2_4) (fun v19 => jn_ (φ := Int → Option Int) (fun s0_30 => nm_ ((x1_4 + s0_30)) (fun n31 => nm_ (x2_4 + 1) (fun n32 => (f_X12_namesUsed_L4 μ fu4) n31 n32)))
      (fun J30 => eq_ v19 (-15)
      (J30 0)
      (J30 1))))
      (some x1_4)
def f_X12_namesUsed (μ : mu_T)  : Option Int :=
  f_X12_namesUsed_L4 μ 20000 0 0
set_option maxHeartbeats 4000000 in
set_option maxRecDepth 100000 in
theorem c_X12_namesUsed {G : gp_} {ad : Nat → Nat} (μ : mu_T)  (a : Int) (h : f_X12_namesUsed μ  = some a) : mi_ yX12_namesUsed cX12_namesUsed 3 (some .int) ({ frames := 0, cells := 0, slots := 0, locals := 0 } : Room) G 9 ad (ceM G ad) [.ref (ad 0)] μ a μ := by
  refine mi_in (own := "UrnHeapModel") (lv := [(0, .ref (ad 0))]) (by decide) rfl rfl (Nat.le_of_ble_eq_true rfl) (fun X C E => ?_)
  unfold f_X12_namesUsed at h
  refine xx_iconst C 1 rfl dX12_namesUsed_0 ?_
  refine xx_istore_n (lv1 := [(1, .int (iI 0)), (0, .ref (ad 0))]) C 2 rfl (by decide) dX12_namesUsed_1 rfl rfl ?_
  refine xx_iconst C 3 rfl dX12_namesUsed_2 ?_
  refine xx_istore_n (lv1 := [(2, .int (iI 0)), (1, .int (iI 0)), (0, .ref (ad 0))]) C 4 rfl (by decide) dX12_namesUsed_3 rfl rfl ?_
  have L4 : ∀ (fu4 : Nat) (x1_4 : Int) (x2_4 : Int), f_X12_namesUsed_L4 μ fu4 x1_4 x2_4 = some a → wx_ G X 9 ad (ceM G ad) μ 0 0 4 [(0, .ref (ad 0)), (1, .int (iI x1_4)), (2, .int (iI x2_4))] [] := by
    intro fu4
    induction fu4 with
    | zero => intro x1_4 x2_4 h; exact nn_ h
    | succ fu4 K4 =>
      intro x1_4 x2_4 h
      rw [f_X12_namesUsed_L4] at h
      generalize f_X12_namesUsed_L4 μ fu4 = R4 at K4 h
      refine xx_iload_n C 5 rfl 2 dX12_namesUsed_4 rfl rfl ?_
      refine xx_bipush C 7 rfl dX12_namesUsed_5 (by decide) ?_
      refine xx_icmp_ge (tgt := 38) C 10 rfl dX12_namesUsed_7 (by decide) h (fun h => ?_) (fun h => ?_)
      · refine xx_iload_n C 39 rfl 1 dX12_namesUsed_38 rfl rfl ?_
        exact xx_iretp C E rfl ⟨Nat.le_of_ble_eq_true rfl, Nat.le_of_ble_eq_true rfl⟩ dX12_namesUsed_39 h
      · refine xx_iload_n C 11 rfl 1 dX12_namesUsed_10 rfl rfl ?_
        refine xx_aload_n C 12 rfl 0 dX12_namesUsed_11 rfl rfl ?_
        refine xx_getr (fi := 0) C 15 rfl (by decide) (ceM_0 _ _ _) rfl in_X12 (by decide) rfl w_1179 dX12_namesUsed_12 ?_
        refine xx_bipush C 17 rfl dX12_namesUsed_15 (by decide) ?_
        refine xx_iload_n C 18 rfl 2 dX12_namesUsed_17 rfl rfl ?_
        refine xx_iadd C 19 rfl dX12_namesUsed_18 ?_
        refine xx_iaload C 20 rfl (by decide) (fun _ => rfl) (by decide) dX12_namesUsed_19 h (fun v19 h => ?_)
        refine xx_bipush C 22 rfl dX12_namesUsed_20 (by decide) ?_
        refine jn_r (fun J => ∀ (s0_30 : Int), J s0_30 = some a → wx_ G X 9 ad (ceM G ad) μ 0 0 30 [(0, .ref (ad 0)), (2, .int (iI x2_4))] [.int (iI s0_30), .int (iI x1_4)]) h (fun s0_30 h => ?_) (fun J30 K30 h => ?_)
        · refine xx_iadd C 31 rfl dX12_namesUsed_30 ?_
          refine xx_nm C h (fun n31 h => ?_)
          refine xx_istore_n (lv1 := [(1, .int (iI n31)), (0, .ref (ad 0)), (2, .int (iI x2_4))]) C 32 rfl (by decide) dX12_namesUsed_31 rfl rfl ?_
          refine xx_iincn C 35 rfl 2 (by decide) dX12_namesUsed_32 rfl h (fun n32 h => ?_)
          refine xx_lv (lv1 := [(2, .int (iI n32)), (1, .int (iI n31)), (0, .ref (ad 0))]) rfl ?_
          refine xx_goto C 4 dX12_namesUsed_35 (by decide) ?_
          refine xx_sub [2, 1, 0] rfl ?_
          exact K4 n31 n32 h
        · refine xx_icmp_ne (tgt := 29) C 25 rfl dX12_namesUsed_22 (by decide) h (fun h => ?_) (fun h => ?_)
          · refine xx_iconst C 30 rfl dX12_namesUsed_29 ?_
            refine xx_sub [0, 2] rfl ?_
            exact K30 1 h
          · refine xx_iconst C 26 rfl dX12_namesUsed_25 ?_
            refine xx_goto C 30 dX12_namesUsed_26 (by decide) ?_
            refine xx_sub [0, 2] rfl ?_
            exact K30 0 h
  refine xx_sub [2, 1, 0] rfl ?_
  exact L4 _ _ _ h

def f_X12_account (μ : mu_T) (a1 : Int) : Option Int :=
  bd_ (f_X12_in μ a1 4 6) (fun v4 => eq_ v4 0
      (ts_ a1 [0, 1, 2, 3, 7, 8, 9, 10, 11, 12, 13, 14, 15] [rd_ μ 1 293 2 (fun v101 => some v101),
      rd_ μ 1 293 0 (fun v108 => some v108),
      rd_ μ 1 293 1 (fun v115 => some v115),
      bd_ (f_X12_manyUrns μ) (fun v118 => some v118),
      rd_ μ 1 293 3 (fun v127 => some v127),
      rd_ μ 1 293 4 (fun v134 => some v134),
      rd_ μ 1 293 9 (fun v142 => some v142),
      rd_ μ 1 293 5 (fun v149 => some v149),
      rd_ μ 1 293 6 (fun v157 => some v157),
      bd_ (f_X12_namesUsed μ) (fun v160 => some v160),
      rd_ μ 1 293 7 (fun v170 => some v170),
      nm_ (μ 0 10) (fun v173 => some v173),
      nm_ (μ 0 4) (fun v178 => some v178)]
      (some (-12)))
      (bd_ (f_X12_manyThat μ (a1 - 4)) (fun v14 => some v14)))
set_option maxHeartbeats 4000000 in
set_option maxRecDepth 100000 in
theorem c_X12_account {G : gp_} {ad : Nat → Nat} (μ : mu_T) (a1 : Int) (a : Int) (h : f_X12_account μ a1 = some a) : mi_ yX12_account cX12_account 2 (some .int) ({ frames := 1, cells := 0, slots := 0, locals := 23 } : Room) G 9 ad (ceM G ad) [.ref (ad 0), .int (iI a1)] μ a μ := by
  refine mi_in (own := "UrnHeapModel") (lv := [(0, .ref (ad 0)), (1, .int (iI a1))]) (by decide) rfl rfl (Nat.le_of_ble_eq_true rfl) (fun X C E => ?_)
  unfold f_X12_account at h
  refine xx_iload_n C 1 rfl 1 dX12_account_0 rfl rfl ?_
  refine xx_iconst C 2 rfl dX12_account_1 ?_
  refine xx_bipush C 4 rfl dX12_account_2 (by decide) ?_
  refine xx_cSip (As := [.int (iI a1), .int (iI 4), .int (iI 6)]) (st := []) C 7 rfl  ca_X12_in cs_X12_in w_1280 rfl ⟨Nat.le_of_ble_eq_true rfl, Nat.le_of_ble_eq_true rfl⟩ ⟨Nat.le_of_ble_eq_true rfl, Nat.le_of_ble_eq_true rfl⟩ (Nat.le_of_ble_eq_true rfl) dX12_account_4 (fun v4 e9 => c_X12_in _ _ _ _ v4 e9) h (fun v4 h => ?_) rfl
  refine xx_if_eq (tgt := 18) C 10 rfl dX12_account_7 (by decide) h (fun h => ?_) (fun h => ?_)
  · refine xx_iload_n C 19 rfl 1 dX12_account_18 rfl rfl ?_
    refine xx_tsw C [0, 1, 2, 3, 7, 8, 9, 10, 11, 12, 13, 14, 15] _ [96, 103, 110, 117, 122, 129, 136, 144, 151, 159, 164, 172, 177] 182 dX12_account_19 (by decide) rfl h (fun h => ?_) ⟨fun h => ?_, fun h => ?_, fun h => ?_, fun h => ?_, fun h => ?_, fun h => ?_, fun h => ?_, fun h => ?_, fun h => ?_, fun h => ?_, fun h => ?_, fun h => ?_, fun h => ?_, trivial⟩
    · refine xx_bipush C 184 rfl dX12_account_182 (by decide) ?_
      exact xx_iretp C E rfl ⟨Nat.le_of_ble_eq_true rfl, Nat.le_of_ble_eq_true rfl⟩ dX12_account_184 h
    · refine xx_aload_n C 97 rfl 0 dX12_account_96 rfl rfl ?_
      refine xx_getr (fi := 0) C 100 rfl (by decide) (ceM_0 _ _ _) rfl in_X12 (by decide) rfl w_1179 dX12_account_97 ?_
      refine xx_iconst C 101 rfl dX12_account_100 ?_
      refine xx_iaload C 102 rfl (by decide) (fun _ => rfl) (by decide) dX12_account_101 h (fun v101 h => ?_)
      exact xx_iretp C E rfl ⟨Nat.le_of_ble_eq_true rfl, Nat.le_of_ble_eq_true rfl⟩ dX12_account_102 h
    · refine xx_aload_n C 104 rfl 0 dX12_account_103 rfl rfl ?_
      refine xx_getr (fi := 0) C 107 rfl (by decide) (ceM_0 _ _ _) rfl in_X12 (by decide) rfl w_1179 dX12_account_104 ?_
      refine xx_iconst C 108 rfl dX12_account_107 ?_
      refine xx_iaload C 109 rfl (by decide) (fun _ => rfl) (by decide) dX12_account_108 h (fun v108 h => ?_)
      exact xx_iretp C E rfl ⟨Nat.le_of_ble_eq_true rfl, Nat.le_of_ble_eq_true rfl⟩ dX12_account_109 h
    · refine xx_aload_n C 111 rfl 0 dX12_account_110 rfl rfl ?_
      refine xx_getr (fi := 0) C 114 rfl (by decide) (ceM_0 _ _ _) rfl in_X12 (by decide) rfl w_1179 dX12_account_111 ?_
      refine xx_iconst C 115 rfl dX12_account_114 ?_
      refine xx_iaload C 116 rfl (by decide) (fun _ => rfl) (by decide) dX12_account_115 h (fun v115 h => ?_)
      exact xx_iretp C E rfl ⟨Nat.le_of_ble_eq_true rfl, Nat.le_of_ble_eq_true rfl⟩ dX12_account_116 h
    · refine xx_aload_n C 118 rfl 0 dX12_account_117 rfl rfl ?_
      refine xx_cVip (As := []) (st := []) (o := 0) C 121 rfl (by decide) (ceM_0 _ _ _) rfl rfl ca_X12_manyUrns cv_X12_manyUrns w_1561 rfl ⟨Nat.le_of_ble_eq_true rfl, Nat.le_of_ble_eq_true rfl⟩ ⟨Nat.le_of_ble_eq_true rfl, Nat.le_of_ble_eq_true rfl⟩ (Nat.le_of_ble_eq_true rfl) dX12_account_118 (fun v118 e9 => c_X12_manyUrns _ v118 e9) h (fun v118 h => ?_) rfl
      exact xx_iretp C E rfl ⟨Nat.le_of_ble_eq_true rfl, Nat.le_of_ble_eq_true rfl⟩ dX12_account_121 h
    · refine xx_aload_n C 123 rfl 0 dX12_account_122 rfl rfl ?_
      refine xx_getr (fi := 0) C 126 rfl (by decide) (ceM_0 _ _ _) rfl in_X12 (by decide) rfl w_1179 dX12_account_123 ?_
      refine xx_iconst C 127 rfl dX12_account_126 ?_
      refine xx_iaload C 128 rfl (by decide) (fun _ => rfl) (by decide) dX12_account_127 h (fun v127 h => ?_)
      exact xx_iretp C E rfl ⟨Nat.le_of_ble_eq_true rfl, Nat.le_of_ble_eq_true rfl⟩ dX12_account_128 h
    · refine xx_aload_n C 130 rfl 0 dX12_account_129 rfl rfl ?_
      refine xx_getr (fi := 0) C 133 rfl (by decide) (ceM_0 _ _ _) rfl in_X12 (by decide) rfl w_1179 dX12_account_130 ?_
      refine xx_iconst C 134 rfl dX12_account_133 ?_
      refine xx_iaload C 135 rfl (by decide) (fun _ => rfl) (by decide) dX12_account_134 h (fun v134 h => ?_)
      exact xx_iretp C E rfl ⟨Nat.le_of_ble_eq_true rfl, Nat.le_of_ble_eq_true rfl⟩ dX12_account_135 h
    · refine xx_aload_n C 137 rfl 0 dX12_account_136 rfl rfl ?_
      refine xx_getr (fi := 0) C 140 rfl (by decide) (ceM_0 _ _ _) rfl in_X12 (by decide) rfl w_1179 dX12_account_137 ?_
      refine xx_bipush C 142 rfl dX12_account_140 (by decide) ?_
      refine xx_iaload C 143 rfl (by decide) (fun _ => rfl) (by decide) dX12_account_142 h (fun v142 h => ?_)
      exact xx_iretp C E rfl ⟨Nat.le_of_ble_eq_true rfl, Nat.le_of_ble_eq_true rfl⟩ dX12_account_143 h
    · refine xx_aload_n C 145 rfl 0 dX12_account_144 rfl rfl ?_
      refine xx_getr (fi := 0) C 148 rfl (by decide) (ceM_0 _ _ _) rfl in_X12 (by decide) rfl w_1179 dX12_account_145 ?_
      refine xx_iconst C 149 rfl dX12_account_148 ?_
      refine xx_iaload C 150 rfl (by decide) (fun _ => rfl) (by decide) dX12_account_149 h (fun v149 h => ?_)
      exact xx_iretp C E rfl ⟨Nat.le_of_ble_eq_true rfl, Nat.le_of_ble_eq_true rfl⟩ dX12_account_150 h
    · refine xx_aload_n C 152 rfl 0 dX12_account_151 rfl rfl ?_
      refine xx_getr (fi := 0) C 155 rfl (by decide) (ceM_0 _ _ _) rfl in_X12 (by decide) rfl w_1179 dX12_account_152 ?_
      refine xx_bipush C 157 rfl dX12_account_155 (by decide) ?_
      refine xx_iaload C 158 rfl (by decide) (fun _ => rfl) (by decide) dX12_account_157 h (fun v157 h => ?_)
      exact xx_iretp C E rfl ⟨Nat.le_of_ble_eq_true rfl, Nat.le_of_ble_eq_true rfl⟩ dX12_account_158 h
    · refine xx_aload_n C 160 rfl 0 dX12_account_159 rfl rfl ?_
      refine xx_cVip (As := []) (st := []) (o := 0) C 163 rfl (by decide) (ceM_0 _ _ _) rfl rfl ca_X12_namesUsed cv_X12_namesUsed w_1565 rfl ⟨Nat.le_of_ble_eq_true rfl, Nat.le_of_ble_eq_true rfl⟩ ⟨Nat.le_of_ble_eq_true rfl, Nat.le_of_ble_eq_true rfl⟩ (Nat.le_of_ble_eq_true rfl) dX12_account_160 (fun v160 e9 => c_X12_namesUsed _ v160 e9) h (fun v160 h => ?_) rfl
      exact xx_iretp C E rfl ⟨Nat.le_of_ble_eq_true rfl, Nat.le_of_ble_eq_true rfl⟩ dX12_account_163 h
    · refine xx_aload_n C 165 rfl 0 dX12_account_164 rfl rfl ?_
      refine xx_getr (fi := 0) C 168 rfl (by decide) (ceM_0 _ _ _) rfl in_X12 (by decide) rfl w_1179 dX12_account_165 ?_
      refine xx_bipush C 170 rfl dX12_account_168 (by decide) ?_
      refine xx_iaload C 171 rfl (by decide) (fun _ => rfl) (by decide) dX12_account_170 h (fun v170 h => ?_)
      exact xx_iretp C E rfl ⟨Nat.le_of_ble_eq_true rfl, Nat.le_of_ble_eq_true rfl⟩ dX12_account_171 h
    · refine xx_aload_n C 173 rfl 0 dX12_account_172 rfl rfl ?_
      refine xx_geti (fi := 10) (j := 10) C 176 rfl (by decide) (ceM_0 _ _ _) rfl in_X12 (by decide) rfl w_1189 dX12_account_173 h (fun v173 h => ?_)
      exact xx_iretp C E rfl ⟨Nat.le_of_ble_eq_true rfl, Nat.le_of_ble_eq_true rfl⟩ dX12_account_176 h
    · refine xx_aload_n C 178 rfl 0 dX12_account_177 rfl rfl ?_
      refine xx_geti (fi := 4) (j := 4) C 181 rfl (by decide) (ceM_0 _ _ _) rfl in_X12 (by decide) rfl w_1183 dX12_account_178 h (fun v178 h => ?_)
      exact xx_iretp C E rfl ⟨Nat.le_of_ble_eq_true rfl, Nat.le_of_ble_eq_true rfl⟩ dX12_account_181 h
  · refine xx_aload_n C 11 rfl 0 dX12_account_10 rfl rfl ?_
    refine xx_iload_n C 12 rfl 1 dX12_account_11 rfl rfl ?_
    refine xx_iconst C 13 rfl dX12_account_12 ?_
    refine xx_isub C 14 rfl dX12_account_13 ?_
    refine xx_cVip (As := [.int (iI (a1 - 4))]) (st := []) (o := 0) C 17 rfl (by decide) (ceM_0 _ _ _) rfl rfl ca_X12_manyThat cv_X12_manyThat w_1557 rfl ⟨Nat.le_of_ble_eq_true rfl, Nat.le_of_ble_eq_true rfl⟩ ⟨Nat.le_of_ble_eq_true rfl, Nat.le_of_ble_eq_true rfl⟩ (Nat.le_of_ble_eq_true rfl) dX12_account_14 (fun v14 e9 => c_X12_manyThat _ _ v14 e9) h (fun v14 h => ?_) rfl
    exact xx_iretp C E rfl ⟨Nat.le_of_ble_eq_true rfl, Nat.le_of_ble_eq_true rfl⟩ dX12_account_17 h

