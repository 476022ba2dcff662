theorem dX5_writeRite_0 : decode cX5_writeRite 0 = .ok (.iload_n 2, 1) := by decide +kernel
theorem dX5_writeRite_1 : decode cX5_writeRite 1 = .ok (.invokestatic 42, 3) := by decide +kernel
theorem dX5_writeRite_4 : decode cX5_writeRite 4 = .ok (.ifCond .eq 12, 3) := by decide +kernel
theorem dX5_writeRite_7 : decode cX5_writeRite 7 = .ok (.aload_n 1, 1) := by decide +kernel
theorem dX5_writeRite_8 : decode cX5_writeRite 8 = .ok (.getfield 64, 3) := by decide +kernel
theorem dX5_writeRite_11 : decode cX5_writeRite 11 = .ok (.iload_n 2, 1) := by decide +kernel
theorem dX5_writeRite_12 : decode cX5_writeRite 12 = .ok (.iaload, 1) := by decide +kernel
theorem dX5_writeRite_13 : decode cX5_writeRite 13 = .ok (.goto 4, 3) := by decide +kernel
theorem dX5_writeRite_16 : decode cX5_writeRite 16 = .ok (.iconst 0, 1) := by decide +kernel
theorem dX5_writeRite_17 : decode cX5_writeRite 17 = .ok (.istore_n 3, 1) := by decide +kernel
theorem dX5_writeRite_18 : decode cX5_writeRite 18 = .ok (.iload_n 3, 1) := by decide +kernel
theorem dX5_writeRite_19 : decode cX5_writeRite 19 = .ok (.iconst 1, 1) := by decide +kernel
theorem dX5_writeRite_20 : decode cX5_writeRite 20 = .ok (.if_icmp .ne 16, 3) := by decide +kernel
theorem dX5_writeRite_23 : decode cX5_writeRite 23 = .ok (.aload_n 0, 1) := by decide +kernel
theorem dX5_writeRite_24 : decode cX5_writeRite 24 = .ok (.getfield 12, 3) := by decide +kernel
theorem dX5_writeRite_27 : decode cX5_writeRite 27 = .ok (.bipush 33, 2) := by decide +kernel
theorem dX5_writeRite_29 : decode cX5_writeRite 29 = .ok (.invokevirtual 30, 3) := by decide +kernel
theorem dX5_writeRite_32 : decode cX5_writeRite 32 = .ok (.pop, 1) := by decide +kernel
theorem dX5_writeRite_33 : decode cX5_writeRite 33 = .ok (.goto 18, 3) := by decide +kernel
theorem dX5_writeRite_36 : decode cX5_writeRite 36 = .ok (.iload_n 3, 1) := by decide +kernel
theorem dX5_writeRite_37 : decode cX5_writeRite 37 = .ok (.iconst 2, 1) := by decide +kernel
theorem dX5_writeRite_38 : decode cX5_writeRite 38 = .ok (.if_icmp .ne 13, 3) := by decide +kernel
theorem dX5_writeRite_41 : decode cX5_writeRite 41 = .ok (.aload_n 0, 1) := by decide +kernel
theorem dX5_writeRite_42 : decode cX5_writeRite 42 = .ok (.getfield 12, 3) := by decide +kernel
theorem dX5_writeRite_45 : decode cX5_writeRite 45 = .ok (.bipush 63, 2) := by decide +kernel
theorem dX5_writeRite_47 : decode cX5_writeRite 47 = .ok (.invokevirtual 30, 3) := by decide +kernel
theorem dX5_writeRite_50 : decode cX5_writeRite 50 = .ok (.pop, 1) := by decide +kernel
theorem dX5_writeRite_51 : decode cX5_writeRite 51 = .ok (.return_, 1) := by decide +kernel
theorem dX5_writeUrn_0 : decode cX5_writeUrn 0 = .ok (.aload_n 0, 1) := by decide +kernel
theorem dX5_writeUrn_1 : decode cX5_writeUrn 1 = .ok (.getfield 12, 3) := by decide +kernel
theorem dX5_writeUrn_4 : decode cX5_writeUrn 4 = .ok (.iconst 0, 1) := by decide +kernel
theorem dX5_writeUrn_5 : decode cX5_writeUrn 5 = .ok (.invokevirtual 18, 3) := by decide +kernel
theorem dX5_writeUrn_8 : decode cX5_writeUrn 8 = .ok (.aload_n 0, 1) := by decide +kernel
theorem dX5_writeUrn_9 : decode cX5_writeUrn 9 = .ok (.getfield 12, 3) := by decide +kernel
theorem dX5_writeUrn_12 : decode cX5_writeUrn 12 = .ok (.iload_n 2, 1) := by decide +kernel
theorem dX5_writeUrn_13 : decode cX5_writeUrn 13 = .ok (.invokevirtual 22, 3) := by decide +kernel
theorem dX5_writeUrn_16 : decode cX5_writeUrn 16 = .ok (.pop, 1) := by decide +kernel
theorem dX5_writeUrn_17 : decode cX5_writeUrn 17 = .ok (.aload_n 0, 1) := by decide +kernel
theorem dX5_writeUrn_18 : decode cX5_writeUrn 18 = .ok (.aload_n 1, 1) := by decide +kernel
theorem dX5_writeUrn_19 : decode cX5_writeUrn 19 = .ok (.iload_n 2, 1) := by decide +kernel
theorem dX5_writeUrn_20 : decode cX5_writeUrn 20 = .ok (.invokevirtual 26, 3) := by decide +kernel
theorem dX5_writeUrn_23 : decode cX5_writeUrn 23 = .ok (.iconst 0, 1) := by decide +kernel
theorem dX5_writeUrn_24 : decode cX5_writeUrn 24 = .ok (.istore_n 3, 1) := by decide +kernel
theorem dX5_writeUrn_25 : decode cX5_writeUrn 25 = .ok (.iload_n 3, 1) := by decide +kernel
theorem dX5_writeUrn_26 : decode cX5_writeUrn 26 = .ok (.iconst 4, 1) := by decide +kernel
theorem dX5_writeUrn_27 : decode cX5_writeUrn 27 = .ok (.if_icmp .ge 38, 3) := by decide +kernel
theorem dX5_writeUrn_30 : decode cX5_writeUrn 30 = .ok (.aload_n 0, 1) := by decide +kernel
theorem dX5_writeUrn_31 : decode cX5_writeUrn 31 = .ok (.getfield 12, 3) := by decide +kernel
theorem dX5_writeUrn_34 : decode cX5_writeUrn 34 = .ok (.iload_n 3, 1) := by decide +kernel
theorem dX5_writeUrn_35 : decode cX5_writeUrn 35 = .ok (.ifCond .ne 8, 3) := by decide +kernel
theorem dX5_writeUrn_38 : decode cX5_writeUrn 38 = .ok (.bipush 58, 2) := by decide +kernel
theorem dX5_writeUrn_40 : decode cX5_writeUrn 40 = .ok (.goto 5, 3) := by decide +kernel
theorem dX5_writeUrn_43 : decode cX5_writeUrn 43 = .ok (.bipush 44, 2) := by decide +kernel
theorem dX5_writeUrn_45 : decode cX5_writeUrn 45 = .ok (.invokevirtual 30, 3) := by decide +kernel
theorem dX5_writeUrn_48 : decode cX5_writeUrn 48 = .ok (.pop, 1) := by decide +kernel
theorem dX5_writeUrn_49 : decode cX5_writeUrn 49 = .ok (.aload_n 0, 1) := by decide +kernel
theorem dX5_writeUrn_50 : decode cX5_writeUrn 50 = .ok (.aload_n 1, 1) := by decide +kernel
theorem dX5_writeUrn_51 : decode cX5_writeUrn 51 = .ok (.iload_n 2, 1) := by decide +kernel
theorem dX5_writeUrn_52 : decode cX5_writeUrn 52 = .ok (.iload_n 3, 1) := by decide +kernel
theorem dX5_writeUrn_53 : decode cX5_writeUrn 53 = .ok (.invokevirtual 33, 3) := by decide +kernel
theorem dX5_writeUrn_56 : decode cX5_writeUrn 56 = .ok (.invokevirtual 39, 3) := by decide +kernel
theorem dX5_writeUrn_59 : decode cX5_writeUrn 59 = .ok (.iinc 3 1, 3) := by decide +kernel
theorem dX5_writeUrn_62 : decode cX5_writeUrn 62 = .ok (.goto (-37), 3) := by decide +kernel
theorem dX5_writeUrn_65 : decode cX5_writeUrn 65 = .ok (.iload_n 2, 1) := by decide +kernel
theorem dX5_writeUrn_66 : decode cX5_writeUrn 66 = .ok (.invokestatic 42, 3) := by decide +kernel
theorem dX5_writeUrn_69 : decode cX5_writeUrn 69 = .ok (.ifCond .eq 12, 3) := by decide +kernel
theorem dX5_writeUrn_72 : decode cX5_writeUrn 72 = .ok (.aload_n 1, 1) := by decide +kernel
theorem dX5_writeUrn_73 : decode cX5_writeUrn 73 = .ok (.getfield 46, 3) := by decide +kernel
theorem dX5_writeUrn_76 : decode cX5_writeUrn 76 = .ok (.iload_n 2, 1) := by decide +kernel
theorem dX5_writeUrn_77 : decode cX5_writeUrn 77 = .ok (.iaload, 1) := by decide +kernel
theorem dX5_writeUrn_78 : decode cX5_writeUrn 78 = .ok (.goto 5, 3) := by decide +kernel
theorem dX5_writeUrn_81 : decode cX5_writeUrn 81 = .ok (.bipush (-15), 2) := by decide +kernel
theorem dX5_writeUrn_83 : decode cX5_writeUrn 83 = .ok (.istore_n 3, 1) := by decide +kernel
theorem dX5_writeUrn_84 : decode cX5_writeUrn 84 = .ok (.iload_n 3, 1) := by decide +kernel
theorem dX5_writeUrn_85 : decode cX5_writeUrn 85 = .ok (.bipush (-15), 2) := by decide +kernel
theorem dX5_writeUrn_87 : decode cX5_writeUrn 87 = .ok (.if_icmp .eq 17, 3) := by decide +kernel
theorem dX5_writeUrn_90 : decode cX5_writeUrn 90 = .ok (.aload_n 0, 1) := by decide +kernel
theorem dX5_writeUrn_91 : decode cX5_writeUrn 91 = .ok (.getfield 12, 3) := by decide +kernel
theorem dX5_writeUrn_94 : decode cX5_writeUrn 94 = .ok (.bipush 126, 2) := by decide +kernel
theorem dX5_writeUrn_96 : decode cX5_writeUrn 96 = .ok (.invokevirtual 30, 3) := by decide +kernel
theorem dX5_writeUrn_99 : decode cX5_writeUrn 99 = .ok (.iload_n 3, 1) := by decide +kernel
theorem dX5_writeUrn_100 : decode cX5_writeUrn 100 = .ok (.invokevirtual 22, 3) := by decide +kernel
theorem dX5_writeUrn_103 : decode cX5_writeUrn 103 = .ok (.pop, 1) := by decide +kernel
theorem dX5_writeUrn_104 : decode cX5_writeUrn 104 = .ok (.aload_n 0, 1) := by decide +kernel
theorem dX5_writeUrn_105 : decode cX5_writeUrn 105 = .ok (.getfield 12, 3) := by decide +kernel
theorem dX5_writeUrn_108 : decode cX5_writeUrn 108 = .ok (.invokevirtual 50, 3) := by decide +kernel
theorem dX5_writeUrn_111 : decode cX5_writeUrn 111 = .ok (.ireturn, 1) := by decide +kernel
theorem dX11_tell_0 : decode cX11_tell 0 = .ok (.aload_n 0, 1) := by decide +kernel
theorem dX11_tell_1 : decode cX11_tell 1 = .ok (.getfield 13, 3) := by decide +kernel
theorem dX11_tell_4 : decode cX11_tell 4 = .ok (.iload_n 1, 1) := by decide +kernel
theorem dX11_tell_5 : decode cX11_tell 5 = .ok (.invokevirtual 100, 3) := by decide +kernel
theorem dX11_tell_8 : decode cX11_tell 8 = .ok (.ifCond .eq 18, 3) := by decide +kernel
theorem dX11_tell_11 : decode cX11_tell 11 = .ok (.aload_n 0, 1) := by decide +kernel
theorem dX11_tell_12 : decode cX11_tell 12 = .ok (.getfield 65, 3) := by decide +kernel
theorem dX11_tell_15 : decode cX11_tell 15 = .ok (.aload_n 0, 1) := by decide +kernel
theorem dX11_tell_16 : decode cX11_tell 16 = .ok (.getfield 13, 3) := by decide +kernel
theorem dX11_tell_19 : decode cX11_tell 19 = .ok (.iload_n 1, 1) := by decide +kernel
theorem dX11_tell_20 : decode cX11_tell 20 = .ok (.invokevirtual 212, 3) := by decide +kernel
theorem dX11_tell_23 : decode cX11_tell 23 = .ok (.goto 5, 3) := by decide +kernel
theorem dX11_tell_26 : decode cX11_tell 26 = .ok (.bipush (-11), 2) := by decide +kernel
theorem dX11_tell_28 : decode cX11_tell 28 = .ok (.ireturn, 1) := by decide +kernel
theorem dX5_writeHeap_0 : decode cX5_writeHeap 0 = .ok (.aload_n 0, 1) := by decide +kernel
theorem dX5_writeHeap_1 : decode cX5_writeHeap 1 = .ok (.getfield 12, 3) := by decide +kernel
theorem dX5_writeHeap_4 : decode cX5_writeHeap 4 = .ok (.iconst 0, 1) := by decide +kernel
theorem dX5_writeHeap_5 : decode cX5_writeHeap 5 = .ok (.invokevirtual 18, 3) := by decide +kernel
theorem dX5_writeHeap_8 : decode cX5_writeHeap 8 = .ok (.iconst 0, 1) := by decide +kernel
theorem dX5_writeHeap_9 : decode cX5_writeHeap 9 = .ok (.istore_n 2, 1) := by decide +kernel
theorem dX5_writeHeap_10 : decode cX5_writeHeap 10 = .ok (.iload_n 2, 1) := by decide +kernel
theorem dX5_writeHeap_11 : decode cX5_writeHeap 11 = .ok (.bipush 24, 2) := by decide +kernel
theorem dX5_writeHeap_13 : decode cX5_writeHeap 13 = .ok (.if_icmp .ge 26, 3) := by decide +kernel
theorem dX5_writeHeap_16 : decode cX5_writeHeap 16 = .ok (.aload_n 0, 1) := by decide +kernel
theorem dX5_writeHeap_17 : decode cX5_writeHeap 17 = .ok (.getfield 12, 3) := by decide +kernel
theorem dX5_writeHeap_20 : decode cX5_writeHeap 20 = .ok (.aload_n 1, 1) := by decide +kernel
theorem dX5_writeHeap_21 : decode cX5_writeHeap 21 = .ok (.getfield 54, 3) := by decide +kernel
theorem dX5_writeHeap_24 : decode cX5_writeHeap 24 = .ok (.iload_n 2, 1) := by decide +kernel
theorem dX5_writeHeap_25 : decode cX5_writeHeap 25 = .ok (.iaload, 1) := by decide +kernel
theorem dX5_writeHeap_26 : decode cX5_writeHeap 26 = .ok (.invokestatic 57, 3) := by decide +kernel
theorem dX5_writeHeap_29 : decode cX5_writeHeap 29 = .ok (.invokevirtual 30, 3) := by decide +kernel
theorem dX5_writeHeap_32 : decode cX5_writeHeap 32 = .ok (.pop, 1) := by decide +kernel
theorem dX5_writeHeap_33 : decode cX5_writeHeap 33 = .ok (.iinc 2 1, 3) := by decide +kernel
theorem dX5_writeHeap_36 : decode cX5_writeHeap 36 = .ok (.goto (-26), 3) := by decide +kernel
theorem dX5_writeHeap_39 : decode cX5_writeHeap 39 = .ok (.aload_n 0, 1) := by decide +kernel
theorem dX5_writeHeap_40 : decode cX5_writeHeap 40 = .ok (.getfield 12, 3) := by decide +kernel
theorem dX5_writeHeap_43 : decode cX5_writeHeap 43 = .ok (.invokevirtual 50, 3) := by decide +kernel
theorem dX5_writeHeap_46 : decode cX5_writeHeap 46 = .ok (.ireturn, 1) := by decide +kernel
theorem dX11_tellHeap_0 : decode cX11_tellHeap 0 = .ok (.aload_n 0, 1) := by decide +kernel
theorem dX11_tellHeap_1 : decode cX11_tellHeap 1 = .ok (.getfield 65, 3) := by decide +kernel
theorem dX11_tellHeap_4 : decode cX11_tellHeap 4 = .ok (.aload_n 0, 1) := by decide +kernel
theorem dX11_tellHeap_5 : decode cX11_tellHeap 5 = .ok (.getfield 13, 3) := by decide +kernel
theorem dX11_tellHeap_8 : decode cX11_tellHeap 8 = .ok (.invokevirtual 216, 3) := by decide +kernel
theorem dX11_tellHeap_11 : decode cX11_tellHeap 11 = .ok (.ireturn, 1) := by decide +kernel
theorem dX11_character_0 : decode cX11_character 0 = .ok (.aload_n 0, 1) := by decide +kernel
theorem dX11_character_1 : decode cX11_character 1 = .ok (.getfield 65, 3) := by decide +kernel
theorem dX11_character_4 : decode cX11_character 4 = .ok (.iload_n 1, 1) := by decide +kernel
theorem dX11_character_5 : decode cX11_character 5 = .ok (.invokevirtual 220, 3) := by decide +kernel
theorem dX11_character_8 : decode cX11_character 8 = .ok (.ireturn, 1) := by decide +kernel
theorem dX11_account_0 : decode cX11_account 0 = .ok (.iload_n 1, 1) := by decide +kernel
theorem dX11_account_1 : decode cX11_account 1 = .ok (.tableswitch 213 0 15 #[79, 87, 95, 103, 111, 120, 129, 138, 146, 154, 165, 173, 181, 189, 197, 205], 79) := by decide +kernel
theorem dX11_account_80 : decode cX11_account 80 = .ok (.aload_n 0, 1) := by decide +kernel
theorem dX11_account_81 : decode cX11_account 81 = .ok (.getfield 13, 3) := by decide +kernel
theorem dX11_account_84 : decode cX11_account 84 = .ok (.getfield 229, 3) := by decide +kernel
theorem dX11_account_87 : decode cX11_account 87 = .ok (.ireturn, 1) := by decide +kernel
theorem dX11_account_88 : decode cX11_account 88 = .ok (.aload_n 0, 1) := by decide +kernel
theorem dX11_account_89 : decode cX11_account 89 = .ok (.getfield 13, 3) := by decide +kernel
theorem dX11_account_92 : decode cX11_account 92 = .ok (.getfield 232, 3) := by decide +kernel
theorem dX11_account_95 : decode cX11_account 95 = .ok (.ireturn, 1) := by decide +kernel
theorem dX11_account_96 : decode cX11_account 96 = .ok (.aload_n 0, 1) := by decide +kernel
theorem dX11_account_97 : decode cX11_account 97 = .ok (.getfield 13, 3) := by decide +kernel
theorem dX11_account_100 : decode cX11_account 100 = .ok (.getfield 235, 3) := by decide +kernel
theorem dX11_account_103 : decode cX11_account 103 = .ok (.ireturn, 1) := by decide +kernel
theorem dX11_account_104 : decode cX11_account 104 = .ok (.aload_n 0, 1) := by decide +kernel
theorem dX11_account_105 : decode cX11_account 105 = .ok (.getfield 13, 3) := by decide +kernel
theorem dX11_account_108 : decode cX11_account 108 = .ok (.invokevirtual 238, 3) := by decide +kernel
theorem dX11_account_111 : decode cX11_account 111 = .ok (.ireturn, 1) := by decide +kernel
theorem dX11_account_112 : decode cX11_account 112 = .ok (.aload_n 0, 1) := by decide +kernel
theorem dX11_account_113 : decode cX11_account 113 = .ok (.getfield 13, 3) := by decide +kernel
theorem dX11_account_116 : decode cX11_account 116 = .ok (.iconst 0, 1) := by decide +kernel
theorem dX11_account_117 : decode cX11_account 117 = .ok (.invokevirtual 241, 3) := by decide +kernel
theorem dX11_account_120 : decode cX11_account 120 = .ok (.ireturn, 1) := by decide +kernel
theorem dX11_account_121 : decode cX11_account 121 = .ok (.aload_n 0, 1) := by decide +kernel
theorem dX11_account_122 : decode cX11_account 122 = .ok (.getfield 13, 3) := by decide +kernel
theorem dX11_account_125 : decode cX11_account 125 = .ok (.iconst 1, 1) := by decide +kernel
theorem dX11_account_126 : decode cX11_account 126 = .ok (.invokevirtual 241, 3) := by decide +kernel
theorem dX11_account_129 : decode cX11_account 129 = .ok (.ireturn, 1) := by decide +kernel
theorem dX11_account_130 : decode cX11_account 130 = .ok (.aload_n 0, 1) := by decide +kernel
theorem dX11_account_131 : decode cX11_account 131 = .ok (.getfield 13, 3) := by decide +kernel
theorem dX11_account_134 : decode cX11_account 134 = .ok (.iconst 2, 1) := by decide +kernel
theorem dX11_account_135 : decode cX11_account 135 = .ok (.invokevirtual 241, 3) := by decide +kernel
theorem dX11_account_138 : decode cX11_account 138 = .ok (.ireturn, 1) := by decide +kernel
theorem dX11_account_139 : decode cX11_account 139 = .ok (.aload_n 0, 1) := by decide +kernel
theorem dX11_account_140 : decode cX11_account 140 = .ok (.getfield 13, 3) := by decide +kernel
theorem dX11_account_143 : decode cX11_account 143 = .ok (.getfield 244, 3) := by decide +kernel
theorem dX11_account_146 : decode cX11_account 146 = .ok (.ireturn, 1) := by decide +kernel
theorem dX11_account_147 : decode cX11_account 147 = .ok (.aload_n 0, 1) := by decide +kernel
theorem dX11_account_148 : decode cX11_account 148 = .ok (.getfield 13, 3) := by decide +kernel
theorem dX11_account_151 : decode cX11_account 151 = .ok (.getfield 247, 3) := by decide +kernel
theorem dX11_account_154 : decode cX11_account 154 = .ok (.ireturn, 1) := by decide +kernel
theorem dX11_account_155 : decode cX11_account 155 = .ok (.aload_n 0, 1) := by decide +kernel
theorem dX11_account_156 : decode cX11_account 156 = .ok (.getfield 13, 3) := by decide +kernel
theorem dX11_account_159 : decode cX11_account 159 = .ok (.getfield 148, 3) := by decide +kernel
theorem dX11_account_162 : decode cX11_account 162 = .ok (.getfield 250, 3) := by decide +kernel
theorem dX11_account_165 : decode cX11_account 165 = .ok (.ireturn, 1) := by decide +kernel
theorem dX11_account_166 : decode cX11_account 166 = .ok (.aload_n 0, 1) := by decide +kernel
theorem dX11_account_167 : decode cX11_account 167 = .ok (.getfield 13, 3) := by decide +kernel
theorem dX11_account_170 : decode cX11_account 170 = .ok (.getfield 253, 3) := by decide +kernel
theorem dX11_account_173 : decode cX11_account 173 = .ok (.ireturn, 1) := by decide +kernel
theorem dX11_account_174 : decode cX11_account 174 = .ok (.aload_n 0, 1) := by decide +kernel
theorem dX11_account_175 : decode cX11_account 175 = .ok (.getfield 13, 3) := by decide +kernel
theorem dX11_account_178 : decode cX11_account 178 = .ok (.getfield 256, 3) := by decide +kernel
theorem dX11_account_181 : decode cX11_account 181 = .ok (.ireturn, 1) := by decide +kernel
theorem dX11_account_182 : decode cX11_account 182 = .ok (.aload_n 0, 1) := by decide +kernel
theorem dX11_account_183 : decode cX11_account 183 = .ok (.getfield 13, 3) := by decide +kernel
theorem dX11_account_186 : decode cX11_account 186 = .ok (.invokevirtual 259, 3) := by decide +kernel
theorem dX11_account_189 : decode cX11_account 189 = .ok (.ireturn, 1) := by decide +kernel
theorem dX11_account_190 : decode cX11_account 190 = .ok (.aload_n 0, 1) := by decide +kernel
theorem dX11_account_191 : decode cX11_account 191 = .ok (.getfield 13, 3) := by decide +kernel
theorem dX11_account_194 : decode cX11_account 194 = .ok (.getfield 262, 3) := by decide +kernel
theorem dX11_account_197 : decode cX11_account 197 = .ok (.ireturn, 1) := by decide +kernel
theorem dX11_account_198 : decode cX11_account 198 = .ok (.aload_n 0, 1) := by decide +kernel
theorem dX11_account_199 : decode cX11_account 199 = .ok (.getfield 58, 3) := by decide +kernel
theorem dX11_account_202 : decode cX11_account 202 = .ok (.invokevirtual 265, 3) := by decide +kernel
theorem dX11_account_205 : decode cX11_account 205 = .ok (.ireturn, 1) := by decide +kernel
theorem dX11_account_206 : decode cX11_account 206 = .ok (.aload_n 0, 1) := by decide +kernel
theorem dX11_account_207 : decode cX11_account 207 = .ok (.getfield 51, 3) := by decide +kernel
theorem dX11_account_210 : decode cX11_account 210 = .ok (.getfield 268, 3) := by decide +kernel
theorem dX11_account_213 : decode cX11_account 213 = .ok (.ireturn, 1) := by decide +kernel
theorem dX11_account_214 : decode cX11_account 214 = .ok (.bipush (-12), 2) := by decide +kernel
theorem dX11_account_216 : decode cX11_account 216 = .ok (.ireturn, 1) := by decide +kernel
def f_J5_ensureCapacityInternal_d00df_o149 (μ : mu_T) (a1 : Int) : Option mu_T :=
  nm_ (bl_ μ 150) (fun v4 => nm_ (μ 149 1) (fun v6 => nm_ ((sr_ v4 v6)) (fun n10 => lt_ 0 (a1 - n10)
      (bd_ (f_J5_newCapacity_0f7a4_o149 μ a1) (fun v24 => nm_ (μ 149 1) (fun v28 => none)))
      (some μ))))
set_option maxHeartbeats 4000000 in
set_option maxRecDepth 100000 in
theorem c_J5_ensureCapacityInternal_d00df_o149 {G : gp_} {ad : Nat → Nat} (μ : mu_T) (a1 : Int) (μr : mu_T) (h : f_J5_ensureCapacityInternal_d00df_o149 μ a1 = some μr) : mv_ yJ5_ensureCapacityInternal_d00df cJ5_ensureCapacityInternal_d00df 3 ({ frames := 3, cells := 0, slots := 0, locals := 70 } : Room) G 151 ad (ceX G ad) [.ref (ad 149), .int (iI a1)] μ μr := by
  refine mv_in (own := "java/lang/AbstractStringBuilder") (lv := [(0, .ref (ad 149)), (1, .int (iI a1))]) (by decide) rfl rfl (Nat.le_of_ble_eq_true rfl) (fun X C E => ?_)
  unfold f_J5_ensureCapacityInternal_d00df_o149 at h
  refine xx_aload_n C 1 rfl 0 dJ5_ensureCapacityInternal_d00df_0 rfl rfl ?_
  refine xx_getr (fi := 0) C 4 rfl (by decide) (ceX_149 _ _ _) rfl in_J4 (by decide) rfl w_339 dJ5_ensureCapacityInternal_d00df_1 ?_
  refine xx_blen C 5 rfl (by decide) (fun row => ceX_150 _ _ row) dJ5_ensureCapacityInternal_d00df_4 h (fun v4 h => ?_)
  refine xx_aload_n C 6 rfl 0 dJ5_ensureCapacityInternal_d00df_5 rfl rfl ?_
  refine xx_geti (fi := 1) (j := 1) C 9 rfl (by decide) (ceX_149 _ _ _) rfl in_J4 (by decide) rfl w_340 dJ5_ensureCapacityInternal_d00df_6 h (fun v6 h => ?_)
  refine xx_ishr C 10 rfl dJ5_ensureCapacityInternal_d00df_9 ?_
  refine xx_nm C h (fun n10 h => ?_)
  refine xx_istore_n (lv1 := [(2, .int (iI n10)), (0, .ref (ad 149)), (1, .int (iI a1))]) C 11 rfl (by decide) dJ5_ensureCapacityInternal_d00df_10 rfl rfl ?_
  refine xx_iload_n C 12 rfl 2 dJ5_ensureCapacityInternal_d00df_11 rfl rfl ?_
  refine xx_iload_n C 13 rfl 0 dJ5_ensureCapacityInternal_d00df_12 rfl rfl ?_
  refine xx_isub C 14 rfl dJ5_ensureCapacityInternal_d00df_13 ?_
  refine xx_if_le (tgt := 38) C 17 rfl dJ5_ensureCapacityInternal_d00df_14 (by decide) h (fun h => ?_) (fun h => ?_)
  · exact xx_vret C E rfl ⟨Nat.le_of_ble_eq_true rfl, Nat.le_of_ble_eq_true rfl⟩ dJ5_ensureCapacityInternal_d00df_38 h
  · refine xx_aload_n C 18 rfl 1 dJ5_ensureCapacityInternal_d00df_17 rfl rfl ?_
    refine xx_aload_n C 19 rfl 1 dJ5_ensureCapacityInternal_d00df_18 rfl rfl ?_
    refine xx_getr (fi := 0) C 22 rfl (by decide) (ceX_149 _ _ _) rfl in_J4 (by decide) rfl w_339 dJ5_ensureCapacityInternal_d00df_19 ?_
    refine xx_aload_n C 23 rfl 1 dJ5_ensureCapacityInternal_d00df_22 rfl rfl ?_
    refine xx_iload_n C 24 rfl 2 dJ5_ensureCapacityInternal_d00df_23 rfl rfl ?_
    refine xx_cUip (As := [.int (iI a1)]) (st := [.ref (ad 150), .ref (ad 149)]) (o := 149) C 27 rfl (by decide) (ceX_149 _ _ _) rfl ca_J5_newCapacity_0f7a4 cu_J5_newCapacity_0f7a4 se_J5_newCapacity_0f7a4 w_803 rfl ⟨Nat.le_of_ble_eq_true rfl, Nat.le_of_ble_eq_true rfl⟩ ⟨Nat.le_of_ble_eq_true rfl, Nat.le_of_ble_eq_true rfl⟩ (Nat.le_of_ble_eq_true rfl) dJ5_ensureCapacityInternal_d00df_24 (fun v24 e9 => c_J5_newCapacity_0f7a4_o149 _ _ v24 e9) h (fun v24 h => ?_) rfl
    refine xx_aload_n C 28 rfl 1 dJ5_ensureCapacityInternal_d00df_27 rfl rfl ?_
    refine xx_geti (fi := 1) (j := 1) C 31 rfl (by decide) (ceX_149 _ _ _) rfl in_J4 (by decide) rfl w_340 dJ5_ensureCapacityInternal_d00df_28 h (fun v28 h => ?_)
    refine xx_ishl C 32 rfl dJ5_ensureCapacityInternal_d00df_31 ?_
    exact nn_ h

def f_J7_fill_eb02e_o150_L10 (a2 : Int) (a3 : Int) : Nat → Int → mu_T → Option mu_T
  | 0, _, _ => none
  | fu10 + 1, x4_10, μ10 => lt_ x4_10 a2
      (wb_ μ10 150 x4_10 a3 (fun μ20 => nm_ (x4_10 + 1) (fun n21 => (f_J7_fill_eb02e_o150_L10 a2 a3 fu10) n21 μ20)))
      (some μ10)
def f_J7_fill_eb02e_o150 (μ : mu_T) (a1 : Int) (a2 : Int) (a3 : Int) : Option mu_T :=
  nm_ (bl_ μ 150) (fun v1 => bd_ (f_J7_rangeCheck_23922 μ v1 a1 a2) (fun μ4 => f_J7_fill_eb02e_o150_L10 a2 a3 20000 a1 μ4))
set_option maxHeartbeats 4000000 in
set_option maxRecDepth 100000 in
theorem c_J7_fill_eb02e_o150 {G : gp_} {ad : Nat → Nat} (μ : mu_T) (a1 : Int) (a2 : Int) (a3 : Int) (μr : mu_T) (h : f_J7_fill_eb02e_o150 μ a1 a2 a3 = some μr) : mv_ yJ7_fill_eb02e cJ7_fill_eb02e 5 ({ frames := 1, cells := 0, slots := 0, locals := 22 } : Room) G 151 ad (ceX G ad) [.ref (ad 150), .int (iI a1), .int (iI a2), .int (iI a3)] μ μr := by
  refine mv_in (own := "java/util/Arrays") (lv := [(0, .ref (ad 150)), (1, .int (iI a1)), (2, .int (iI a2)), (3, .int (iI a3))]) (by decide) rfl rfl (Nat.le_of_ble_eq_true rfl) (fun X C E => ?_)
  unfold f_J7_fill_eb02e_o150 at h
  refine xx_aload_n C 1 rfl 0 dJ7_fill_eb02e_0 rfl rfl ?_
  refine xx_blen C 2 rfl (by decide) (fun row => ceX_150 _ _ row) dJ7_fill_eb02e_1 h (fun v1 h => ?_)
  refine xx_iload_n C 3 rfl 1 dJ7_fill_eb02e_2 rfl rfl ?_
  refine xx_iload_n C 4 rfl 2 dJ7_fill_eb02e_3 rfl rfl ?_
  refine xx_cSv (As := [.int (iI v1), .int (iI a1), .int (iI a2)]) (st := []) C 7 rfl  ca_J7_rangeCheck_23922 cs_J7_rangeCheck_23922 w_975 rfl ⟨Nat.le_of_ble_eq_true rfl, Nat.le_of_ble_eq_true rfl⟩ ⟨Nat.le_of_ble_eq_true rfl, Nat.le_of_ble_eq_true rfl⟩ (Nat.le_of_ble_eq_true rfl) dJ7_fill_eb02e_4 (fun μ4 e9 => c_J7_rangeCheck_23922 _ _ _ _ μ4 e9) h (fun μ4 h => ?_) rfl
  refine xx_iload_n C 8 rfl 1 dJ7_fill_eb02e_7 rfl rfl ?_
  refine xx_istore (lv1 := [(4, .int (iI a1)), (0, .ref (ad 150)), (1, .int (iI a1)), (2, .int (iI a2)), (3, .int (iI a3))]) C 10 rfl (by decide) dJ7_fill_eb02e_8 rfl ?_
  have L10 : ∀ (fu10 : Nat) (x4_10 : Int) (μ10 : mu_T), f_J7_fill_eb02e_o150_L10 a2 a3 fu10 x4_10 μ10 = some μr → wx_ G X 151 ad (ceX G ad) μ10 0 0 10 [(0, .ref (ad 150)), (2, .int (iI a2)), (3, .int (iI a3)), (4, .int (iI x4_10))] [] := by
    intro fu10
    induction fu10 with
    | zero => intro x4_10 μ10 h; exact nn_ h
    | succ fu10 K10 =>
      intro x4_10 μ10 h
      rw [f_J7_fill_eb02e_o150_L10] at h
      generalize f_J7_fill_eb02e_o150_L10 a2 a3 fu10 = R10 at K10 h
      refine xx_iload C 12 rfl 3 dJ7_fill_eb02e_10 rfl ?_
      refine xx_iload_n C 13 rfl 1 dJ7_fill_eb02e_12 rfl rfl ?_
      refine xx_icmp_ge (tgt := 27) C 16 rfl dJ7_fill_eb02e_13 (by decide) h (fun h => ?_) (fun h => ?_)
      · exact xx_vret C E rfl ⟨Nat.le_of_ble_eq_true rfl, Nat.le_of_ble_eq_true rfl⟩ dJ7_fill_eb02e_27 h
      · refine xx_aload_n C 17 rfl 0 dJ7_fill_eb02e_16 rfl rfl ?_
        refine xx_iload C 19 rfl 3 dJ7_fill_eb02e_17 rfl ?_
        refine xx_iload_n C 20 rfl 2 dJ7_fill_eb02e_19 rfl rfl ?_
        refine xx_bastore C 21 rfl (by decide) (fun row => ceX_150 _ _ row) dJ7_fill_eb02e_20 h (fun μ20 h => ?_)
        refine xx_iincn C 24 rfl 3 (by decide) dJ7_fill_eb02e_21 rfl h (fun n21 h => ?_)
        refine xx_lv (lv1 := [(4, .int (iI n21)), (0, .ref (ad 150)), (2, .int (iI a2)), (3, .int (iI a3))]) rfl ?_
        refine xx_goto C 10 dJ7_fill_eb02e_24 (by decide) ?_
        refine xx_sub [1, 2, 3, 0] rfl ?_
        exact K10 n21 μ20 h
  refine xx_sub [1, 3, 4, 0] rfl ?_
  exact L10 _ _ _ h

def f_J1_fillNull_b72d1_o150 (μ : mu_T) (a1 : Int) (a2 : Int) : Option mu_T :=
  bd_ (f_J7_fill_eb02e_o150 μ a1 a2 0) (fun μ4 => some μ4)
set_option maxHeartbeats 4000000 in
set_option maxRecDepth 100000 in
theorem c_J1_fillNull_b72d1_o150 {G : gp_} {ad : Nat → Nat} (μ : mu_T) (a1 : Int) (a2 : Int) (μr : mu_T) (h : f_J1_fillNull_b72d1_o150 μ a1 a2 = some μr) : mv_ yJ1_fillNull_b72d1 cJ1_fillNull_b72d1 3 ({ frames := 2, cells := 0, slots := 0, locals := 46 } : Room) G 151 ad (ceX G ad) [.ref (ad 150), .int (iI a1), .int (iI a2)] μ μr := by
  refine mv_in (own := "java/lang/StringLatin1") (lv := [(0, .ref (ad 150)), (1, .int (iI a1)), (2, .int (iI a2))]) (by decide) rfl rfl (Nat.le_of_ble_eq_true rfl) (fun X C E => ?_)
  unfold f_J1_fillNull_b72d1_o150 at h
  refine xx_aload_n C 1 rfl 0 dJ1_fillNull_b72d1_0 rfl rfl ?_
  refine xx_iload_n C 2 rfl 1 dJ1_fillNull_b72d1_1 rfl rfl ?_
  refine xx_iload_n C 3 rfl 2 dJ1_fillNull_b72d1_2 rfl rfl ?_
  refine xx_iconst C 4 rfl dJ1_fillNull_b72d1_3 ?_
  refine xx_cSv (As := [.ref (ad 150), .int (iI a1), .int (iI a2), .int (iI 0)]) (st := []) C 7 rfl  ca_J7_fill_eb02e cs_J7_fill_eb02e w_972 rfl ⟨Nat.le_of_ble_eq_true rfl, Nat.le_of_ble_eq_true rfl⟩ ⟨Nat.le_of_ble_eq_true rfl, Nat.le_of_ble_eq_true rfl⟩ (Nat.le_of_ble_eq_true rfl) dJ1_fillNull_b72d1_4 (fun μ4 e9 => c_J7_fill_eb02e_o150 _ _ _ _ μ4 e9) h (fun μ4 h => ?_) rfl
  exact xx_vret C E rfl ⟨Nat.le_of_ble_eq_true rfl, Nat.le_of_ble_eq_true rfl⟩ dJ1_fillNull_b72d1_7 h

def f_J5_setLength_d00df_o149 (μ : mu_T) (a1 : Int) : Option mu_T :=
  lt_ a1 0
      (none)
      (bd_ (f_J5_ensureCapacityInternal_d00df_o149 μ a1) (fun μ15 => nm_ (μ15 149 3) (fun v19 => lt_ v19 a1
      (bd_ (f_J5_isLatin1_aae02_o149 μ15) (fun v27 => eq_ v27 0
      (nm_ (μ15 149 3) (fun v53 => none))
      (nm_ (μ15 149 3) (fun v38 => bd_ (f_J1_fillNull_b72d1_o150 μ15 v38 a1) (fun μ42 => wf_ μ42 149 3 a1 (fun μ78 => some μ78))))))
      (nm_ (μ15 149 3) (fun v64 => lt_ a1 v64
      (wz_ μ15 149 2 1 (fun μ73 => wf_ μ73 149 3 a1 (fun μ78 => some μ78)))
      (wf_ μ15 149 3 a1 (fun μ78 => some μ78)))))))
set_option maxHeartbeats 4000000 in
set_option maxRecDepth 100000 in
theorem c_J5_setLength_d00df_o149 {G : gp_} {ad : Nat → Nat} (μ : mu_T) (a1 : Int) (μr : mu_T) (h : f_J5_setLength_d00df_o149 μ a1 = some μr) : mv_ yJ5_setLength_d00df cJ5_setLength_d00df 2 ({ frames := 4, cells := 0, slots := 0, locals := 92 } : Room) G 151 ad (ceX G ad) [.ref (ad 149), .int (iI a1)] μ μr := by
  refine mv_in (own := "java/lang/AbstractStringBuilder") (lv := [(0, .ref (ad 149)), (1, .int (iI a1))]) (by decide) rfl rfl (Nat.le_of_ble_eq_true rfl) (fun X C E => ?_)
  unfold f_J5_setLength_d00df_o149 at h
  refine xx_iload_n C 1 rfl 1 dJ5_setLength_d00df_0 rfl rfl ?_
  refine xx_if_ge (tgt := 13) C 4 rfl dJ5_setLength_d00df_1 (by decide) h (fun h => ?_) (fun h => ?_)
  · refine xx_aload_n C 14 rfl 0 dJ5_setLength_d00df_13 rfl rfl ?_
    refine xx_iload_n C 15 rfl 1 dJ5_setLength_d00df_14 rfl rfl ?_
    refine xx_cUv (As := [.int (iI a1)]) (st := []) (o := 149) C 18 rfl (by decide) (ceX_149 _ _ _) rfl ca_J5_ensureCapacityInternal_d00df cu_J5_ensureCapacityInternal_d00df se_J5_ensureCapacityInternal_d00df w_799 rfl ⟨Nat.le_of_ble_eq_true rfl, Nat.le_of_ble_eq_true rfl⟩ ⟨Nat.le_of_ble_eq_true rfl, Nat.le_of_ble_eq_true rfl⟩ (Nat.le_of_ble_eq_true rfl) dJ5_setLength_d00df_15 (fun μ15 e9 => c_J5_ensureCapacityInternal_d00df_o149 _ _ μ15 e9) h (fun μ15 h => ?_) rfl
    refine xx_aload_n C 19 rfl 0 dJ5_setLength_d00df_18 rfl rfl ?_
    refine xx_geti (fi := 3) (j := 3) C 22 rfl (by decide) (ceX_149 _ _ _) rfl in_J4 (by decide) rfl w_342 dJ5_setLength_d00df_19 h (fun v19 h => ?_)
    refine xx_iload_n C 23 rfl 1 dJ5_setLength_d00df_22 rfl rfl ?_
    refine xx_icmp_ge (tgt := 63) C 26 rfl dJ5_setLength_d00df_23 (by decide) h (fun h => ?_) (fun h => ?_)
    · refine xx_aload_n C 64 rfl 0 dJ5_setLength_d00df_63 rfl rfl ?_
      refine xx_geti (fi := 3) (j := 3) C 67 rfl (by decide) (ceX_149 _ _ _) rfl in_J4 (by decide) rfl w_342 dJ5_setLength_d00df_64 h (fun v64 h => ?_)
      refine xx_iload_n C 68 rfl 1 dJ5_setLength_d00df_67 rfl rfl ?_
      refine xx_icmp_le (tgt := 76) C 71 rfl dJ5_setLength_d00df_68 (by decide) h (fun h => ?_) (fun h => ?_)
      · refine xx_aload_n C 77 rfl 0 dJ5_setLength_d00df_76 rfl rfl ?_
        refine xx_iload_n C 78 rfl 1 dJ5_setLength_d00df_77 rfl rfl ?_
        refine xx_puti (fi := 3) (j := 3) C 81 rfl (by decide) (ceX_149 _ _ _) (puX_149_3 _ _ _ _) rfl in_J4 tyJ4 tyJ4_ok nmJ4 (by decide) (Nat.le_of_ble_eq_true rfl) ⟨rfl, rfl⟩ w_342 dJ5_setLength_d00df_78 h (fun μ78 h => ?_)
        exact xx_vret C E rfl ⟨Nat.le_of_ble_eq_true rfl, Nat.le_of_ble_eq_true rfl⟩ dJ5_setLength_d00df_81 h
      · refine xx_aload_n C 72 rfl 0 dJ5_setLength_d00df_71 rfl rfl ?_
        refine xx_iconst C 73 rfl dJ5_setLength_d00df_72 ?_
        refine xx_putz (fi := 2) (j := 2) C 76 rfl (by decide) (ceX_149 _ _ _) (puX_149_2 _ _ _ _) rfl in_J4 tyJ4 tyJ4_ok nmJ4 (by decide) (Nat.le_of_ble_eq_true rfl) ⟨rfl, rfl⟩ w_341 dJ5_setLength_d00df_73 h (fun μ73 h => ?_)
        refine xx_aload_n C 77 rfl 0 dJ5_setLength_d00df_76 rfl rfl ?_
        refine xx_iload_n C 78 rfl 1 dJ5_setLength_d00df_77 rfl rfl ?_
        refine xx_puti (fi := 3) (j := 3) C 81 rfl (by decide) (ceX_149 _ _ _) (puX_149_3 _ _ _ _) rfl in_J4 tyJ4 tyJ4_ok nmJ4 (by decide) (Nat.le_of_ble_eq_true rfl) ⟨rfl, rfl⟩ w_342 dJ5_setLength_d00df_78 h (fun μ78 h => ?_)
        exact xx_vret C E rfl ⟨Nat.le_of_ble_eq_true rfl, Nat.le_of_ble_eq_true rfl⟩ dJ5_setLength_d00df_81 h
    · refine xx_aload_n C 27 rfl 0 dJ5_setLength_d00df_26 rfl rfl ?_
      refine xx_cUip (As := []) (st := []) (o := 149) C 30 rfl (by decide) (ceX_149 _ _ _) rfl ca_J5_isLatin1_aae02 cu_J5_isLatin1_aae02 se_J5_isLatin1_aae02 w_830 rfl ⟨Nat.le_of_ble_eq_true rfl, Nat.le_of_ble_eq_true rfl⟩ ⟨Nat.le_of_ble_eq_true rfl, Nat.le_of_ble_eq_true rfl⟩ (Nat.le_of_ble_eq_true rfl) dJ5_setLength_d00df_27 (fun v27 e9 => c_J5_isLatin1_aae02_o149 _ v27 e9) h (fun v27 h => ?_) rfl
      refine xx_if_eq (tgt := 48) C 33 rfl dJ5_setLength_d00df_30 (by decide) h (fun h => ?_) (fun h => ?_)
      · refine xx_aload_n C 49 rfl 0 dJ5_setLength_d00df_48 rfl rfl ?_
        refine xx_getr (fi := 0) C 52 rfl (by decide) (ceX_149 _ _ _) rfl in_J4 (by decide) rfl w_339 dJ5_setLength_d00df_49 ?_
        refine xx_aload_n C 53 rfl 0 dJ5_setLength_d00df_52 rfl rfl ?_
        refine xx_geti (fi := 3) (j := 3) C 56 rfl (by decide) (ceX_149 _ _ _) rfl in_J4 (by decide) rfl w_342 dJ5_setLength_d00df_53 h (fun v53 h => ?_)
        refine xx_iload_n C 57 rfl 1 dJ5_setLength_d00df_56 rfl rfl ?_
        exact nn_ h
      · refine xx_aload_n C 34 rfl 0 dJ5_setLength_d00df_33 rfl rfl ?_
        refine xx_getr (fi := 0) C 37 rfl (by decide) (ceX_149 _ _ _) rfl in_J4 (by decide) rfl w_339 dJ5_setLength_d00df_34 ?_
        refine xx_aload_n C 38 rfl 0 dJ5_setLength_d00df_37 rfl rfl ?_
        refine xx_geti (fi := 3) (j := 3) C 41 rfl (by decide) (ceX_149 _ _ _) rfl in_J4 (by decide) rfl w_342 dJ5_setLength_d00df_38 h (fun v38 h => ?_)
        refine xx_iload_n C 42 rfl 1 dJ5_setLength_d00df_41 rfl rfl ?_
        refine xx_cSv (As := [.ref (ad 150), .int (iI v38), .int (iI a1)]) (st := []) C 45 rfl  ca_J1_fillNull_b72d1 cs_J1_fillNull_b72d1 w_969 rfl ⟨Nat.le_of_ble_eq_true rfl, Nat.le_of_ble_eq_true rfl⟩ ⟨Nat.le_of_ble_eq_true rfl, Nat.le_of_ble_eq_true rfl⟩ (Nat.le_of_ble_eq_true rfl) dJ5_setLength_d00df_42 (fun μ42 e9 => c_J1_fillNull_b72d1_o150 _ _ _ μ42 e9) h (fun μ42 h => ?_) rfl
        refine xx_goto C 76 dJ5_setLength_d00df_45 (by decide) ?_
        refine xx_aload_n C 77 rfl 0 dJ5_setLength_d00df_76 rfl rfl ?_
        refine xx_iload_n C 78 rfl 1 dJ5_setLength_d00df_77 rfl rfl ?_
        refine xx_puti (fi := 3) (j := 3) C 81 rfl (by decide) (ceX_149 _ _ _) (puX_149_3 _ _ _ _) rfl in_J4 tyJ4 tyJ4_ok nmJ4 (by decide) (Nat.le_of_ble_eq_true rfl) ⟨rfl, rfl⟩ w_342 dJ5_setLength_d00df_78 h (fun μ78 h => ?_)
        exact xx_vret C E rfl ⟨Nat.le_of_ble_eq_true rfl, Nat.le_of_ble_eq_true rfl⟩ dJ5_setLength_d00df_81 h
  · exact nn_ h

def f_J4_setLength_d00df_o149 (μ : mu_T) (a1 : Int) : Option mu_T :=
  bd_ (f_J5_setLength_d00df_o149 μ a1) (fun μ2 => some μ2)
set_option maxHeartbeats 4000000 in
set_option maxRecDepth 100000 in
theorem c_J4_setLength_d00df_o149 {G : gp_} {ad : Nat → Nat} (μ : mu_T) (a1 : Int) (μr : mu_T) (h : f_J4_setLength_d00df_o149 μ a1 = some μr) : mv_ yJ4_setLength_d00df cJ4_setLength_d00df 2 ({ frames := 5, cells := 0, slots := 0, locals := 113 } : Room) G 151 ad (ceX G ad) [.ref (ad 149), .int (iI a1)] μ μr := by
  refine mv_in (own := "java/lang/StringBuilder") (lv := [(0, .ref (ad 149)), (1, .int (iI a1))]) (by decide) rfl rfl (Nat.le_of_ble_eq_true rfl) (fun X C E => ?_)
  unfold f_J4_setLength_d00df_o149 at h
  refine xx_aload_n C 1 rfl 0 dJ4_setLength_d00df_0 rfl rfl ?_
  refine xx_iload_n C 2 rfl 1 dJ4_setLength_d00df_1 rfl rfl ?_
  refine xx_cPv (As := [.int (iI a1)]) (st := []) (o := 149) C 5 rfl (by decide) (ceX_149 _ _ _) rfl ca_J5_setLength_d00df cu_J5_setLength_d00df w_351 w_966 rfl ⟨Nat.le_of_ble_eq_true rfl, Nat.le_of_ble_eq_true rfl⟩ ⟨Nat.le_of_ble_eq_true rfl, Nat.le_of_ble_eq_true rfl⟩ (Nat.le_of_ble_eq_true rfl) dJ4_setLength_d00df_2 (fun μ2 e9 => c_J5_setLength_d00df_o149 _ _ μ2 e9) h (fun μ2 h => ?_) rfl
  exact xx_vret C E rfl ⟨Nat.le_of_ble_eq_true rfl, Nat.le_of_ble_eq_true rfl⟩ dJ4_setLength_d00df_5 h

def f_X5_writeRite_o148o0g (μ : mu_T) (a2 : Int) : Option mu_T :=
  bd_ (f_X11_isCell μ a2) (fun v1 => jn_ (φ := Int → Option mu_T) (fun s0_17 => eq_ s0_17 1
      (bd_ (f_J4_append_cf468_o149g μ 33) (fun μ29 => some μ29))
      (eq_ s0_17 2
      (bd_ (f_J4_append_cf468_o149g μ 63) (fun μ47 => some μ47))
      (some μ)))
      (fun J17 => eq_ v1 0
      (J17 0)
      (rd_ μ 3 24 a2 (fun v12 => J17 v12))))
set_option maxHeartbeats 4000000 in
set_option maxRecDepth 100000 in
theorem c_X5_writeRite_o148o0g {G : gp_} {ad : Nat → Nat} (p q : Nat) (μ : mu_T) (a2 : Int) (μr : mu_T) (h : f_X5_writeRite_o148o0g μ a2 = some μr) : mgv_ yX5_writeRite cX5_writeRite 4 none ({ frames := 6, cells := 1, slots := 70, locals := 134 } : Room) G ad p q [.ref (ad 148), .ref (ad 0), .int (iI a2)] μ μr := by
  refine mg_in (own := "UrnHeap$Line") (lv := [(0, .ref (ad 148)), (1, .ref (ad 0)), (2, .int (iI a2))]) (by decide) rfl rfl (Nat.le_of_ble_eq_true rfl) (fun X C E => ?_)
  have hb : (0 + 0 ≤ 0 ∧ 0 + 0 ≤ 0) := ⟨Nat.le_refl _, Nat.le_refl _⟩
  unfold f_X5_writeRite_o148o0g at h
  refine xx_iload_n C 1 rfl 2 dX5_writeRite_0 rfl rfl ?_
  refine xx_cNip (As := [.int (iI a2)]) (st := []) C 4 rfl  ca_X11_isCell cs_X11_isCell 10 rfl rfl ⟨Nat.le_of_ble_eq_true rfl, Nat.le_of_ble_eq_true rfl⟩ (gB_ hb (Nat.le_of_ble_eq_true rfl) (Nat.le_of_ble_eq_true rfl)) (Nat.le_of_ble_eq_true rfl) dX5_writeRite_1 (fun v1 e9 => c_X11_isCell _ _ v1 e9) h (fun v1 h => ?_) rfl
  have hb := gN_ (c2 := 0) (s2 := 0) hb
  refine jn_r (fun J => ∀ (p q k n : Nat), (k + 0 ≤ 0 ∧ n + 0 ≤ 0) → ∀ (s0_17 : Int), J s0_17 = some μr → wx_ G X 151 (am_ ad p q) (ceX G (am_ ad p q)) μ k n 17 [(0, .ref (ad 148))] [.int (iI s0_17)]) h (fun p q k n hb s0_17 h => ?_) (fun J17 K17 h => ?_)
  · refine xx_istore_n (lv1 := [(3, .int (iI s0_17)), (0, .ref (ad 148))]) C 18 rfl (by decide) dX5_writeRite_17 rfl rfl ?_
    refine xx_iload_n C 19 rfl 0 dX5_writeRite_18 rfl rfl ?_
    refine xx_iconst C 20 rfl dX5_writeRite_19 ?_
    refine xx_icmp_ne (tgt := 36) C 23 rfl dX5_writeRite_20 (by decide) h (fun h => ?_) (fun h => ?_)
    · refine xx_iload_n C 37 rfl 0 dX5_writeRite_36 rfl rfl ?_
      refine xx_iconst C 38 rfl dX5_writeRite_37 ?_
      refine xx_icmp_ne (tgt := 51) C 41 rfl dX5_writeRite_38 (by decide) h (fun h => ?_) (fun h => ?_)
      · exact xx_gvret C E rfl (gR_ hb (Nat.le_of_ble_eq_true rfl) (Nat.le_of_ble_eq_true rfl)) dX5_writeRite_51 h
      · refine xx_aload_n C 42 rfl 1 dX5_writeRite_41 rfl rfl ?_
        refine xx_getr (fi := 0) C 45 rfl (by decide) (ceX_148 _ _ _) rfl in_X5 (by decide) rfl w_393 dX5_writeRite_42 ?_
        refine xx_bipush C 47 rfl dX5_writeRite_45 (by decide) ?_
        refine xx_gVr (As := [.int (iI 63)]) (st := []) (o := 149) C 50 rfl (by decide) (ceX_149 _ _ _) rfl rfl ca_J4_append_cf468 cv_J4_append_cf468 w_1052 rfl ⟨Nat.le_of_ble_eq_true rfl, Nat.le_of_ble_eq_true rfl⟩ (gB_ hb (Nat.le_of_ble_eq_true rfl) (Nat.le_of_ble_eq_true rfl)) (Nat.le_of_ble_eq_true rfl) dX5_writeRite_47 (fun μ47 e9 => c_J4_append_cf468_o149g p q _ _ μ47 e9) h (fun p q μ47 h => ?_) rfl
        have hb := gN_ (c2 := 1) (s2 := 70) hb
        refine xx_pop C 51 rfl dX5_writeRite_50 rfl ?_
        exact xx_gvret C E rfl (gR_ hb (Nat.le_of_ble_eq_true rfl) (Nat.le_of_ble_eq_true rfl)) dX5_writeRite_51 h
    · refine xx_aload_n C 24 rfl 1 dX5_writeRite_23 rfl rfl ?_
      refine xx_getr (fi := 0) C 27 rfl (by decide) (ceX_148 _ _ _) rfl in_X5 (by decide) rfl w_393 dX5_writeRite_24 ?_
      refine xx_bipush C 29 rfl dX5_writeRite_27 (by decide) ?_
      refine xx_gVr (As := [.int (iI 33)]) (st := []) (o := 149) C 32 rfl (by decide) (ceX_149 _ _ _) rfl rfl ca_J4_append_cf468 cv_J4_append_cf468 w_1052 rfl ⟨Nat.le_of_ble_eq_true rfl, Nat.le_of_ble_eq_true rfl⟩ (gB_ hb (Nat.le_of_ble_eq_true rfl) (Nat.le_of_ble_eq_true rfl)) (Nat.le_of_ble_eq_true rfl) dX5_writeRite_29 (fun μ29 e9 => c_J4_append_cf468_o149g p q _ _ μ29 e9) h (fun p q μ29 h => ?_) rfl
      have hb := gN_ (c2 := 1) (s2 := 70) hb
      refine xx_pop C 33 rfl dX5_writeRite_32 rfl ?_
      refine xx_goto C 51 dX5_writeRite_33 (by decide) ?_
      exact xx_gvret C E rfl (gR_ hb (Nat.le_of_ble_eq_true rfl) (Nat.le_of_ble_eq_true rfl)) dX5_writeRite_51 h
  · refine xx_if_eq (tgt := 16) C 7 rfl dX5_writeRite_4 (by decide) h (fun h => ?_) (fun h => ?_)
    · refine xx_iconst C 17 rfl dX5_writeRite_16 ?_
      refine xx_sub [0] rfl ?_
      exact K17 p q _ _ (gW_ hb (Nat.le_of_ble_eq_true rfl) (Nat.le_of_ble_eq_true rfl)) 0 h
    · refine xx_aload_n C 8 rfl 1 dX5_writeRite_7 rfl rfl ?_
      refine xx_getr (fi := 2) C 11 rfl (by decide) (ceX_0 _ _ _) rfl in_X2 (by decide) rfl w_146 dX5_writeRite_8 ?_
      refine xx_iload_n C 12 rfl 2 dX5_writeRite_11 rfl rfl ?_
      refine xx_iaload C 13 rfl (by decide) (fun row => ceX_3 _ _ row) (by decide) dX5_writeRite_12 h (fun v12 h => ?_)
      refine xx_goto C 17 dX5_writeRite_13 (by decide) ?_
      refine xx_sub [0] rfl ?_
      exact K17 p q _ _ (gW_ hb (Nat.le_of_ble_eq_true rfl) (Nat.le_of_ble_eq_true rfl)) v12 h

def f_X5_writeUrn_o148o0g_L25 (J65 : mu_T → Option (Int × mu_T)) (a2 : Int) : Nat → Int → mu_T → Option (Int × mu_T)
  | 0, _, _ => none
  | fu25 + 1, x3_25, μ25 => lt_ x3_25 4
      (jn_ (φ := Int → Option (Int × mu_T)) (fun s0_45 => bd_ (f_J4_append_cf468_o149g μ25 s0_45) (fun μ45 => bd_ (f_X2_target μ45 a2 x3_25) (fun v53 => bd_ (f_X5_writeTargetg μ45 v53) (fun μ56 => nm_ (x3_25 + 1) (fun n59 => (f_X5_writeUrn_o148o0g_L25 J65 a2 fu25) n59 μ56)))))
      (fun J45 => eq_ x3_25 0
      (J45 58)
      (J45 44)))
      (J65 μ25)
def f_X5_writeUrn_o148o0g (μ : mu_T) (a2 : Int) : Option (Int × mu_T) :=
  bd_ (f_J4_setLength_d00df_o149 μ 0) (fun μ5 => bd_ (f_J4_append_bf812_o149g μ5 a2) (fun μ13 => bd_ (f_X5_writeRite_o148o0g μ13 a2) (fun μ20 => jn_ (φ := mu_T → Option (Int × mu_T)) (fun μ65 => bd_ (f_X11_isCell μ65 a2) (fun v66 => jn_ (φ := Int → Option (Int × mu_T)) (fun s0_83 => eq_ s0_83 (-15)
      (bd_ (f_J4_length_8abf5_o149 μ65) (fun v108 => some (v108, μ65)))
      (bd_ (f_J4_append_cf468_o149g μ65 126) (fun μ96 => bd_ (f_J4_append_bf812_o149g μ96 s0_83) (fun μ100 => bd_ (f_J4_length_8abf5_o149 μ100) (fun v108 => some (v108, μ100))))))
      (fun J83 => eq_ v66 0
      (J83 (-15))
      (rd_ μ65 2 24 a2 (fun v77 => J83 v77)))))
      (fun J65 => f_X5_writeUrn_o148o0g_L25 J65 a2 5 0 μ20))))
set_option maxHeartbeats 4000000 in
set_option maxRecDepth 100000 in
theorem c_X5_writeUrn_o148o0g {G : gp_} {ad : Nat → Nat} (p q : Nat) (μ : mu_T) (a2 : Int) (a : Int) (μr : mu_T) (h : f_X5_writeUrn_o148o0g μ a2 = some (a, μr)) : mgi_ yX5_writeUrn cX5_writeUrn 4 (some .int) ({ frames := 7, cells := 12, slots := 840, locals := 157 } : Room) G ad p q [.ref (ad 148), .ref (ad 0), .int (iI a2)] μ a μr := by
  refine mg_in (own := "UrnHeap$Line") (lv := [(0, .ref (ad 148)), (1, .ref (ad 0)), (2, .int (iI a2))]) (by decide) rfl rfl (Nat.le_of_ble_eq_true rfl) (fun X C E => ?_)
  have hb : (0 + 0 ≤ 0 ∧ 0 + 0 ≤ 0) := ⟨Nat.le_refl _, Nat.le_refl _⟩
  unfold f_X5_writeUrn_o148o0g at h
  refine xx_aload_n C 1 rfl 0 dX5_writeUrn_0 rfl rfl ?_
  refine xx_getr (fi := 0) C 4 rfl (by decide) (ceX_148 _ _ _) rfl in_X5 (by decide) rfl w_393 dX5_writeUrn_1 ?_
  refine xx_iconst C 5 rfl dX5_writeUrn_4 ?_
  refine xx_cVv (As := [.int (iI 0)]) (st := []) (o := 149) C 8 rfl (by decide) (ceX_149 _ _ _) rfl rfl ca_J4_setLength_d00df cv_J4_setLength_d00df w_1012 rfl ⟨Nat.le_of_ble_eq_true rfl, Nat.le_of_ble_eq_true rfl⟩ (gB_ hb (Nat.le_of_ble_eq_true rfl) (Nat.le_of_ble_eq_true rfl)) (Nat.le_of_ble_eq_true rfl) dX5_writeUrn_5 (fun μ5 e9 => c_J4_setLength_d00df_o149 _ _ μ5 e9) h (fun μ5 h => ?_) rfl
  have hb := gN_ (c2 := 0) (s2 := 0) hb
  refine xx_aload_n C 9 rfl 0 dX5_writeUrn_8 rfl rfl ?_
  refine xx_getr (fi := 0) C 12 rfl (by decide) (ceX_148 _ _ _) rfl in_X5 (by decide) rfl w_393 dX5_writeUrn_9 ?_
  refine xx_iload_n C 13 rfl 2 dX5_writeUrn_12 rfl rfl ?_
  refine xx_gVr (As := [.int (iI a2)]) (st := []) (o := 149) C 16 rfl (by decide) (ceX_149 _ _ _) rfl rfl ca_J4_append_bf812 cv_J4_append_bf812 w_1013 rfl ⟨Nat.le_of_ble_eq_true rfl, Nat.le_of_ble_eq_true rfl⟩ (gB_ hb (Nat.le_of_ble_eq_true rfl) (Nat.le_of_ble_eq_true rfl)) (Nat.le_of_ble_eq_true rfl) dX5_writeUrn_13 (fun μ13 e9 => c_J4_append_bf812_o149g p q _ _ μ13 e9) h (fun p q μ13 h => ?_) rfl
  have hb := gN_ (c2 := 1) (s2 := 70) hb
  refine xx_pop C 17 rfl dX5_writeUrn_16 rfl ?_
  refine xx_aload_n C 18 rfl 0 dX5_writeUrn_17 rfl rfl ?_
  refine xx_aload_n C 19 rfl 1 dX5_writeUrn_18 rfl rfl ?_
  refine xx_iload_n C 20 rfl 2 dX5_writeUrn_19 rfl rfl ?_
  refine xx_gVv (As := [.ref (ad 0), .int (iI a2)]) (st := []) (o := 148) C 23 rfl (by decide) (ceX_148 _ _ _) rfl rfl ca_X5_writeRite cv_X5_writeRite w_1047 rfl ⟨Nat.le_of_ble_eq_true rfl, Nat.le_of_ble_eq_true rfl⟩ (gB_ hb (Nat.le_of_ble_eq_true rfl) (Nat.le_of_ble_eq_true rfl)) (Nat.le_of_ble_eq_true rfl) dX5_writeUrn_20 (fun μ20 e9 => c_X5_writeRite_o148o0g p q _ _ μ20 e9) h (fun p q μ20 h => ?_) rfl
  have hb := gN_ (c2 := 1) (s2 := 70) hb
  refine xx_iconst C 24 rfl dX5_writeUrn_23 ?_
  refine xx_istore_n (lv1 := [(3, .int (iI 0)), (0, .ref (ad 148)), (1, .ref (ad 0)), (2, .int (iI a2))]) C 25 rfl (by decide) dX5_writeUrn_24 rfl rfl ?_
  refine jn_r (fun J => ∀ (p q k n : Nat), (k + 0 ≤ 10 ∧ n + 0 ≤ 700) → ∀ (μ65 : mu_T), J μ65 = some (a, μr) → wx_ G X 151 (am_ ad p q) (ceX G (am_ ad p q)) μ65 k n 65 [(0, .ref (ad 148)), (1, .ref (ad 0)), (2, .int (iI a2))] []) h (fun p q k n hb μ65 h => ?_) (fun J65 K65 h => ?_)
  · refine xx_iload_n C 66 rfl 2 dX5_writeUrn_65 rfl rfl ?_
    refine xx_cNip (As := [.int (iI a2)]) (st := []) C 69 rfl  ca_X11_isCell cs_X11_isCell 10 rfl rfl ⟨Nat.le_of_ble_eq_true rfl, Nat.le_of_ble_eq_true rfl⟩ (gB_ hb (Nat.le_of_ble_eq_true rfl) (Nat.le_of_ble_eq_true rfl)) (Nat.le_of_ble_eq_true rfl) dX5_writeUrn_66 (fun v66 e9 => c_X11_isCell _ _ v66 e9) h (fun v66 h => ?_) rfl
    have hb := gN_ (c2 := 0) (s2 := 0) hb
    refine jn_r (fun J => ∀ (p q k n : Nat), (k + 0 ≤ 10 ∧ n + 0 ≤ 700) → ∀ (s0_83 : Int), J s0_83 = some (a, μr) → wx_ G X 151 (am_ ad p q) (ceX G (am_ ad p q)) μ65 k n 83 [(0, .ref (ad 148))] [.int (iI s0_83)]) h (fun p q k n hb s0_83 h => ?_) (fun J83 K83 h => ?_)
    · refine xx_istore_n (lv1 := [(3, .int (iI s0_83)), (0, .ref (ad 148))]) C 84 rfl (by decide) dX5_writeUrn_83 rfl rfl ?_
      refine xx_iload_n C 85 rfl 0 dX5_writeUrn_84 rfl rfl ?_
      refine xx_bipush C 87 rfl dX5_writeUrn_85 (by decide) ?_
      refine xx_icmp_eq (tgt := 104) C 90 rfl dX5_writeUrn_87 (by decide) h (fun h => ?_) (fun h => ?_)
      · refine xx_aload_n C 105 rfl 1 dX5_writeUrn_104 rfl rfl ?_
        refine xx_getr (fi := 0) C 108 rfl (by decide) (ceX_148 _ _ _) rfl in_X5 (by decide) rfl w_393 dX5_writeUrn_105 ?_
        refine xx_cVip (As := []) (st := []) (o := 149) C 111 rfl (by decide) (ceX_149 _ _ _) rfl rfl ca_J4_length_8abf5 cv_J4_length_8abf5 w_1058 rfl ⟨Nat.le_of_ble_eq_true rfl, Nat.le_of_ble_eq_true rfl⟩ (gB_ hb (Nat.le_of_ble_eq_true rfl) (Nat.le_of_ble_eq_true rfl)) (Nat.le_of_ble_eq_true rfl) dX5_writeUrn_108 (fun v108 e9 => c_J4_length_8abf5_o149 _ v108 e9) h (fun v108 h => ?_) rfl
        have hb := gN_ (c2 := 0) (s2 := 0) hb
        exact xx_giret C E rfl (gR_ hb (Nat.le_of_ble_eq_true rfl) (Nat.le_of_ble_eq_true rfl)) dX5_writeUrn_111 h
      · refine xx_aload_n C 91 rfl 1 dX5_writeUrn_90 rfl rfl ?_
        refine xx_getr (fi := 0) C 94 rfl (by decide) (ceX_148 _ _ _) rfl in_X5 (by decide) rfl w_393 dX5_writeUrn_91 ?_
        refine xx_bipush C 96 rfl dX5_writeUrn_94 (by decide) ?_
        refine xx_gVr (As := [.int (iI 126)]) (st := []) (o := 149) C 99 rfl (by decide) (ceX_149 _ _ _) rfl rfl ca_J4_append_cf468 cv_J4_append_cf468 w_1052 rfl ⟨Nat.le_of_ble_eq_true rfl, Nat.le_of_ble_eq_true rfl⟩ (gB_ hb (Nat.le_of_ble_eq_true rfl) (Nat.le_of_ble_eq_true rfl)) (Nat.le_of_ble_eq_true rfl) dX5_writeUrn_96 (fun μ96 e9 => c_J4_append_cf468_o149g p q _ _ μ96 e9) h (fun p q μ96 h => ?_) rfl
        have hb := gN_ (c2 := 1) (s2 := 70) hb
        refine xx_iload_n C 100 rfl 0 dX5_writeUrn_99 rfl rfl ?_
        refine xx_gVr (As := [.int (iI s0_83)]) (st := []) (o := 149) C 103 rfl (by decide) (ceX_149 _ _ _) rfl rfl ca_J4_append_bf812 cv_J4_append_bf812 w_1013 rfl ⟨Nat.le_of_ble_eq_true rfl, Nat.le_of_ble_eq_true rfl⟩ (gB_ hb (Nat.le_of_ble_eq_true rfl) (Nat.le_of_ble_eq_true rfl)) (Nat.le_of_ble_eq_true rfl) dX5_writeUrn_100 (fun μ100 e9 => c_J4_append_bf812_o149g p q _ _ μ100 e9) h (fun p q μ100 h => ?_) rfl
        have hb := gN_ (c2 := 1) (s2 := 70) hb
        refine xx_pop C 104 rfl dX5_writeUrn_103 rfl ?_
        refine xx_aload_n C 105 rfl 1 dX5_writeUrn_104 rfl rfl ?_
        refine xx_getr (fi := 0) C 108 rfl (by decide) (ceX_148 _ _ _) rfl in_X5 (by decide) rfl w_393 dX5_writeUrn_105 ?_
        refine xx_cVip (As := []) (st := []) (o := 149) C 111 rfl (by decide) (ceX_149 _ _ _) rfl rfl ca_J4_length_8abf5 cv_J4_length_8abf5 w_1058 rfl ⟨Nat.le_of_ble_eq_true rfl, Nat.le_of_ble_eq_true rfl⟩ (gB_ hb (Nat.le_of_ble_eq_true rfl) (Nat.le_of_ble_eq_true rfl)) (Nat.le_of_ble_eq_true rfl) dX5_writeUrn_108 (fun v108 e9 => c_J4_length_8abf5_o149 _ v108 e9) h (fun v108 h => ?_) rfl
        have hb := gN_ (c2 := 0) (s2 := 0) hb
        exact xx_giret C E rfl (gR_ hb (Nat.le_of_ble_eq_true rfl) (Nat.le_of_ble_eq_true rfl)) dX5_writeUrn_111 h
    · refine xx_if_eq (tgt := 81) C 72 rfl dX5_writeUrn_69 (by decide) h (fun h => ?_) (fun h => ?_)
      · refine xx_bipush C 83 rfl dX5_writeUrn_81 (by decide) ?_
        refine xx_sub [0] rfl ?_
        exact K83 p q _ _ (gW_ hb (Nat.le_of_ble_eq_true rfl) (Nat.le_of_ble_eq_true rfl)) (-15) h
      · refine xx_aload_n C 73 rfl 1 dX5_writeUrn_72 rfl rfl ?_
        refine xx_getr (fi := 1) C 76 rfl (by decide) (ceX_0 _ _ _) rfl in_X2 (by decide) rfl w_140 dX5_writeUrn_73 ?_
        refine xx_iload_n C 77 rfl 2 dX5_writeUrn_76 rfl rfl ?_
        refine xx_iaload C 78 rfl (by decide) (fun row => ceX_2 _ _ row) (by decide) dX5_writeUrn_77 h (fun v77 h => ?_)
        refine xx_goto C 83 dX5_writeUrn_78 (by decide) ?_
        refine xx_sub [0] rfl ?_
        exact K83 p q _ _ (gW_ hb (Nat.le_of_ble_eq_true rfl) (Nat.le_of_ble_eq_true rfl)) v77 h
  · have L25 : ∀ (fu25 : Nat) (p q k n : Nat), (k + 2 * fu25 ≤ 12 ∧ n + 140 * fu25 ≤ 840) → ∀ (x3_25 : Int) (μ25 : mu_T), f_X5_writeUrn_o148o0g_L25 J65 a2 fu25 x3_25 μ25 = some (a, μr) → wx_ G X 151 (am_ ad p q) (ceX G (am_ ad p q)) μ25 k n 25 [(0, .ref (ad 148)), (1, .ref (ad 0)), (2, .int (iI a2)), (3, .int (iI x3_25))] [] := by
      intro fu25
      induction fu25 with
      | zero => intro _ _ _ _ _ x3_25 μ25 h; exact nn_ h
      | succ fu25 K25 =>
        intro p q k n hb x3_25 μ25 h
        have hb := gE_ (K2 := 10) (S2 := 700) hb rfl rfl
        rw [f_X5_writeUrn_o148o0g_L25] at h
        generalize f_X5_writeUrn_o148o0g_L25 J65 a2 fu25 = R25 at K25 h
        refine xx_iload_n C 26 rfl 3 dX5_writeUrn_25 rfl rfl ?_
        refine xx_iconst C 27 rfl dX5_writeUrn_26 ?_
        refine xx_icmp_ge (tgt := 65) C 30 rfl dX5_writeUrn_27 (by decide) h (fun h => ?_) (fun h => ?_)
        · refine xx_sub [0, 1, 2] rfl ?_
          exact K65 p q _ _ (gD_ hb (Nat.le_of_ble_eq_true rfl) (Nat.le_of_ble_eq_true rfl)) μ25 h
        · refine xx_aload_n C 31 rfl 0 dX5_writeUrn_30 rfl rfl ?_
          refine xx_getr (fi := 0) C 34 rfl (by decide) (ceX_148 _ _ _) rfl in_X5 (by decide) rfl w_393 dX5_writeUrn_31 ?_
          refine xx_iload_n C 35 rfl 3 dX5_writeUrn_34 rfl rfl ?_
          refine jn_r (fun J => ∀ (p q k n : Nat), (k + 2 * fu25 ≤ 10 ∧ n + 140 * fu25 ≤ 700) → ∀ (s0_45 : Int), J s0_45 = some (a, μr) → wx_ G X 151 (am_ ad p q) (ceX G (am_ ad p q)) μ25 k n 45 [(0, .ref (ad 148)), (1, .ref (ad 0)), (2, .int (iI a2)), (3, .int (iI x3_25))] [.int (iI s0_45), .ref (ad 149)]) h (fun p q k n hb s0_45 h => ?_) (fun J45 K45 h => ?_)
          · refine xx_gVr (As := [.int (iI s0_45)]) (st := []) (o := 149) C 48 rfl (by decide) (ceX_149 _ _ _) rfl rfl ca_J4_append_cf468 cv_J4_append_cf468 w_1052 rfl ⟨Nat.le_of_ble_eq_true rfl, Nat.le_of_ble_eq_true rfl⟩ (gB_ hb (Nat.le_of_ble_eq_true rfl) (Nat.le_of_ble_eq_true rfl)) (Nat.le_of_ble_eq_true rfl) dX5_writeUrn_45 (fun μ45 e9 => c_J4_append_cf468_o149g p q _ _ μ45 e9) h (fun p q μ45 h => ?_) rfl
            have hb := gN_ (c2 := 1) (s2 := 70) hb
            refine xx_pop C 49 rfl dX5_writeUrn_48 rfl ?_
            refine xx_aload_n C 50 rfl 0 dX5_writeUrn_49 rfl rfl ?_
            refine xx_aload_n C 51 rfl 1 dX5_writeUrn_50 rfl rfl ?_
            refine xx_iload_n C 52 rfl 2 dX5_writeUrn_51 rfl rfl ?_
            refine xx_iload_n C 53 rfl 3 dX5_writeUrn_52 rfl rfl ?_
            refine xx_cVip (As := [.int (iI a2), .int (iI x3_25)]) (st := [.ref (ad 148)]) (o := 0) C 56 rfl (by decide) (ceX_0 _ _ _) rfl rfl ca_X2_target cv_X2_target w_1053 rfl ⟨Nat.le_of_ble_eq_true rfl, Nat.le_of_ble_eq_true rfl⟩ (gB_ hb (Nat.le_of_ble_eq_true rfl) (Nat.le_of_ble_eq_true rfl)) (Nat.le_of_ble_eq_true rfl) dX5_writeUrn_53 (fun v53 e9 => c_X2_target _ _ _ v53 e9) h (fun v53 h => ?_) rfl
            have hb := gN_ (c2 := 0) (s2 := 0) hb
            refine xx_gVv (As := [.int (iI v53)]) (st := []) (o := 148) C 59 rfl (by decide) (ceX_148 _ _ _) rfl rfl ca_X5_writeTarget cv_X5_writeTarget w_1054 rfl ⟨Nat.le_of_ble_eq_true rfl, Nat.le_of_ble_eq_true rfl⟩ (gB_ hb (Nat.le_of_ble_eq_true rfl) (Nat.le_of_ble_eq_true rfl)) (Nat.le_of_ble_eq_true rfl) dX5_writeUrn_56 (fun μ56 e9 => c_X5_writeTargetg p q _ _ μ56 e9) h (fun p q μ56 h => ?_) rfl
            have hb := gN_ (c2 := 1) (s2 := 70) hb
            refine xx_iincn C 62 rfl 3 (by decide) dX5_writeUrn_59 rfl h (fun n59 h => ?_)
            refine xx_lv (lv1 := [(3, .int (iI n59)), (0, .ref (ad 148)), (1, .ref (ad 0)), (2, .int (iI a2))]) rfl ?_
            refine xx_goto C 25 dX5_writeUrn_62 (by decide) ?_
            refine xx_sub [1, 2, 3, 0] rfl ?_
            exact K25 p q _ _ (gW_ hb (Nat.le_of_ble_eq_true rfl) (Nat.le_of_ble_eq_true rfl)) n59 μ56 h
          · refine xx_if_ne (tgt := 43) C 38 rfl dX5_writeUrn_35 (by decide) h (fun h => ?_) (fun h => ?_)
            · refine xx_bipush C 45 rfl dX5_writeUrn_43 (by decide) ?_
              exact K45 p q _ _ (gW_ hb (Nat.le_of_ble_eq_true rfl) (Nat.le_of_ble_eq_true rfl)) 44 h
            · refine xx_bipush C 40 rfl dX5_writeUrn_38 (by decide) ?_
              refine xx_goto C 45 dX5_writeUrn_40 (by decide) ?_
              exact K45 p q _ _ (gW_ hb (Nat.le_of_ble_eq_true rfl) (Nat.le_of_ble_eq_true rfl)) 58 h
    refine xx_sub [1, 2, 3, 0] rfl ?_
    exact L25 _ p q _ _ (gL_ hb (Nat.le_of_ble_eq_true rfl) (Nat.le_of_ble_eq_true rfl)) _ _ h

def f_X11_tellg (μ : mu_T) (a1 : Int) : Option (Int × mu_T) :=
  bd_ (f_X2_hasUrn μ a1) (fun v5 => eq_ v5 0
      (some ((-11), μ))
      (bp_ (f_X5_writeUrn_o148o0g μ a1) (fun v20 μ20 => some (v20, μ20))))
set_option maxHeartbeats 4000000 in
set_option maxRecDepth 100000 in
theorem c_X11_tellg {G : gp_} {ad : Nat → Nat} (p q : Nat) (μ : mu_T) (a1 : Int) (a : Int) (μr : mu_T) (h : f_X11_tellg μ a1 = some (a, μr)) : mgi_ yX11_tell cX11_tell 2 (some .int) ({ frames := 8, cells := 12, slots := 840, locals := 180 } : Room) G ad p q [.ref (ad 132), .int (iI a1)] μ a μr := by
  refine mg_in (own := "UrnHeap") (lv := [(0, .ref (ad 132)), (1, .int (iI a1))]) (by decide) rfl rfl (Nat.le_of_ble_eq_true rfl) (fun X C E => ?_)
  have hb : (0 + 0 ≤ 0 ∧ 0 + 0 ≤ 0) := ⟨Nat.le_refl _, Nat.le_refl _⟩
  unfold f_X11_tellg at h
  refine xx_aload_n C 1 rfl 0 dX11_tell_0 rfl rfl ?_
  refine xx_getr (fi := 0) C 4 rfl (by decide) (ceX_132 _ _ _) rfl in_X11 (by decide) rfl w_397 dX11_tell_1 ?_
  refine xx_iload_n C 5 rfl 1 dX11_tell_4 rfl rfl ?_
  refine xx_cVip (As := [.int (iI a1)]) (st := []) (o := 0) C 8 rfl (by decide) (ceX_0 _ _ _) rfl rfl ca_X2_hasUrn cv_X2_hasUrn w_558 rfl ⟨Nat.le_of_ble_eq_true rfl, Nat.le_of_ble_eq_true rfl⟩ (gB_ hb (Nat.le_of_ble_eq_true rfl) (Nat.le_of_ble_eq_true rfl)) (Nat.le_of_ble_eq_true rfl) dX11_tell_5 (fun v5 e9 => c_X2_hasUrn _ _ v5 e9) h (fun v5 h => ?_) rfl
  have hb := gN_ (c2 := 0) (s2 := 0) hb
  refine xx_if_eq (tgt := 26) C 11 rfl dX11_tell_8 (by decide) h (fun h => ?_) (fun h => ?_)
  · refine xx_bipush C 28 rfl dX11_tell_26 (by decide) ?_
    exact xx_giret C E rfl (gR_ hb (Nat.le_of_ble_eq_true rfl) (Nat.le_of_ble_eq_true rfl)) dX11_tell_28 h
  · refine xx_aload_n C 12 rfl 0 dX11_tell_11 rfl rfl ?_
    refine xx_getr (fi := 7) C 15 rfl (by decide) (ceX_132 _ _ _) rfl in_X11 (by decide) rfl w_404 dX11_tell_12 ?_
    refine xx_aload_n C 16 rfl 0 dX11_tell_15 rfl rfl ?_
    refine xx_getr (fi := 0) C 19 rfl (by decide) (ceX_132 _ _ _) rfl in_X11 (by decide) rfl w_397 dX11_tell_16 ?_
    refine xx_iload_n C 20 rfl 1 dX11_tell_19 rfl rfl ?_
    refine xx_gVi (As := [.ref (ad 0), .int (iI a1)]) (st := []) (o := 148) C 23 rfl (by decide) (ceX_148 _ _ _) rfl rfl ca_X5_writeUrn cv_X5_writeUrn w_1008 rfl ⟨Nat.le_of_ble_eq_true rfl, Nat.le_of_ble_eq_true rfl⟩ (gB_ hb (Nat.le_of_ble_eq_true rfl) (Nat.le_of_ble_eq_true rfl)) (Nat.le_of_ble_eq_true rfl) dX11_tell_20 (fun v20 μ20 e9 => c_X5_writeUrn_o148o0g p q _ _ v20 μ20 e9) h (fun p q v20 μ20 h => ?_) rfl
    have hb := gN_ (c2 := 12) (s2 := 840) hb
    refine xx_goto C 28 dX11_tell_23 (by decide) ?_
    exact xx_giret C E rfl (gR_ hb (Nat.le_of_ble_eq_true rfl) (Nat.le_of_ble_eq_true rfl)) dX11_tell_28 h

def f_X5_writeHeap_o148o0g_L10 (J39 : mu_T → Option (Int × mu_T)) : Nat → Int → mu_T → Option (Int × mu_T)
  | 0, _, _ => none
  | fu10 + 1, x2_10, μ10 => lt_ x2_10 24
      (rd_ μ10 4 24 x2_10 (fun v25 => bd_ (f_X5_letterOf μ10 v25) (fun v26 => bd_ (f_J4_append_cf468_o149g μ10 v26) (fun μ29 => nm_ (x2_10 + 1) (fun n33 => (f_X5_writeHeap_o148o0g_L10 J39 fu10) n33 μ29)))))
      (J39 μ10)
def f_X5_writeHeap_o148o0g (μ : mu_T)  : Option (Int × mu_T) :=
  bd_ (f_J4_setLength_d00df_o149 μ 0) (fun μ5 => jn_ (φ := mu_T → Option (Int × mu_T)) (fun μ39 => bd_ (f_J4_length_8abf5_o149 μ39) (fun v43 => some (v43, μ39)))
      (fun J39 => f_X5_writeHeap_o148o0g_L10 J39 25 0 μ5))
set_option maxHeartbeats 4000000 in
set_option maxRecDepth 100000 in
theorem c_X5_writeHeap_o148o0g {G : gp_} {ad : Nat → Nat} (p q : Nat) (μ : mu_T)  (a : Int) (μr : mu_T) (h : f_X5_writeHeap_o148o0g μ  = some (a, μr)) : mgi_ yX5_writeHeap cX5_writeHeap 3 (some .int) ({ frames := 6, cells := 25, slots := 1750, locals := 134 } : Room) G ad p q [.ref (ad 148), .ref (ad 0)] μ a μr := by
  refine mg_in (own := "UrnHeap$Line") (lv := [(0, .ref (ad 148)), (1, .ref (ad 0))]) (by decide) rfl rfl (Nat.le_of_ble_eq_true rfl) (fun X C E => ?_)
  have hb : (0 + 0 ≤ 0 ∧ 0 + 0 ≤ 0) := ⟨Nat.le_refl _, Nat.le_refl _⟩
  unfold f_X5_writeHeap_o148o0g at h
  refine xx_aload_n C 1 rfl 0 dX5_writeHeap_0 rfl rfl ?_
  refine xx_getr (fi := 0) C 4 rfl (by decide) (ceX_148 _ _ _) rfl in_X5 (by decide) rfl w_393 dX5_writeHeap_1 ?_
  refine xx_iconst C 5 rfl dX5_writeHeap_4 ?_
  refine xx_cVv (As := [.int (iI 0)]) (st := []) (o := 149) C 8 rfl (by decide) (ceX_149 _ _ _) rfl rfl ca_J4_setLength_d00df cv_J4_setLength_d00df w_1012 rfl ⟨Nat.le_of_ble_eq_true rfl, Nat.le_of_ble_eq_true rfl⟩ (gB_ hb (Nat.le_of_ble_eq_true rfl) (Nat.le_of_ble_eq_true rfl)) (Nat.le_of_ble_eq_true rfl) dX5_writeHeap_5 (fun μ5 e9 => c_J4_setLength_d00df_o149 _ _ μ5 e9) h (fun μ5 h => ?_) rfl
  have hb := gN_ (c2 := 0) (s2 := 0) hb
  refine xx_iconst C 9 rfl dX5_writeHeap_8 ?_
  refine xx_istore_n (lv1 := [(2, .int (iI 0)), (0, .ref (ad 148)), (1, .ref (ad 0))]) C 10 rfl (by decide) dX5_writeHeap_9 rfl rfl ?_
  refine jn_r (fun J => ∀ (p q k n : Nat), (k + 0 ≤ 24 ∧ n + 0 ≤ 1680) → ∀ (μ39 : mu_T), J μ39 = some (a, μr) → wx_ G X 151 (am_ ad p q) (ceX G (am_ ad p q)) μ39 k n 39 [(0, .ref (ad 148))] []) h (fun p q k n hb μ39 h => ?_) (fun J39 K39 h => ?_)
  · refine xx_aload_n C 40 rfl 0 dX5_writeHeap_39 rfl rfl ?_
    refine xx_getr (fi := 0) C 43 rfl (by decide) (ceX_148 _ _ _) rfl in_X5 (by decide) rfl w_393 dX5_writeHeap_40 ?_
    refine xx_cVip (As := []) (st := []) (o := 149) C 46 rfl (by decide) (ceX_149 _ _ _) rfl rfl ca_J4_length_8abf5 cv_J4_length_8abf5 w_1058 rfl ⟨Nat.le_of_ble_eq_true rfl, Nat.le_of_ble_eq_true rfl⟩ (gB_ hb (Nat.le_of_ble_eq_true rfl) (Nat.le_of_ble_eq_true rfl)) (Nat.le_of_ble_eq_true rfl) dX5_writeHeap_43 (fun v43 e9 => c_J4_length_8abf5_o149 _ v43 e9) h (fun v43 h => ?_) rfl
    have hb := gN_ (c2 := 0) (s2 := 0) hb
    exact xx_giret C E rfl (gR_ hb (Nat.le_of_ble_eq_true rfl) (Nat.le_of_ble_eq_true rfl)) dX5_writeHeap_46 h
  · have L10 : ∀ (fu10 : Nat) (p q k n : Nat), (k + 1 * fu10 ≤ 25 ∧ n + 70 * fu10 ≤ 1750) → ∀ (x2_10 : Int) (μ10 : mu_T), f_X5_writeHeap_o148o0g_L10 J39 fu10 x2_10 μ10 = some (a, μr) → wx_ G X 151 (am_ ad p q) (ceX G (am_ ad p q)) μ10 k n 10 [(0, .ref (ad 148)), (1, .ref (ad 0)), (2, .int (iI x2_10))] [] := by
      intro fu10
      induction fu10 with
      | zero => intro _ _ _ _ _ x2_10 μ10 h; exact nn_ h
      | succ fu10 K10 =>
        intro p q k n hb x2_10 μ10 h
        have hb := gE_ (K2 := 24) (S2 := 1680) hb rfl rfl
        rw [f_X5_writeHeap_o148o0g_L10] at h
        generalize f_X5_writeHeap_o148o0g_L10 J39 fu10 = R10 at K10 h
        refine xx_iload_n C 11 rfl 2 dX5_writeHeap_10 rfl rfl ?_
        refine xx_bipush C 13 rfl dX5_writeHeap_11 (by decide) ?_
        refine xx_icmp_ge (tgt := 39) C 16 rfl dX5_writeHeap_13 (by decide) h (fun h => ?_) (fun h => ?_)
        · refine xx_sub [0] rfl ?_
          exact K39 p q _ _ (gD_ hb (Nat.le_of_ble_eq_true rfl) (Nat.le_of_ble_eq_true rfl)) μ10 h
        · refine xx_aload_n C 17 rfl 0 dX5_writeHeap_16 rfl rfl ?_
          refine xx_getr (fi := 0) C 20 rfl (by decide) (ceX_148 _ _ _) rfl in_X5 (by decide) rfl w_393 dX5_writeHeap_17 ?_
          refine xx_aload_n C 21 rfl 1 dX5_writeHeap_20 rfl rfl ?_
          refine xx_getr (fi := 3) C 24 rfl (by decide) (ceX_0 _ _ _) rfl in_X2 (by decide) rfl w_152 dX5_writeHeap_21 ?_
          refine xx_iload_n C 25 rfl 2 dX5_writeHeap_24 rfl rfl ?_
          refine xx_iaload C 26 rfl (by decide) (fun row => ceX_4 _ _ row) (by decide) dX5_writeHeap_25 h (fun v25 h => ?_)
          refine xx_cSip (As := [.int (iI v25)]) (st := [.ref (ad 149)]) C 29 rfl  ca_X5_letterOf cs_X5_letterOf w_1067 rfl ⟨Nat.le_of_ble_eq_true rfl, Nat.le_of_ble_eq_true rfl⟩ (gB_ hb (Nat.le_of_ble_eq_true rfl) (Nat.le_of_ble_eq_true rfl)) (Nat.le_of_ble_eq_true rfl) dX5_writeHeap_26 (fun v26 e9 => c_X5_letterOf _ _ v26 e9) h (fun v26 h => ?_) rfl
          have hb := gN_ (c2 := 0) (s2 := 0) hb
          refine xx_gVr (As := [.int (iI v26)]) (st := []) (o := 149) C 32 rfl (by decide) (ceX_149 _ _ _) rfl rfl ca_J4_append_cf468 cv_J4_append_cf468 w_1052 rfl ⟨Nat.le_of_ble_eq_true rfl, Nat.le_of_ble_eq_true rfl⟩ (gB_ hb (Nat.le_of_ble_eq_true rfl) (Nat.le_of_ble_eq_true rfl)) (Nat.le_of_ble_eq_true rfl) dX5_writeHeap_29 (fun μ29 e9 => c_J4_append_cf468_o149g p q _ _ μ29 e9) h (fun p q μ29 h => ?_) rfl
          have hb := gN_ (c2 := 1) (s2 := 70) hb
          refine xx_pop C 33 rfl dX5_writeHeap_32 rfl ?_
          refine xx_iincn C 36 rfl 2 (by decide) dX5_writeHeap_33 rfl h (fun n33 h => ?_)
          refine xx_lv (lv1 := [(2, .int (iI n33)), (0, .ref (ad 148)), (1, .ref (ad 0))]) rfl ?_
          refine xx_goto C 10 dX5_writeHeap_36 (by decide) ?_
          refine xx_sub [1, 2, 0] rfl ?_
          exact K10 p q _ _ (gW_ hb (Nat.le_of_ble_eq_true rfl) (Nat.le_of_ble_eq_true rfl)) n33 μ29 h
    refine xx_sub [1, 2, 0] rfl ?_
    exact L10 _ p q _ _ (gL_ hb (Nat.le_of_ble_eq_true rfl) (Nat.le_of_ble_eq_true rfl)) _ _ h

def f_X11_tellHeapg (μ : mu_T)  : Option (Int × mu_T) :=
  bp_ (f_X5_writeHeap_o148o0g μ) (fun v8 μ8 => some (v8, μ8))
set_option maxHeartbeats 4000000 in
set_option maxRecDepth 100000 in
theorem c_X11_tellHeapg {G : gp_} {ad : Nat → Nat} (p q : Nat) (μ : mu_T)  (a : Int) (μr : mu_T) (h : f_X11_tellHeapg μ  = some (a, μr)) : mgi_ yX11_tellHeap cX11_tellHeap 1 (some .int) ({ frames := 7, cells := 25, slots := 1750, locals := 156 } : Room) G ad p q [.ref (ad 132)] μ a μr := by
  refine mg_in (own := "UrnHeap") (lv := [(0, .ref (ad 132))]) (by decide) rfl rfl (Nat.le_of_ble_eq_true rfl) (fun X C E => ?_)
  have hb : (0 + 0 ≤ 0 ∧ 0 + 0 ≤ 0) := ⟨Nat.le_refl _, Nat.le_refl _⟩
  unfold f_X11_tellHeapg at h
  refine xx_aload_n C 1 rfl 0 dX11_tellHeap_0 rfl rfl ?_
  refine xx_getr (fi := 7) C 4 rfl (by decide) (ceX_132 _ _ _) rfl in_X11 (by decide) rfl w_404 dX11_tellHeap_1 ?_
  refine xx_aload_n C 5 rfl 0 dX11_tellHeap_4 rfl rfl ?_
  refine xx_getr (fi := 0) C 8 rfl (by decide) (ceX_132 _ _ _) rfl in_X11 (by decide) rfl w_397 dX11_tellHeap_5 ?_
  refine xx_gVi (As := [.ref (ad 0)]) (st := []) (o := 148) C 11 rfl (by decide) (ceX_148 _ _ _) rfl rfl ca_X5_writeHeap cv_X5_writeHeap w_1063 rfl ⟨Nat.le_of_ble_eq_true rfl, Nat.le_of_ble_eq_true rfl⟩ (gB_ hb (Nat.le_of_ble_eq_true rfl) (Nat.le_of_ble_eq_true rfl)) (Nat.le_of_ble_eq_true rfl) dX11_tellHeap_8 (fun v8 μ8 e9 => c_X5_writeHeap_o148o0g p q _ v8 μ8 e9) h (fun p q v8 μ8 h => ?_) rfl
  have hb := gN_ (c2 := 25) (s2 := 1750) hb
  exact xx_giret C E rfl (gR_ hb (Nat.le_of_ble_eq_true rfl) (Nat.le_of_ble_eq_true rfl)) dX11_tellHeap_11 h

def f_X11_character (μ : mu_T) (a1 : Int) : Option Int :=
  bd_ (f_X5_signAt μ a1) (fun v5 => some v5)
set_option maxHeartbeats 4000000 in
set_option maxRecDepth 100000 in
theorem c_X11_character {G : gp_} {ad : Nat → Nat} (μ : mu_T) (a1 : Int) (a : Int) (h : f_X11_character μ a1 = some a) : mi_ yX11_character cX11_character 2 (some .int) ({ frames := 5, cells := 0, slots := 0, locals := 109 } : Room) G 151 ad (ceX G ad) [.ref (ad 132), .int (iI a1)] μ a μ := by
  refine mi_in (own := "UrnHeap") (lv := [(0, .ref (ad 132)), (1, .int (iI a1))]) (by decide) rfl rfl (Nat.le_of_ble_eq_true rfl) (fun X C E => ?_)
  unfold f_X11_character at h
  refine xx_aload_n C 1 rfl 0 dX11_character_0 rfl rfl ?_
  refine xx_getr (fi := 7) C 4 rfl (by decide) (ceX_132 _ _ _) rfl in_X11 (by decide) rfl w_404 dX11_character_1 ?_
  refine xx_iload_n C 5 rfl 1 dX11_character_4 rfl rfl ?_
  refine xx_cVip (As := [.int (iI a1)]) (st := []) (o := 148) C 8 rfl (by decide) (ceX_148 _ _ _) rfl rfl ca_X5_signAt cv_X5_signAt w_1074 rfl ⟨Nat.le_of_ble_eq_true rfl, Nat.le_of_ble_eq_true rfl⟩ ⟨Nat.le_of_ble_eq_true rfl, Nat.le_of_ble_eq_true rfl⟩ (Nat.le_of_ble_eq_true rfl) dX11_character_5 (fun v5 e9 => c_X5_signAt _ _ v5 e9) h (fun v5 h => ?_) rfl
  exact xx_iretp C E rfl ⟨Nat.le_of_ble_eq_true rfl, Nat.le_of_ble_eq_true rfl⟩ dX11_character_8 h

def f_X11_account (μ : mu_T) (a1 : Int) : Option Int :=
  ts_ a1 [0, 1, 2, 3, 4, 5, 6, 7, 8, 9, 10, 11, 12, 13, 14, 15] [nm_ (μ 0 11) (fun v84 => some v84),
      nm_ (μ 0 9) (fun v92 => some v92),
      nm_ (μ 0 10) (fun v100 => some v100),
      bd_ (f_X2_urns μ) (fun v108 => some v108),
      bd_ (f_X2_urnsOf μ 0) (fun v117 => some v117),
      bd_ (f_X2_urnsOf μ 1) (fun v126 => some v126),
      bd_ (f_X2_urnsOf μ 2) (fun v135 => some v135),
      nm_ (μ 0 12) (fun v143 => some v143),
      nm_ (μ 0 13) (fun v151 => some v151),
      nm_ (μ 10 1) (fun v162 => some v162),
      nm_ (μ 0 14) (fun v170 => some v170),
      nm_ (μ 0 15) (fun v178 => some v178),
      bd_ (f_X2_namesInUse μ) (fun v186 => some v186),
      nm_ (μ 0 16) (fun v194 => some v194),
      bd_ (f_X6_signs μ) (fun v202 => some v202),
      nm_ (μ 138 5) (fun v210 => some v210)]
      (some (-12))
set_option maxHeartbeats 4000000 in
set_option maxRecDepth 100000 in
theorem c_X11_account {G : gp_} {ad : Nat → Nat} (μ : mu_T) (a1 : Int) (a : Int) (h : f_X11_account μ a1 = some a) : mi_ yX11_account cX11_account 2 (some .int) ({ frames := 3, cells := 0, slots := 0, locals := 60 } : Room) G 151 ad (ceX G ad) [.ref (ad 132), .int (iI a1)] μ a μ := by
  refine mi_in (own := "UrnHeap") (lv := [(0, .ref (ad 132)), (1, .int (iI a1))]) (by decide) rfl rfl (Nat.le_of_ble_eq_true rfl) (fun X C E => ?_)
  unfold f_X11_account at h
  refine xx_iload_n C 1 rfl 1 dX11_account_0 rfl rfl ?_
  refine xx_tsw C [0, 1, 2, 3, 4, 5, 6, 7, 8, 9, 10, 11, 12, 13, 14, 15] _ [80, 88, 96, 104, 112, 121, 130, 139, 147, 155, 166, 174, 182, 190, 198, 206] 214 dX11_account_1 (by decide) rfl h (fun h => ?_) ⟨fun h => ?_, fun h => ?_, fun h => ?_, fun h => ?_, fun h => ?_, fun h => ?_, fun h => ?_, fun h => ?_, fun h => ?_, fun h => ?_, fun h => ?_, fun h => ?_, fun h => ?_, fun h => ?_, fun h => ?_, fun h => ?_, trivial⟩
  · refine xx_bipush C 216 rfl dX11_account_214 (by decide) ?_
    exact xx_iretp C E rfl ⟨Nat.le_of_ble_eq_true rfl, Nat.le_of_ble_eq_true rfl⟩ dX11_account_216 h
  · refine xx_aload_n C 81 rfl 0 dX11_account_80 rfl rfl ?_
    refine xx_getr (fi := 0) C 84 rfl (by decide) (ceX_132 _ _ _) rfl in_X11 (by decide) rfl w_397 dX11_account_81 ?_
    refine xx_geti (fi := 11) (j := 11) C 87 rfl (by decide) (ceX_0 _ _ _) rfl in_X2 (by decide) rfl w_181 dX11_account_84 h (fun v84 h => ?_)
    exact xx_iretp C E rfl ⟨Nat.le_of_ble_eq_true rfl, Nat.le_of_ble_eq_true rfl⟩ dX11_account_87 h
  · refine xx_aload_n C 89 rfl 0 dX11_account_88 rfl rfl ?_
    refine xx_getr (fi := 0) C 92 rfl (by decide) (ceX_132 _ _ _) rfl in_X11 (by decide) rfl w_397 dX11_account_89 ?_
    refine xx_geti (fi := 9) (j := 9) C 95 rfl (by decide) (ceX_0 _ _ _) rfl in_X2 (by decide) rfl w_173 dX11_account_92 h (fun v92 h => ?_)
    exact xx_iretp C E rfl ⟨Nat.le_of_ble_eq_true rfl, Nat.le_of_ble_eq_true rfl⟩ dX11_account_95 h
  · refine xx_aload_n C 97 rfl 0 dX11_account_96 rfl rfl ?_
    refine xx_getr (fi := 0) C 100 rfl (by decide) (ceX_132 _ _ _) rfl in_X11 (by decide) rfl w_397 dX11_account_97 ?_
    refine xx_geti (fi := 10) (j := 10) C 103 rfl (by decide) (ceX_0 _ _ _) rfl in_X2 (by decide) rfl w_177 dX11_account_100 h (fun v100 h => ?_)
    exact xx_iretp C E rfl ⟨Nat.le_of_ble_eq_true rfl, Nat.le_of_ble_eq_true rfl⟩ dX11_account_103 h
  · refine xx_aload_n C 105 rfl 0 dX11_account_104 rfl rfl ?_
    refine xx_getr (fi := 0) C 108 rfl (by decide) (ceX_132 _ _ _) rfl in_X11 (by decide) rfl w_397 dX11_account_105 ?_
    refine xx_cVip (As := []) (st := []) (o := 0) C 111 rfl (by decide) (ceX_0 _ _ _) rfl rfl ca_X2_urns cv_X2_urns w_1087 rfl ⟨Nat.le_of_ble_eq_true rfl, Nat.le_of_ble_eq_true rfl⟩ ⟨Nat.le_of_ble_eq_true rfl, Nat.le_of_ble_eq_true rfl⟩ (Nat.le_of_ble_eq_true rfl) dX11_account_108 (fun v108 e9 => c_X2_urns _ v108 e9) h (fun v108 h => ?_) rfl
    exact xx_iretp C E rfl ⟨Nat.le_of_ble_eq_true rfl, Nat.le_of_ble_eq_true rfl⟩ dX11_account_111 h
  · refine xx_aload_n C 113 rfl 0 dX11_account_112 rfl rfl ?_
    refine xx_getr (fi := 0) C 116 rfl (by decide) (ceX_132 _ _ _) rfl in_X11 (by decide) rfl w_397 dX11_account_113 ?_
    refine xx_iconst C 117 rfl dX11_account_116 ?_
    refine xx_cVip (As := [.int (iI 0)]) (st := []) (o := 0) C 120 rfl (by decide) (ceX_0 _ _ _) rfl rfl ca_X2_urnsOf cv_X2_urnsOf w_1095 rfl ⟨Nat.le_of_ble_eq_true rfl, Nat.le_of_ble_eq_true rfl⟩ ⟨Nat.le_of_ble_eq_true rfl, Nat.le_of_ble_eq_true rfl⟩ (Nat.le_of_ble_eq_true rfl) dX11_account_117 (fun v117 e9 => c_X2_urnsOf _ _ v117 e9) h (fun v117 h => ?_) rfl
    exact xx_iretp C E rfl ⟨Nat.le_of_ble_eq_true rfl, Nat.le_of_ble_eq_true rfl⟩ dX11_account_120 h
  · refine xx_aload_n C 122 rfl 0 dX11_account_121 rfl rfl ?_
    refine xx_getr (fi := 0) C 125 rfl (by decide) (ceX_132 _ _ _) rfl in_X11 (by decide) rfl w_397 dX11_account_122 ?_
    refine xx_iconst C 126 rfl dX11_account_125 ?_
    refine xx_cVip (As := [.int (iI 1)]) (st := []) (o := 0) C 129 rfl (by decide) (ceX_0 _ _ _) rfl rfl ca_X2_urnsOf cv_X2_urnsOf w_1095 rfl ⟨Nat.le_of_ble_eq_true rfl, Nat.le_of_ble_eq_true rfl⟩ ⟨Nat.le_of_ble_eq_true rfl, Nat.le_of_ble_eq_true rfl⟩ (Nat.le_of_ble_eq_true rfl) dX11_account_126 (fun v126 e9 => c_X2_urnsOf _ _ v126 e9) h (fun v126 h => ?_) rfl
    exact xx_iretp C E rfl ⟨Nat.le_of_ble_eq_true rfl, Nat.le_of_ble_eq_true rfl⟩ dX11_account_129 h
  · refine xx_aload_n C 131 rfl 0 dX11_account_130 rfl rfl ?_
    refine xx_getr (fi := 0) C 134 rfl (by decide) (ceX_132 _ _ _) rfl in_X11 (by decide) rfl w_397 dX11_account_131 ?_
    refine xx_iconst C 135 rfl dX11_account_134 ?_
    refine xx_cVip (As := [.int (iI 2)]) (st := []) (o := 0) C 138 rfl (by decide) (ceX_0 _ _ _) rfl rfl ca_X2_urnsOf cv_X2_urnsOf w_1095 rfl ⟨Nat.le_of_ble_eq_true rfl, Nat.le_of_ble_eq_true rfl⟩ ⟨Nat.le_of_ble_eq_true rfl, Nat.le_of_ble_eq_true rfl⟩ (Nat.le_of_ble_eq_true rfl) dX11_account_135 (fun v135 e9 => c_X2_urnsOf _ _ v135 e9) h (fun v135 h => ?_) rfl
    exact xx_iretp C E rfl ⟨Nat.le_of_ble_eq_true rfl, Nat.le_of_ble_eq_true rfl⟩ dX11_account_138 h
  · refine xx_aload_n C 140 rfl 0 dX11_account_139 rfl rfl ?_
    refine xx_getr (fi := 0) C 143 rfl (by decide) (ceX_132 _ _ _) rfl in_X11 (by decide) rfl w_397 dX11_account_140 ?_
    refine xx_geti (fi := 12) (j := 12) C 146 rfl (by decide) (ceX_0 _ _ _) rfl in_X2 (by decide) rfl w_184 dX11_account_143 h (fun v143 h => ?_)
    exact xx_iretp C E rfl ⟨Nat.le_of_ble_eq_true rfl, Nat.le_of_ble_eq_true rfl⟩ dX11_account_146 h
  · refine xx_aload_n C 148 rfl 0 dX11_account_147 rfl rfl ?_
    refine xx_getr (fi := 0) C 151 rfl (by decide) (ceX_132 _ _ _) rfl in_X11 (by decide) rfl w_397 dX11_account_148 ?_
    refine xx_geti (fi := 13) (j := 13) C 154 rfl (by decide) (ceX_0 _ _ _) rfl in_X2 (by decide) rfl w_187 dX11_account_151 h (fun v151 h => ?_)
    exact xx_iretp C E rfl ⟨Nat.le_of_ble_eq_true rfl, Nat.le_of_ble_eq_true rfl⟩ dX11_account_154 h
  · refine xx_aload_n C 156 rfl 0 dX11_account_155 rfl rfl ?_
    refine xx_getr (fi := 0) C 159 rfl (by decide) (ceX_132 _ _ _) rfl in_X11 (by decide) rfl w_397 dX11_account_156 ?_
    refine xx_getr (fi := 8) C 162 rfl (by decide) (ceX_0 _ _ _) rfl in_X2 (by decide) rfl w_169 dX11_account_159 ?_
    refine xx_geti (fi := 1) (j := 1) C 165 rfl (by decide) (ceX_10 _ _ _) rfl in_X9 (by decide) rfl w_126 dX11_account_162 h (fun v162 h => ?_)
    exact xx_iretp C E rfl ⟨Nat.le_of_ble_eq_true rfl, Nat.le_of_ble_eq_true rfl⟩ dX11_account_165 h
  · refine xx_aload_n C 167 rfl 0 dX11_account_166 rfl rfl ?_
    refine xx_getr (fi := 0) C 170 rfl (by decide) (ceX_132 _ _ _) rfl in_X11 (by decide) rfl w_397 dX11_account_167 ?_
    refine xx_geti (fi := 14) (j := 14) C 173 rfl (by decide) (ceX_0 _ _ _) rfl in_X2 (by decide) rfl w_190 dX11_account_170 h (fun v170 h => ?_)
    exact xx_iretp C E rfl ⟨Nat.le_of_ble_eq_true rfl, Nat.le_of_ble_eq_true rfl⟩ dX11_account_173 h
  · refine xx_aload_n C 175 rfl 0 dX11_account_174 rfl rfl ?_
    refine xx_getr (fi := 0) C 178 rfl (by decide) (ceX_132 _ _ _) rfl in_X11 (by decide) rfl w_397 dX11_account_175 ?_
    refine xx_geti (fi := 15) (j := 15) C 181 rfl (by decide) (ceX_0 _ _ _) rfl in_X2 (by decide) rfl w_193 dX11_account_178 h (fun v178 h => ?_)
    exact xx_iretp C E rfl ⟨Nat.le_of_ble_eq_true rfl, Nat.le_of_ble_eq_true rfl⟩ dX11_account_181 h
  · refine xx_aload_n C 183 rfl 0 dX11_account_182 rfl rfl ?_
    refine xx_getr (fi := 0) C 186 rfl (by decide) (ceX_132 _ _ _) rfl in_X11 (by decide) rfl w_397 dX11_account_183 ?_
    refine xx_cVip (As := []) (st := []) (o := 0) C 189 rfl (by decide) (ceX_0 _ _ _) rfl rfl ca_X2_namesInUse cv_X2_namesInUse w_1096 rfl ⟨Nat.le_of_ble_eq_true rfl, Nat.le_of_ble_eq_true rfl⟩ ⟨Nat.le_of_ble_eq_true rfl, Nat.le_of_ble_eq_true rfl⟩ (Nat.le_of_ble_eq_true rfl) dX11_account_186 (fun v186 e9 => c_X2_namesInUse _ v186 e9) h (fun v186 h => ?_) rfl
    exact xx_iretp C E rfl ⟨Nat.le_of_ble_eq_true rfl, Nat.le_of_ble_eq_true rfl⟩ dX11_account_189 h
  · refine xx_aload_n C 191 rfl 0 dX11_account_190 rfl rfl ?_
    refine xx_getr (fi := 0) C 194 rfl (by decide) (ceX_132 _ _ _) rfl in_X11 (by decide) rfl w_397 dX11_account_191 ?_
    refine xx_geti (fi := 16) (j := 16) C 197 rfl (by decide) (ceX_0 _ _ _) rfl in_X2 (by decide) rfl w_196 dX11_account_194 h (fun v194 h => ?_)
    exact xx_iretp C E rfl ⟨Nat.le_of_ble_eq_true rfl, Nat.le_of_ble_eq_true rfl⟩ dX11_account_197 h
  · refine xx_aload_n C 199 rfl 0 dX11_account_198 rfl rfl ?_
    refine xx_getr (fi := 6) C 202 rfl (by decide) (ceX_132 _ _ _) rfl in_X11 (by decide) rfl w_403 dX11_account_199 ?_
    refine xx_cVip (As := []) (st := []) (o := 140) C 205 rfl (by decide) (ceX_140 _ _ _) rfl rfl ca_X6_signs cv_X6_signs w_1100 rfl ⟨Nat.le_of_ble_eq_true rfl, Nat.le_of_ble_eq_true rfl⟩ ⟨Nat.le_of_ble_eq_true rfl, Nat.le_of_ble_eq_true rfl⟩ (Nat.le_of_ble_eq_true rfl) dX11_account_202 (fun v202 e9 => c_X6_signs _ v202 e9) h (fun v202 h => ?_) rfl
    exact xx_iretp C E rfl ⟨Nat.le_of_ble_eq_true rfl, Nat.le_of_ble_eq_true rfl⟩ dX11_account_205 h
  · refine xx_aload_n C 207 rfl 0 dX11_account_206 rfl rfl ?_
    refine xx_getr (fi := 5) C 210 rfl (by decide) (ceX_132 _ _ _) rfl in_X11 (by decide) rfl w_402 dX11_account_207 ?_
    refine xx_geti (fi := 5) (j := 5) C 213 rfl (by decide) (ceX_138 _ _ _) rfl in_X3 (by decide) rfl w_301 dX11_account_210 h (fun v210 h => ?_)
    exact xx_iretp C E rfl ⟨Nat.le_of_ble_eq_true rfl, Nat.le_of_ble_eq_true rfl⟩ dX11_account_213 h

