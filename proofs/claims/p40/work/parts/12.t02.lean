theorem dX6_isOrderEnd_0 : decode cX6_isOrderEnd 0 = .ok (.aload_n 0, 1) := by decide +kernel
theorem dX6_isOrderEnd_1 : decode cX6_isOrderEnd 1 = .ok (.getfield 41, 3) := by decide +kernel
theorem dX6_isOrderEnd_4 : decode cX6_isOrderEnd 4 = .ok (.aload_n 0, 1) := by decide +kernel
theorem dX6_isOrderEnd_5 : decode cX6_isOrderEnd 5 = .ok (.getfield 12, 3) := by decide +kernel
theorem dX6_isOrderEnd_8 : decode cX6_isOrderEnd 8 = .ok (.invokevirtual 44, 3) := by decide +kernel
theorem dX6_isOrderEnd_11 : decode cX6_isOrderEnd 11 = .ok (.if_icmp .ge 19, 3) := by decide +kernel
theorem dX6_isOrderEnd_14 : decode cX6_isOrderEnd 14 = .ok (.aload_n 0, 1) := by decide +kernel
theorem dX6_isOrderEnd_15 : decode cX6_isOrderEnd 15 = .ok (.getfield 12, 3) := by decide +kernel
theorem dX6_isOrderEnd_18 : decode cX6_isOrderEnd 18 = .ok (.aload_n 0, 1) := by decide +kernel
theorem dX6_isOrderEnd_19 : decode cX6_isOrderEnd 19 = .ok (.getfield 41, 3) := by decide +kernel
theorem dX6_isOrderEnd_22 : decode cX6_isOrderEnd 22 = .ok (.invokevirtual 100, 3) := by decide +kernel
theorem dX6_isOrderEnd_25 : decode cX6_isOrderEnd 25 = .ok (.bipush 59, 2) := by decide +kernel
theorem dX6_isOrderEnd_27 : decode cX6_isOrderEnd 27 = .ok (.if_icmp .ne 7, 3) := by decide +kernel
theorem dX6_isOrderEnd_30 : decode cX6_isOrderEnd 30 = .ok (.iconst 1, 1) := by decide +kernel
theorem dX6_isOrderEnd_31 : decode cX6_isOrderEnd 31 = .ok (.goto 4, 3) := by decide +kernel
theorem dX6_isOrderEnd_34 : decode cX6_isOrderEnd 34 = .ok (.iconst 0, 1) := by decide +kernel
theorem dX6_isOrderEnd_35 : decode cX6_isOrderEnd 35 = .ok (.ireturn, 1) := by decide +kernel
theorem dX6_readOrder_0 : decode cX6_readOrder 0 = .ok (.iload_n 1, 1) := by decide +kernel
theorem dX6_readOrder_1 : decode cX6_readOrder 1 = .ok (.istore_n 2, 1) := by decide +kernel
theorem dX6_readOrder_2 : decode cX6_readOrder 2 = .ok (.iconst 0, 1) := by decide +kernel
theorem dX6_readOrder_3 : decode cX6_readOrder 3 = .ok (.istore_n 3, 1) := by decide +kernel
theorem dX6_readOrder_4 : decode cX6_readOrder 4 = .ok (.iload_n 3, 1) := by decide +kernel
theorem dX6_readOrder_5 : decode cX6_readOrder 5 = .ok (.getstatic 60, 3) := by decide +kernel
theorem dX6_readOrder_8 : decode cX6_readOrder 8 = .ok (.arraylength, 1) := by decide +kernel
theorem dX6_readOrder_9 : decode cX6_readOrder 9 = .ok (.if_icmp .ge 57, 3) := by decide +kernel
theorem dX6_readOrder_12 : decode cX6_readOrder 12 = .ok (.aload_n 0, 1) := by decide +kernel
theorem dX6_readOrder_13 : decode cX6_readOrder 13 = .ok (.iload_n 1, 1) := by decide +kernel
theorem dX6_readOrder_14 : decode cX6_readOrder 14 = .ok (.putfield 41, 3) := by decide +kernel
theorem dX6_readOrder_17 : decode cX6_readOrder 17 = .ok (.aload_n 0, 1) := by decide +kernel
theorem dX6_readOrder_18 : decode cX6_readOrder 18 = .ok (.getstatic 60, 3) := by decide +kernel
theorem dX6_readOrder_21 : decode cX6_readOrder 21 = .ok (.iload_n 3, 1) := by decide +kernel
theorem dX6_readOrder_22 : decode cX6_readOrder 22 = .ok (.aaload, 1) := by decide +kernel
theorem dX6_readOrder_23 : decode cX6_readOrder 23 = .ok (.getfield 63, 3) := by decide +kernel
theorem dX6_readOrder_26 : decode cX6_readOrder 26 = .ok (.invokevirtual 67, 3) := by decide +kernel
theorem dX6_readOrder_29 : decode cX6_readOrder 29 = .ok (.ifCond .eq 22, 3) := by decide +kernel
theorem dX6_readOrder_32 : decode cX6_readOrder 32 = .ok (.aload_n 0, 1) := by decide +kernel
theorem dX6_readOrder_33 : decode cX6_readOrder 33 = .ok (.invokevirtual 71, 3) := by decide +kernel
theorem dX6_readOrder_36 : decode cX6_readOrder 36 = .ok (.ifCond .eq 15, 3) := by decide +kernel
theorem dX6_readOrder_39 : decode cX6_readOrder 39 = .ok (.aload_n 0, 1) := by decide +kernel
theorem dX6_readOrder_40 : decode cX6_readOrder 40 = .ok (.getstatic 60, 3) := by decide +kernel
theorem dX6_readOrder_43 : decode cX6_readOrder 43 = .ok (.iload_n 3, 1) := by decide +kernel
theorem dX6_readOrder_44 : decode cX6_readOrder 44 = .ok (.aaload, 1) := by decide +kernel
theorem dX6_readOrder_45 : decode cX6_readOrder 45 = .ok (.invokevirtual 75, 3) := by decide +kernel
theorem dX6_readOrder_48 : decode cX6_readOrder 48 = .ok (.bipush (-15), 2) := by decide +kernel
theorem dX6_readOrder_50 : decode cX6_readOrder 50 = .ok (.ireturn, 1) := by decide +kernel
theorem dX6_readOrder_51 : decode cX6_readOrder 51 = .ok (.iload_n 2, 1) := by decide +kernel
theorem dX6_readOrder_52 : decode cX6_readOrder 52 = .ok (.aload_n 0, 1) := by decide +kernel
theorem dX6_readOrder_53 : decode cX6_readOrder 53 = .ok (.getfield 41, 3) := by decide +kernel
theorem dX6_readOrder_56 : decode cX6_readOrder 56 = .ok (.invokestatic 79, 3) := by decide +kernel
theorem dX6_readOrder_59 : decode cX6_readOrder 59 = .ok (.istore_n 2, 1) := by decide +kernel
theorem dX6_readOrder_60 : decode cX6_readOrder 60 = .ok (.iinc 3 1, 3) := by decide +kernel
theorem dX6_readOrder_63 : decode cX6_readOrder 63 = .ok (.goto (-59), 3) := by decide +kernel
theorem dX6_readOrder_66 : decode cX6_readOrder 66 = .ok (.iload_n 2, 1) := by decide +kernel
theorem dX6_readOrder_67 : decode cX6_readOrder 67 = .ok (.ireturn, 1) := by decide +kernel
theorem dX6_read_0 : decode cX6_read 0 = .ok (.aload_n 0, 1) := by decide +kernel
theorem dX6_read_1 : decode cX6_read 1 = .ok (.iconst 0, 1) := by decide +kernel
theorem dX6_read_2 : decode cX6_read 2 = .ok (.putfield 34, 3) := by decide +kernel
theorem dX6_read_5 : decode cX6_read 5 = .ok (.iconst 0, 1) := by decide +kernel
theorem dX6_read_6 : decode cX6_read 6 = .ok (.istore_n 1, 1) := by decide +kernel
theorem dX6_read_7 : decode cX6_read 7 = .ok (.iconst 0, 1) := by decide +kernel
theorem dX6_read_8 : decode cX6_read 8 = .ok (.istore_n 2, 1) := by decide +kernel
theorem dX6_read_9 : decode cX6_read 9 = .ok (.iload_n 2, 1) := by decide +kernel
theorem dX6_read_10 : decode cX6_read 10 = .ok (.aload_n 0, 1) := by decide +kernel
theorem dX6_read_11 : decode cX6_read 11 = .ok (.getfield 20, 3) := by decide +kernel
theorem dX6_read_14 : decode cX6_read 14 = .ok (.arraylength, 1) := by decide +kernel
theorem dX6_read_15 : decode cX6_read 15 = .ok (.if_icmp .ge 47, 3) := by decide +kernel
theorem dX6_read_18 : decode cX6_read 18 = .ok (.aload_n 0, 1) := by decide +kernel
theorem dX6_read_19 : decode cX6_read 19 = .ok (.iload_n 1, 1) := by decide +kernel
theorem dX6_read_20 : decode cX6_read 20 = .ok (.invokevirtual 56, 3) := by decide +kernel
theorem dX6_read_23 : decode cX6_read 23 = .ok (.istore_n 3, 1) := by decide +kernel
theorem dX6_read_24 : decode cX6_read 24 = .ok (.iload_n 3, 1) := by decide +kernel
theorem dX6_read_25 : decode cX6_read 25 = .ok (.bipush (-15), 2) := by decide +kernel
theorem dX6_read_27 : decode cX6_read 27 = .ok (.if_icmp .eq 5, 3) := by decide +kernel
theorem dX6_read_30 : decode cX6_read 30 = .ok (.iload_n 3, 1) := by decide +kernel
theorem dX6_read_31 : decode cX6_read 31 = .ok (.ireturn, 1) := by decide +kernel
theorem dX6_read_32 : decode cX6_read 32 = .ok (.aload_n 0, 1) := by decide +kernel
theorem dX6_read_33 : decode cX6_read 33 = .ok (.getfield 41, 3) := by decide +kernel
theorem dX6_read_36 : decode cX6_read 36 = .ok (.aload_n 0, 1) := by decide +kernel
theorem dX6_read_37 : decode cX6_read 37 = .ok (.getfield 12, 3) := by decide +kernel
theorem dX6_read_40 : decode cX6_read 40 = .ok (.invokevirtual 44, 3) := by decide +kernel
theorem dX6_read_43 : decode cX6_read 43 = .ok (.if_icmp .lt 6, 3) := by decide +kernel
theorem dX6_read_46 : decode cX6_read 46 = .ok (.bipush (-15), 2) := by decide +kernel
theorem dX6_read_48 : decode cX6_read 48 = .ok (.ireturn, 1) := by decide +kernel
theorem dX6_read_49 : decode cX6_read 49 = .ok (.aload_n 0, 1) := by decide +kernel
theorem dX6_read_50 : decode cX6_read 50 = .ok (.getfield 41, 3) := by decide +kernel
theorem dX6_read_53 : decode cX6_read 53 = .ok (.iconst 1, 1) := by decide +kernel
theorem dX6_read_54 : decode cX6_read 54 = .ok (.iadd, 1) := by decide +kernel
theorem dX6_read_55 : decode cX6_read 55 = .ok (.istore_n 1, 1) := by decide +kernel
theorem dX6_read_56 : decode cX6_read 56 = .ok (.iinc 2 1, 3) := by decide +kernel
theorem dX6_read_59 : decode cX6_read 59 = .ok (.goto (-50), 3) := by decide +kernel
theorem dX6_read_62 : decode cX6_read 62 = .ok (.iload_n 1, 1) := by decide +kernel
theorem dX6_read_63 : decode cX6_read 63 = .ok (.ireturn, 1) := by decide +kernel
theorem dX11_append_0 : decode cX11_append 0 = .ok (.aload_n 0, 1) := by decide +kernel
theorem dX11_append_1 : decode cX11_append 1 = .ok (.getfield 58, 3) := by decide +kernel
theorem dX11_append_4 : decode cX11_append 4 = .ok (.iload_n 1, 1) := by decide +kernel
theorem dX11_append_5 : decode cX11_append 5 = .ok (.invokevirtual 187, 3) := by decide +kernel
theorem dX11_append_8 : decode cX11_append 8 = .ok (.ireturn, 1) := by decide +kernel
theorem dX11_carryOut_0 : decode cX11_carryOut 0 = .ok (.aload_n 0, 1) := by decide +kernel
theorem dX11_carryOut_1 : decode cX11_carryOut 1 = .ok (.getfield 58, 3) := by decide +kernel
theorem dX11_carryOut_4 : decode cX11_carryOut 4 = .ok (.iload_n 1, 1) := by decide +kernel
theorem dX11_carryOut_5 : decode cX11_carryOut 5 = .ok (.invokevirtual 292, 3) := by decide +kernel
theorem dX11_carryOut_8 : decode cX11_carryOut 8 = .ok (.ifCond .ne 6, 3) := by decide +kernel
theorem dX11_carryOut_11 : decode cX11_carryOut 11 = .ok (.bipush (-11), 2) := by decide +kernel
theorem dX11_carryOut_13 : decode cX11_carryOut 13 = .ok (.ireturn, 1) := by decide +kernel
theorem dX11_carryOut_14 : decode cX11_carryOut 14 = .ok (.aload_n 0, 1) := by decide +kernel
theorem dX11_carryOut_15 : decode cX11_carryOut 15 = .ok (.getfield 58, 3) := by decide +kernel
theorem dX11_carryOut_18 : decode cX11_carryOut 18 = .ok (.getfield 295, 3) := by decide +kernel
theorem dX11_carryOut_21 : decode cX11_carryOut 21 = .ok (.iload_n 1, 1) := by decide +kernel
theorem dX11_carryOut_22 : decode cX11_carryOut 22 = .ok (.iaload, 1) := by decide +kernel
theorem dX11_carryOut_23 : decode cX11_carryOut 23 = .ok (.istore_n 2, 1) := by decide +kernel
theorem dX11_carryOut_24 : decode cX11_carryOut 24 = .ok (.aload_n 0, 1) := by decide +kernel
theorem dX11_carryOut_25 : decode cX11_carryOut 25 = .ok (.getfield 58, 3) := by decide +kernel
theorem dX11_carryOut_28 : decode cX11_carryOut 28 = .ok (.getfield 298, 3) := by decide +kernel
theorem dX11_carryOut_31 : decode cX11_carryOut 31 = .ok (.iload_n 1, 1) := by decide +kernel
theorem dX11_carryOut_32 : decode cX11_carryOut 32 = .ok (.iaload, 1) := by decide +kernel
theorem dX11_carryOut_33 : decode cX11_carryOut 33 = .ok (.istore_n 3, 1) := by decide +kernel
theorem dX11_carryOut_34 : decode cX11_carryOut 34 = .ok (.getstatic 301, 3) := by decide +kernel
theorem dX11_carryOut_37 : decode cX11_carryOut 37 = .ok (.aload_n 0, 1) := by decide +kernel
theorem dX11_carryOut_38 : decode cX11_carryOut 38 = .ok (.getfield 58, 3) := by decide +kernel
theorem dX11_carryOut_41 : decode cX11_carryOut 41 = .ok (.getfield 306, 3) := by decide +kernel
theorem dX11_carryOut_44 : decode cX11_carryOut 44 = .ok (.iload_n 1, 1) := by decide +kernel
theorem dX11_carryOut_45 : decode cX11_carryOut 45 = .ok (.aaload, 1) := by decide +kernel
theorem dX11_carryOut_46 : decode cX11_carryOut 46 = .ok (.invokevirtual 310, 3) := by decide +kernel
theorem dX11_carryOut_49 : decode cX11_carryOut 49 = .ok (.iaload, 1) := by decide +kernel
theorem dX11_carryOut_50 : decode cX11_carryOut 50 = .ok (.tableswitch 155 1 10 #[54, 63, 72, 91, 101, 111, 120, 130, 138, 147], 54) := by decide +kernel
theorem dX11_carryOut_104 : decode cX11_carryOut 104 = .ok (.aload_n 0, 1) := by decide +kernel
theorem dX11_carryOut_105 : decode cX11_carryOut 105 = .ok (.getfield 28, 3) := by decide +kernel
theorem dX11_carryOut_108 : decode cX11_carryOut 108 = .ok (.iconst 0, 1) := by decide +kernel
theorem dX11_carryOut_109 : decode cX11_carryOut 109 = .ok (.invokevirtual 72, 3) := by decide +kernel
theorem dX11_carryOut_112 : decode cX11_carryOut 112 = .ok (.ireturn, 1) := by decide +kernel
theorem dX11_carryOut_113 : decode cX11_carryOut 113 = .ok (.aload_n 0, 1) := by decide +kernel
theorem dX11_carryOut_114 : decode cX11_carryOut 114 = .ok (.getfield 28, 3) := by decide +kernel
theorem dX11_carryOut_117 : decode cX11_carryOut 117 = .ok (.iconst 1, 1) := by decide +kernel
theorem dX11_carryOut_118 : decode cX11_carryOut 118 = .ok (.invokevirtual 72, 3) := by decide +kernel
theorem dX11_carryOut_121 : decode cX11_carryOut 121 = .ok (.ireturn, 1) := by decide +kernel
theorem dX11_carryOut_122 : decode cX11_carryOut 122 = .ok (.aload_n 0, 1) := by decide +kernel
theorem dX11_carryOut_123 : decode cX11_carryOut 123 = .ok (.getfield 28, 3) := by decide +kernel
theorem dX11_carryOut_126 : decode cX11_carryOut 126 = .ok (.iload_n 2, 1) := by decide +kernel
theorem dX11_carryOut_127 : decode cX11_carryOut 127 = .ok (.iload_n 3, 1) := by decide +kernel
theorem dX11_carryOut_128 : decode cX11_carryOut 128 = .ok (.aload_n 0, 1) := by decide +kernel
theorem dX11_carryOut_129 : decode cX11_carryOut 129 = .ok (.getfield 58, 3) := by decide +kernel
theorem dX11_carryOut_132 : decode cX11_carryOut 132 = .ok (.getfield 315, 3) := by decide +kernel
theorem dX11_carryOut_135 : decode cX11_carryOut 135 = .ok (.iload_n 1, 1) := by decide +kernel
theorem dX11_carryOut_136 : decode cX11_carryOut 136 = .ok (.iaload, 1) := by decide +kernel
theorem dX11_carryOut_137 : decode cX11_carryOut 137 = .ok (.invokevirtual 80, 3) := by decide +kernel
theorem dX11_carryOut_140 : decode cX11_carryOut 140 = .ok (.ireturn, 1) := by decide +kernel
theorem dX11_carryOut_141 : decode cX11_carryOut 141 = .ok (.aload_n 0, 1) := by decide +kernel
theorem dX11_carryOut_142 : decode cX11_carryOut 142 = .ok (.getfield 28, 3) := by decide +kernel
theorem dX11_carryOut_145 : decode cX11_carryOut 145 = .ok (.iload_n 2, 1) := by decide +kernel
theorem dX11_carryOut_146 : decode cX11_carryOut 146 = .ok (.iload_n 3, 1) := by decide +kernel
theorem dX11_carryOut_147 : decode cX11_carryOut 147 = .ok (.invokevirtual 84, 3) := by decide +kernel
theorem dX11_carryOut_150 : decode cX11_carryOut 150 = .ok (.ireturn, 1) := by decide +kernel
theorem dX11_carryOut_151 : decode cX11_carryOut 151 = .ok (.aload_n 0, 1) := by decide +kernel
theorem dX11_carryOut_152 : decode cX11_carryOut 152 = .ok (.getfield 28, 3) := by decide +kernel
theorem dX11_carryOut_155 : decode cX11_carryOut 155 = .ok (.iload_n 2, 1) := by decide +kernel
theorem dX11_carryOut_156 : decode cX11_carryOut 156 = .ok (.iload_n 3, 1) := by decide +kernel
theorem dX11_carryOut_157 : decode cX11_carryOut 157 = .ok (.invokevirtual 94, 3) := by decide +kernel
theorem dX11_carryOut_160 : decode cX11_carryOut 160 = .ok (.ireturn, 1) := by decide +kernel
theorem dX11_carryOut_161 : decode cX11_carryOut 161 = .ok (.aload_n 0, 1) := by decide +kernel
theorem dX11_carryOut_162 : decode cX11_carryOut 162 = .ok (.getfield 28, 3) := by decide +kernel
theorem dX11_carryOut_165 : decode cX11_carryOut 165 = .ok (.iload_n 2, 1) := by decide +kernel
theorem dX11_carryOut_166 : decode cX11_carryOut 166 = .ok (.invokevirtual 97, 3) := by decide +kernel
theorem dX11_carryOut_169 : decode cX11_carryOut 169 = .ok (.ireturn, 1) := by decide +kernel
theorem dX11_carryOut_170 : decode cX11_carryOut 170 = .ok (.aload_n 0, 1) := by decide +kernel
theorem dX11_carryOut_171 : decode cX11_carryOut 171 = .ok (.getfield 28, 3) := by decide +kernel
theorem dX11_carryOut_174 : decode cX11_carryOut 174 = .ok (.iload_n 2, 1) := by decide +kernel
theorem dX11_carryOut_175 : decode cX11_carryOut 175 = .ok (.iload_n 3, 1) := by decide +kernel
theorem dX11_carryOut_176 : decode cX11_carryOut 176 = .ok (.invokevirtual 88, 3) := by decide +kernel
theorem dX11_carryOut_179 : decode cX11_carryOut 179 = .ok (.ireturn, 1) := by decide +kernel
theorem dX11_carryOut_180 : decode cX11_carryOut 180 = .ok (.aload_n 0, 1) := by decide +kernel
theorem dX11_carryOut_181 : decode cX11_carryOut 181 = .ok (.getfield 35, 3) := by decide +kernel
theorem dX11_carryOut_184 : decode cX11_carryOut 184 = .ok (.invokevirtual 142, 3) := by decide +kernel
theorem dX11_carryOut_187 : decode cX11_carryOut 187 = .ok (.ireturn, 1) := by decide +kernel
theorem dX11_carryOut_188 : decode cX11_carryOut 188 = .ok (.aload_n 0, 1) := by decide +kernel
theorem dX11_carryOut_189 : decode cX11_carryOut 189 = .ok (.getfield 35, 3) := by decide +kernel
theorem dX11_carryOut_192 : decode cX11_carryOut 192 = .ok (.iload_n 2, 1) := by decide +kernel
theorem dX11_carryOut_193 : decode cX11_carryOut 193 = .ok (.invokevirtual 139, 3) := by decide +kernel
theorem dX11_carryOut_196 : decode cX11_carryOut 196 = .ok (.ireturn, 1) := by decide +kernel
theorem dX11_carryOut_197 : decode cX11_carryOut 197 = .ok (.aload_n 0, 1) := by decide +kernel
theorem dX11_carryOut_198 : decode cX11_carryOut 198 = .ok (.getfield 35, 3) := by decide +kernel
theorem dX11_carryOut_201 : decode cX11_carryOut 201 = .ok (.invokevirtual 145, 3) := by decide +kernel
theorem dX11_carryOut_204 : decode cX11_carryOut 204 = .ok (.ireturn, 1) := by decide +kernel
theorem dX11_carryOut_205 : decode cX11_carryOut 205 = .ok (.bipush (-11), 2) := by decide +kernel
theorem dX11_carryOut_207 : decode cX11_carryOut 207 = .ok (.ireturn, 1) := by decide +kernel
theorem dX11_run_0 : decode cX11_run 0 = .ok (.aload_n 0, 1) := by decide +kernel
theorem dX11_run_1 : decode cX11_run 1 = .ok (.getfield 58, 3) := by decide +kernel
theorem dX11_run_4 : decode cX11_run 4 = .ok (.invokevirtual 190, 3) := by decide +kernel
theorem dX11_run_7 : decode cX11_run 7 = .ok (.istore_n 1, 1) := by decide +kernel
theorem dX11_run_8 : decode cX11_run 8 = .ok (.aload_n 0, 1) := by decide +kernel
theorem dX11_run_9 : decode cX11_run 9 = .ok (.getfield 58, 3) := by decide +kernel
theorem dX11_run_12 : decode cX11_run 12 = .ok (.invokevirtual 193, 3) := by decide +kernel
theorem dX11_run_15 : decode cX11_run 15 = .ok (.iload_n 1, 1) := by decide +kernel
theorem dX11_run_16 : decode cX11_run 16 = .ok (.bipush (-15), 2) := by decide +kernel
theorem dX11_run_18 : decode cX11_run 18 = .ok (.if_icmp .eq 9, 3) := by decide +kernel
theorem dX11_run_21 : decode cX11_run 21 = .ok (.sipush (-1000), 3) := by decide +kernel
theorem dX11_run_24 : decode cX11_run 24 = .ok (.iload_n 1, 1) := by decide +kernel
theorem dX11_run_25 : decode cX11_run 25 = .ok (.isub, 1) := by decide +kernel
theorem dX11_run_26 : decode cX11_run 26 = .ok (.ireturn, 1) := by decide +kernel
theorem dX11_run_27 : decode cX11_run 27 = .ok (.aload_n 0, 1) := by decide +kernel
theorem dX11_run_28 : decode cX11_run 28 = .ok (.getfield 51, 3) := by decide +kernel
theorem dX11_run_31 : decode cX11_run 31 = .ok (.invokevirtual 69, 3) := by decide +kernel
theorem dX11_run_34 : decode cX11_run 34 = .ok (.iconst 0, 1) := by decide +kernel
theorem dX11_run_35 : decode cX11_run 35 = .ok (.istore_n 2, 1) := by decide +kernel
theorem dX11_run_36 : decode cX11_run 36 = .ok (.iload_n 2, 1) := by decide +kernel
theorem dX11_run_37 : decode cX11_run 37 = .ok (.aload_n 0, 1) := by decide +kernel
theorem dX11_run_38 : decode cX11_run 38 = .ok (.getfield 58, 3) := by decide +kernel
theorem dX11_run_41 : decode cX11_run 41 = .ok (.getfield 196, 3) := by decide +kernel
theorem dX11_run_44 : decode cX11_run 44 = .ok (.if_icmp .ge 38, 3) := by decide +kernel
theorem dX11_run_47 : decode cX11_run 47 = .ok (.aload_n 0, 1) := by decide +kernel
theorem dX11_run_48 : decode cX11_run 48 = .ok (.iload_n 2, 1) := by decide +kernel
theorem dX11_run_49 : decode cX11_run 49 = .ok (.invokevirtual 200, 3) := by decide +kernel
theorem dX11_run_52 : decode cX11_run 52 = .ok (.invokestatic 203, 3) := by decide +kernel
theorem dX11_run_55 : decode cX11_run 55 = .ok (.ifCond .eq 21, 3) := by decide +kernel
theorem dX11_run_58 : decode cX11_run 58 = .ok (.aload_n 0, 1) := by decide +kernel
theorem dX11_run_59 : decode cX11_run 59 = .ok (.getfield 51, 3) := by decide +kernel
theorem dX11_run_62 : decode cX11_run 62 = .ok (.invokevirtual 206, 3) := by decide +kernel
theorem dX11_run_65 : decode cX11_run 65 = .ok (.aload_n 0, 1) := by decide +kernel
theorem dX11_run_66 : decode cX11_run 66 = .ok (.getfield 19, 3) := by decide +kernel
theorem dX11_run_69 : decode cX11_run 69 = .ok (.bipush 8, 2) := by decide +kernel
theorem dX11_run_71 : decode cX11_run 71 = .ok (.iload_n 2, 1) := by decide +kernel
theorem dX11_run_72 : decode cX11_run 72 = .ok (.invokevirtual 209, 3) := by decide +kernel
theorem dX11_run_75 : decode cX11_run 75 = .ok (.ireturn, 1) := by decide +kernel
theorem dX11_run_76 : decode cX11_run 76 = .ok (.iinc 2 1, 3) := by decide +kernel
theorem dX11_run_79 : decode cX11_run 79 = .ok (.goto (-43), 3) := by decide +kernel
theorem dX11_run_82 : decode cX11_run 82 = .ok (.aload_n 0, 1) := by decide +kernel
theorem dX11_run_83 : decode cX11_run 83 = .ok (.getfield 51, 3) := by decide +kernel
theorem dX11_run_86 : decode cX11_run 86 = .ok (.aload_n 0, 1) := by decide +kernel
theorem dX11_run_87 : decode cX11_run 87 = .ok (.getfield 58, 3) := by decide +kernel
theorem dX11_run_90 : decode cX11_run 90 = .ok (.getfield 196, 3) := by decide +kernel
theorem dX11_run_93 : decode cX11_run 93 = .ok (.invokevirtual 76, 3) := by decide +kernel
theorem dX11_run_96 : decode cX11_run 96 = .ok (.ireturn, 1) := by decide +kernel
theorem dX11_account_0 : decode cX11_account 0 = .ok (.iload_n 1, 1) := by decide +kernel
theorem dX11_account_1 : decode cX11_account 1 = .ok (.tableswitch 213 0 15 #[79, 87, 95, 103, 111, 120, 129, 138, 146, 154, 165, 173, 181, 189, 197, 205], 79) := by decide +kernel
theorem dX11_account_80 : decode cX11_account 80 = .ok (.aload_n 0, 1) := by decide +kernel
theorem dX11_account_81 : decode cX11_account 81 = .ok (.getfield 13, 3) := by decide +kernel
theorem dX11_account_84 : decode cX11_account 84 = .ok (.getfield 229, 3) := by decide +kernel
theorem dX11_account_87 : decode cX11_account 87 = .ok (.ireturn, 1) := by decide +kernel
theorem dX11_account_88 : decode cX11_account 88 = .ok (.aload_n 0, 1) := by decide +kernel
theorem dX11_account_89 : decode cX11_account 89 = .ok (.getfield 13, 3) := by decide +kernel
theorem dX11_account_92 : decode cX11_account 92 = .ok (.getfield 232, 3) := by decide +kernel
theorem dX11_account_95 : decode cX11_account 95 = .ok (.ireturn, 1) := by decide +kernel
theorem dX11_account_96 : decode cX11_account 96 = .ok (.aload_n 0, 1) := by decide +kernel
theorem dX11_account_97 : decode cX11_account 97 = .ok (.getfield 13, 3) := by decide +kernel
theorem dX11_account_100 : decode cX11_account 100 = .ok (.getfield 235, 3) := by decide +kernel
theorem dX11_account_103 : decode cX11_account 103 = .ok (.ireturn, 1) := by decide +kernel
theorem dX11_account_104 : decode cX11_account 104 = .ok (.aload_n 0, 1) := by decide +kernel
theorem dX11_account_105 : decode cX11_account 105 = .ok (.getfield 13, 3) := by decide +kernel
theorem dX11_account_108 : decode cX11_account 108 = .ok (.invokevirtual 238, 3) := by decide +kernel
theorem dX11_account_111 : decode cX11_account 111 = .ok (.ireturn, 1) := by decide +kernel
theorem dX11_account_112 : decode cX11_account 112 = .ok (.aload_n 0, 1) := by decide +kernel
theorem dX11_account_113 : decode cX11_account 113 = .ok (.getfield 13, 3) := by decide +kernel
theorem dX11_account_116 : decode cX11_account 116 = .ok (.iconst 0, 1) := by decide +kernel
theorem dX11_account_117 : decode cX11_account 117 = .ok (.invokevirtual 241, 3) := by decide +kernel
theorem dX11_account_120 : decode cX11_account 120 = .ok (.ireturn, 1) := by decide +kernel
theorem dX11_account_121 : decode cX11_account 121 = .ok (.aload_n 0, 1) := by decide +kernel
theorem dX11_account_122 : decode cX11_account 122 = .ok (.getfield 13, 3) := by decide +kernel
theorem dX11_account_125 : decode cX11_account 125 = .ok (.iconst 1, 1) := by decide +kernel
theorem dX11_account_126 : decode cX11_account 126 = .ok (.invokevirtual 241, 3) := by decide +kernel
theorem dX11_account_129 : decode cX11_account 129 = .ok (.ireturn, 1) := by decide +kernel
theorem dX11_account_130 : decode cX11_account 130 = .ok (.aload_n 0, 1) := by decide +kernel
theorem dX11_account_131 : decode cX11_account 131 = .ok (.getfield 13, 3) := by decide +kernel
theorem dX11_account_134 : decode cX11_account 134 = .ok (.iconst 2, 1) := by decide +kernel
theorem dX11_account_135 : decode cX11_account 135 = .ok (.invokevirtual 241, 3) := by decide +kernel
theorem dX11_account_138 : decode cX11_account 138 = .ok (.ireturn, 1) := by decide +kernel
theorem dX11_account_139 : decode cX11_account 139 = .ok (.aload_n 0, 1) := by decide +kernel
theorem dX11_account_140 : decode cX11_account 140 = .ok (.getfield 13, 3) := by decide +kernel
theorem dX11_account_143 : decode cX11_account 143 = .ok (.getfield 244, 3) := by decide +kernel
theorem dX11_account_146 : decode cX11_account 146 = .ok (.ireturn, 1) := by decide +kernel
theorem dX11_account_147 : decode cX11_account 147 = .ok (.aload_n 0, 1) := by decide +kernel
theorem dX11_account_148 : decode cX11_account 148 = .ok (.getfield 13, 3) := by decide +kernel
theorem dX11_account_151 : decode cX11_account 151 = .ok (.getfield 247, 3) := by decide +kernel
theorem dX11_account_154 : decode cX11_account 154 = .ok (.ireturn, 1) := by decide +kernel
theorem dX11_account_155 : decode cX11_account 155 = .ok (.aload_n 0, 1) := by decide +kernel
theorem dX11_account_156 : decode cX11_account 156 = .ok (.getfield 13, 3) := by decide +kernel
theorem dX11_account_159 : decode cX11_account 159 = .ok (.getfield 148, 3) := by decide +kernel
theorem dX11_account_162 : decode cX11_account 162 = .ok (.getfield 250, 3) := by decide +kernel
theorem dX11_account_165 : decode cX11_account 165 = .ok (.ireturn, 1) := by decide +kernel
theorem dX11_account_166 : decode cX11_account 166 = .ok (.aload_n 0, 1) := by decide +kernel
theorem dX11_account_167 : decode cX11_account 167 = .ok (.getfield 13, 3) := by decide +kernel
theorem dX11_account_170 : decode cX11_account 170 = .ok (.getfield 253, 3) := by decide +kernel
theorem dX11_account_173 : decode cX11_account 173 = .ok (.ireturn, 1) := by decide +kernel
theorem dX11_account_174 : decode cX11_account 174 = .ok (.aload_n 0, 1) := by decide +kernel
theorem dX11_account_175 : decode cX11_account 175 = .ok (.getfield 13, 3) := by decide +kernel
theorem dX11_account_178 : decode cX11_account 178 = .ok (.getfield 256, 3) := by decide +kernel
theorem dX11_account_181 : decode cX11_account 181 = .ok (.ireturn, 1) := by decide +kernel
theorem dX11_account_182 : decode cX11_account 182 = .ok (.aload_n 0, 1) := by decide +kernel
theorem dX11_account_183 : decode cX11_account 183 = .ok (.getfield 13, 3) := by decide +kernel
theorem dX11_account_186 : decode cX11_account 186 = .ok (.invokevirtual 259, 3) := by decide +kernel
theorem dX11_account_189 : decode cX11_account 189 = .ok (.ireturn, 1) := by decide +kernel
theorem dX11_account_190 : decode cX11_account 190 = .ok (.aload_n 0, 1) := by decide +kernel
theorem dX11_account_191 : decode cX11_account 191 = .ok (.getfield 13, 3) := by decide +kernel
theorem dX11_account_194 : decode cX11_account 194 = .ok (.getfield 262, 3) := by decide +kernel
theorem dX11_account_197 : decode cX11_account 197 = .ok (.ireturn, 1) := by decide +kernel
theorem dX11_account_198 : decode cX11_account 198 = .ok (.aload_n 0, 1) := by decide +kernel
theorem dX11_account_199 : decode cX11_account 199 = .ok (.getfield 58, 3) := by decide +kernel
theorem dX11_account_202 : decode cX11_account 202 = .ok (.invokevirtual 265, 3) := by decide +kernel
theorem dX11_account_205 : decode cX11_account 205 = .ok (.ireturn, 1) := by decide +kernel
theorem dX11_account_206 : decode cX11_account 206 = .ok (.aload_n 0, 1) := by decide +kernel
theorem dX11_account_207 : decode cX11_account 207 = .ok (.getfield 51, 3) := by decide +kernel
theorem dX11_account_210 : decode cX11_account 210 = .ok (.getfield 268, 3) := by decide +kernel
theorem dX11_account_213 : decode cX11_account 213 = .ok (.ireturn, 1) := by decide +kernel
theorem dX11_account_214 : decode cX11_account 214 = .ok (.bipush (-12), 2) := by decide +kernel
theorem dX11_account_216 : decode cX11_account 216 = .ok (.ireturn, 1) := by decide +kernel
def f_X6_isOrderEnd (μ : mu_T)  : Option Int :=
  nm_ (μ 140 7) (fun v1 => bd_ (f_J4_length_8abf5_o141 μ) (fun v8 => lt_ v1 v8
      (nm_ (μ 140 7) (fun v19 => bd_ (f_J4_charAt_5068e_o141 μ v19) (fun v22 => eq_ v22 59
      (some 1)
      (some 0))))
      (some 1)))
set_option maxHeartbeats 4000000 in
set_option maxRecDepth 100000 in
theorem c_X6_isOrderEnd {G : gp_} {ad : Nat → Nat} (μ : mu_T)  (a : Int) (h : f_X6_isOrderEnd μ  = some a) : mi_ yX6_isOrderEnd cX6_isOrderEnd 1 (some .boolean) ({ frames := 4, cells := 0, slots := 0, locals := 88 } : Room) G 151 ad (ceX G ad) [.ref (ad 140)] μ a μ := by
  refine mi_in (own := "UrnHeap$Orders") (lv := [(0, .ref (ad 140))]) (by decide) rfl rfl (Nat.le_of_ble_eq_true rfl) (fun X C E => ?_)
  unfold f_X6_isOrderEnd at h
  refine xx_aload_n C 1 rfl 0 dX6_isOrderEnd_0 rfl rfl ?_
  refine xx_geti (fi := 7) (j := 7) C 4 rfl (by decide) (ceX_140 _ _ _) rfl in_X6 (by decide) rfl w_310 dX6_isOrderEnd_1 h (fun v1 h => ?_)
  refine xx_aload_n C 5 rfl 0 dX6_isOrderEnd_4 rfl rfl ?_
  refine xx_getr (fi := 0) C 8 rfl (by decide) (ceX_140 _ _ _) rfl in_X6 (by decide) rfl w_298 dX6_isOrderEnd_5 ?_
  refine xx_cVip (As := []) (st := [.int (iI v1)]) (o := 141) C 11 rfl (by decide) (ceX_141 _ _ _) rfl rfl ca_J4_length_8abf5 cv_J4_length_8abf5 w_386 rfl ⟨Nat.le_of_ble_eq_true rfl, Nat.le_of_ble_eq_true rfl⟩ ⟨Nat.le_of_ble_eq_true rfl, Nat.le_of_ble_eq_true rfl⟩ (Nat.le_of_ble_eq_true rfl) dX6_isOrderEnd_8 (fun v8 e9 => c_J4_length_8abf5_o141 _ v8 e9) h (fun v8 h => ?_) rfl
  refine xx_icmp_ge (tgt := 30) C 14 rfl dX6_isOrderEnd_11 (by decide) h (fun h => ?_) (fun h => ?_)
  · refine xx_iconst C 31 rfl dX6_isOrderEnd_30 ?_
    refine xx_goto C 35 dX6_isOrderEnd_31 (by decide) ?_
    exact xx_zretl C E rfl rfl ⟨Nat.le_of_ble_eq_true rfl, Nat.le_of_ble_eq_true rfl⟩ dX6_isOrderEnd_35 h
  · refine xx_aload_n C 15 rfl 0 dX6_isOrderEnd_14 rfl rfl ?_
    refine xx_getr (fi := 0) C 18 rfl (by decide) (ceX_140 _ _ _) rfl in_X6 (by decide) rfl w_298 dX6_isOrderEnd_15 ?_
    refine xx_aload_n C 19 rfl 0 dX6_isOrderEnd_18 rfl rfl ?_
    refine xx_geti (fi := 7) (j := 7) C 22 rfl (by decide) (ceX_140 _ _ _) rfl in_X6 (by decide) rfl w_310 dX6_isOrderEnd_19 h (fun v19 h => ?_)
    refine xx_cVip (As := [.int (iI v19)]) (st := []) (o := 141) C 25 rfl (by decide) (ceX_141 _ _ _) rfl rfl ca_J4_charAt_5068e cv_J4_charAt_5068e w_893 rfl ⟨Nat.le_of_ble_eq_true rfl, Nat.le_of_ble_eq_true rfl⟩ ⟨Nat.le_of_ble_eq_true rfl, Nat.le_of_ble_eq_true rfl⟩ (Nat.le_of_ble_eq_true rfl) dX6_isOrderEnd_22 (fun v22 e9 => c_J4_charAt_5068e_o141 _ _ v22 e9) h (fun v22 h => ?_) rfl
    refine xx_bipush C 27 rfl dX6_isOrderEnd_25 (by decide) ?_
    refine xx_icmp_ne (tgt := 34) C 30 rfl dX6_isOrderEnd_27 (by decide) h (fun h => ?_) (fun h => ?_)
    · refine xx_iconst C 35 rfl dX6_isOrderEnd_34 ?_
      exact xx_zretl C E rfl rfl ⟨Nat.le_of_ble_eq_true rfl, Nat.le_of_ble_eq_true rfl⟩ dX6_isOrderEnd_35 h
    · refine xx_iconst C 31 rfl dX6_isOrderEnd_30 ?_
      refine xx_goto C 35 dX6_isOrderEnd_31 (by decide) ?_
      exact xx_zretl C E rfl rfl ⟨Nat.le_of_ble_eq_true rfl, Nat.le_of_ble_eq_true rfl⟩ dX6_isOrderEnd_35 h

def f_X6_readOrder_L4 (J39 : Int → mu_T → Option (Int × mu_T)) (a1 : Int) : Nat → Int → Int → mu_T → Option (Int × mu_T)
  | 0, _, _, _ => none
  | fu4 + 1, x2_4, x3_4, μ4 => lt_ x3_4 10
      (wf_ μ4 140 7 a1 (fun μ14 => gd_ (0 ≤ x3_4 ∧ x3_4 < 10) (gd_ (0 ≤ x3_4 ∧ x3_4 < 10) (bp_ (f_X6_fits μ14 x3_4) (fun v26 μ26 => jn_ (φ := Unit → Option (Int × mu_T)) (fun _ => nm_ (μ26 140 7) (fun v53 => mx_ x2_4 v53 (fun v56 => nm_ (x3_4 + 1) (fun n60 => (f_X6_readOrder_L4 J39 a1 fu4) v56 n60 μ26))))
      (fun J51 => eq_ v26 0
      (J51 ())
      (bd_ (f_X6_isOrderEnd μ26) (fun v33 => eq_ v33 0
      (J51 ())
      (J39 x3_4 μ26)))))))))
      (some (x2_4, μ4))
def f_X6_readOrder (μ : mu_T) (a1 : Int) : Option (Int × mu_T) :=
  jn_ (φ := Int → mu_T → Option (Int × mu_T)) (fun x3_39 μ39 => gd_ (0 ≤ x3_39 ∧ x3_39 < 10) (bd_ (f_X6_keep μ39 x3_39) (fun μ45 => some ((-15), μ45))))
      (fun J39 => f_X6_readOrder_L4 J39 a1 20000 a1 0 μ)
set_option maxHeartbeats 4000000 in
set_option maxRecDepth 100000 in
theorem c_X6_readOrder {G : gp_} {ad : Nat → Nat} (μ : mu_T) (a1 : Int) (a : Int) (μr : mu_T) (h : f_X6_readOrder μ a1 = some (a, μr)) : mi_ yX6_readOrder cX6_readOrder 4 (some .int) ({ frames := 7, cells := 0, slots := 0, locals := 159 } : Room) G 151 ad (ceX G ad) [.ref (ad 140), .int (iI a1)] μ a μr := by
  refine mi_in (own := "UrnHeap$Orders") (lv := [(0, .ref (ad 140)), (1, .int (iI a1))]) (by decide) rfl rfl (Nat.le_of_ble_eq_true rfl) (fun X C E => ?_)
  unfold f_X6_readOrder at h
  refine xx_iload_n C 1 rfl 1 dX6_readOrder_0 rfl rfl ?_
  refine xx_istore_n (lv1 := [(2, .int (iI a1)), (0, .ref (ad 140)), (1, .int (iI a1))]) C 2 rfl (by decide) dX6_readOrder_1 rfl rfl ?_
  refine xx_iconst C 3 rfl dX6_readOrder_2 ?_
  refine xx_istore_n (lv1 := [(3, .int (iI 0)), (2, .int (iI a1)), (0, .ref (ad 140)), (1, .int (iI a1))]) C 4 rfl (by decide) dX6_readOrder_3 rfl rfl ?_
  refine jn_r (fun J => ∀ (x3_39 : Int) (μ39 : mu_T), J x3_39 μ39 = some (a, μr) → wx_ G X 151 ad (ceX G ad) μ39 0 0 39 [(0, .ref (ad 140)), (3, .int (iI x3_39))] []) h (fun x3_39 μ39 h => ?_) (fun J39 K39 h => ?_)
  · refine xx_aload_n C 40 rfl 0 dX6_readOrder_39 rfl rfl ?_
    refine xx_gall C 43 rfl rfl dX6_readOrder_40 ?_
    refine xx_iload_n C 44 rfl 1 dX6_readOrder_43 rfl rfl ?_
    refine xx_alda C 45 rfl dX6_readOrder_44 h (fun h => ?_)
    refine xx_cVv (As := [.ref (G.2.1 (100 + (x3_39 : Int).toNat))]) (st := []) (o := 140) C 48 rfl (by decide) (ceX_140 _ _ _) rfl rfl ca_X6_keep cv_X6_keep w_910 rfl ⟨Nat.le_of_ble_eq_true rfl, Nat.le_of_ble_eq_true rfl⟩ ⟨Nat.le_of_ble_eq_true rfl, Nat.le_of_ble_eq_true rfl⟩ (Nat.le_of_ble_eq_true rfl) dX6_readOrder_45 (fun μ45 e9 => c_X6_keep _ _ μ45 e9) h (fun μ45 h => ?_) rfl
    refine xx_bipush C 50 rfl dX6_readOrder_48 (by decide) ?_
    exact xx_iret C E rfl ⟨Nat.le_of_ble_eq_true rfl, Nat.le_of_ble_eq_true rfl⟩ dX6_readOrder_50 h
  · have L4 : ∀ (fu4 : Nat) (x2_4 : Int) (x3_4 : Int) (μ4 : mu_T), f_X6_readOrder_L4 J39 a1 fu4 x2_4 x3_4 μ4 = some (a, μr) → wx_ G X 151 ad (ceX G ad) μ4 0 0 4 [(0, .ref (ad 140)), (1, .int (iI a1)), (2, .int (iI x2_4)), (3, .int (iI x3_4))] [] := by
      intro fu4
      induction fu4 with
      | zero => intro x2_4 x3_4 μ4 h; exact nn_ h
      | succ fu4 K4 =>
        intro x2_4 x3_4 μ4 h
        rw [f_X6_readOrder_L4] at h
        generalize f_X6_readOrder_L4 J39 a1 fu4 = R4 at K4 h
        refine xx_iload_n C 5 rfl 3 dX6_readOrder_4 rfl rfl ?_
        refine xx_gall C 8 rfl rfl dX6_readOrder_5 ?_
        refine xx_alllen C 9 rfl dX6_readOrder_8 ?_
        refine xx_icmp_ge (tgt := 66) C 12 rfl dX6_readOrder_9 (by decide) h (fun h => ?_) (fun h => ?_)
        · refine xx_iload_n C 67 rfl 2 dX6_readOrder_66 rfl rfl ?_
          exact xx_iret C E rfl ⟨Nat.le_of_ble_eq_true rfl, Nat.le_of_ble_eq_true rfl⟩ dX6_readOrder_67 h
        · refine xx_aload_n C 13 rfl 0 dX6_readOrder_12 rfl rfl ?_
          refine xx_iload_n C 14 rfl 1 dX6_readOrder_13 rfl rfl ?_
          refine xx_puti (fi := 7) (j := 7) C 17 rfl (by decide) (ceX_140 _ _ _) (puX_140_7 _ _ _ _) rfl in_X6 tyX6 tyX6_ok nmX6 (by decide) (Nat.le_of_ble_eq_true rfl) ⟨rfl, rfl⟩ w_310 dX6_readOrder_14 h (fun μ14 h => ?_)
          refine xx_aload_n C 18 rfl 0 dX6_readOrder_17 rfl rfl ?_
          refine xx_gall C 21 rfl rfl dX6_readOrder_18 ?_
          refine xx_iload_n C 22 rfl 3 dX6_readOrder_21 rfl rfl ?_
          refine xx_alda C 23 rfl dX6_readOrder_22 h (fun h => ?_)
          refine xx_form C 26 rfl w_1198 dX6_readOrder_23 h (fun h => ?_)
          refine xx_cVi (As := [.ref (G.2.1 (200 + (x3_4 : Int).toNat))]) (st := []) (o := 140) C 29 rfl (by decide) (ceX_140 _ _ _) rfl rfl ca_X6_fits cv_X6_fits w_879 rfl ⟨Nat.le_of_ble_eq_true rfl, Nat.le_of_ble_eq_true rfl⟩ ⟨Nat.le_of_ble_eq_true rfl, Nat.le_of_ble_eq_true rfl⟩ (Nat.le_of_ble_eq_true rfl) dX6_readOrder_26 (fun v26 μ26 e9 => c_X6_fits _ _ v26 μ26 e9) h (fun v26 μ26 h => ?_) rfl
          refine jn_r (fun J => ∀ (_u : Unit), J _u = some (a, μr) → wx_ G X 151 ad (ceX G ad) μ26 0 0 51 [(0, .ref (ad 140)), (1, .int (iI a1)), (2, .int (iI x2_4)), (3, .int (iI x3_4))] []) h (fun _ h => ?_) (fun J51 K51 h => ?_)
          · refine xx_iload_n C 52 rfl 2 dX6_readOrder_51 rfl rfl ?_
            refine xx_aload_n C 53 rfl 0 dX6_readOrder_52 rfl rfl ?_
            refine xx_geti (fi := 7) (j := 7) C 56 rfl (by decide) (ceX_140 _ _ _) rfl in_X6 (by decide) rfl w_310 dX6_readOrder_53 h (fun v53 h => ?_)
            refine xx_mmax C 59 rfl ⟨w_914, w_640, w_41, w_641⟩ ⟨Nat.le_of_ble_eq_true rfl, Nat.le_of_ble_eq_true rfl⟩ ⟨Nat.le_of_ble_eq_true rfl, Nat.le_of_ble_eq_true rfl⟩ dX6_readOrder_56 h (fun v56 h => ?_)
            refine xx_istore_n (lv1 := [(2, .int (iI v56)), (0, .ref (ad 140)), (1, .int (iI a1)), (3, .int (iI x3_4))]) C 60 rfl (by decide) dX6_readOrder_59 rfl rfl ?_
            refine xx_iincn C 63 rfl 3 (by decide) dX6_readOrder_60 rfl h (fun n60 h => ?_)
            refine xx_lv (lv1 := [(3, .int (iI n60)), (2, .int (iI v56)), (0, .ref (ad 140)), (1, .int (iI a1))]) rfl ?_
            refine xx_goto C 4 dX6_readOrder_63 (by decide) ?_
            refine xx_sub [2, 3, 1, 0] rfl ?_
            exact K4 v56 n60 μ26 h
          · refine xx_if_eq (tgt := 51) C 32 rfl dX6_readOrder_29 (by decide) h (fun h => ?_) (fun h => ?_)
            · exact K51 () h
            · refine xx_aload_n C 33 rfl 0 dX6_readOrder_32 rfl rfl ?_
              refine xx_cVip (As := []) (st := []) (o := 140) C 36 rfl (by decide) (ceX_140 _ _ _) rfl rfl ca_X6_isOrderEnd cv_X6_isOrderEnd w_906 rfl ⟨Nat.le_of_ble_eq_true rfl, Nat.le_of_ble_eq_true rfl⟩ ⟨Nat.le_of_ble_eq_true rfl, Nat.le_of_ble_eq_true rfl⟩ (Nat.le_of_ble_eq_true rfl) dX6_readOrder_33 (fun v33 e9 => c_X6_isOrderEnd _ v33 e9) h (fun v33 h => ?_) rfl
              refine xx_if_eq (tgt := 51) C 39 rfl dX6_readOrder_36 (by decide) h (fun h => ?_) (fun h => ?_)
              · exact K51 () h
              · refine xx_sub [0, 3] rfl ?_
                exact K39 x3_4 μ26 h
    refine xx_sub [2, 3, 1, 0] rfl ?_
    exact L4 _ _ _ _ h

def f_X6_read_L9  : Nat → Int → Int → mu_T → Option (Int × mu_T)
  | 0, _, _, _ => none
  | fu9 + 1, x1_9, x2_9, μ9 => lt_ x2_9 60
      (bp_ (f_X6_readOrder μ9 x1_9) (fun v20 μ20 => eq_ v20 (-15)
      (nm_ (μ20 140 7) (fun v33 => bd_ (f_J4_length_8abf5_o141 μ20) (fun v40 => lt_ v33 v40
      (nm_ (μ20 140 7) (fun v50 => nm_ ((v50 + 1)) (fun n55 => nm_ (x2_9 + 1) (fun n56 => (f_X6_read_L9 fu9) n55 n56 μ20))))
      (some ((-15), μ20)))))
      (some (v20, μ20))))
      (some (x1_9, μ9))
def f_X6_read (μ : mu_T)  : Option (Int × mu_T) :=
  wf_ μ 140 5 0 (fun μ2 => f_X6_read_L9 20000 0 0 μ2)
set_option maxHeartbeats 4000000 in
set_option maxRecDepth 100000 in
theorem c_X6_read {G : gp_} {ad : Nat → Nat} (μ : mu_T)  (a : Int) (μr : mu_T) (h : f_X6_read μ  = some (a, μr)) : mi_ yX6_read cX6_read 4 (some .int) ({ frames := 8, cells := 0, slots := 0, locals := 182 } : Room) G 151 ad (ceX G ad) [.ref (ad 140)] μ a μr := by
  refine mi_in (own := "UrnHeap$Orders") (lv := [(0, .ref (ad 140))]) (by decide) rfl rfl (Nat.le_of_ble_eq_true rfl) (fun X C E => ?_)
  unfold f_X6_read at h
  refine xx_aload_n C 1 rfl 0 dX6_read_0 rfl rfl ?_
  refine xx_iconst C 2 rfl dX6_read_1 ?_
  refine xx_puti (fi := 5) (j := 5) C 5 rfl (by decide) (ceX_140 _ _ _) (puX_140_5 _ _ _ _) rfl in_X6 tyX6 tyX6_ok nmX6 (by decide) (Nat.le_of_ble_eq_true rfl) ⟨rfl, rfl⟩ w_307 dX6_read_2 h (fun μ2 h => ?_)
  refine xx_iconst C 6 rfl dX6_read_5 ?_
  refine xx_istore_n (lv1 := [(1, .int (iI 0)), (0, .ref (ad 140))]) C 7 rfl (by decide) dX6_read_6 rfl rfl ?_
  refine xx_iconst C 8 rfl dX6_read_7 ?_
  refine xx_istore_n (lv1 := [(2, .int (iI 0)), (1, .int (iI 0)), (0, .ref (ad 140))]) C 9 rfl (by decide) dX6_read_8 rfl rfl ?_
  have L9 : ∀ (fu9 : Nat) (x1_9 : Int) (x2_9 : Int) (μ9 : mu_T), f_X6_read_L9 fu9 x1_9 x2_9 μ9 = some (a, μr) → wx_ G X 151 ad (ceX G ad) μ9 0 0 9 [(0, .ref (ad 140)), (1, .int (iI x1_9)), (2, .int (iI x2_9))] [] := by
    intro fu9
    induction fu9 with
    | zero => intro x1_9 x2_9 μ9 h; exact nn_ h
    | succ fu9 K9 =>
      intro x1_9 x2_9 μ9 h
      rw [f_X6_read_L9] at h
      generalize f_X6_read_L9 fu9 = R9 at K9 h
      refine xx_iload_n C 10 rfl 2 dX6_read_9 rfl rfl ?_
      refine xx_aload_n C 11 rfl 0 dX6_read_10 rfl rfl ?_
      refine xx_getr (fi := 1) C 14 rfl (by decide) (ceX_140 _ _ _) rfl in_X6 (by decide) rfl w_299 dX6_read_11 ?_
      refine xx_klen (nA := 60) C 15 rfl (by decide) (fun row => ceX_143 _ _ row) dX6_read_14 ?_
      refine xx_icmp_ge (tgt := 62) C 18 rfl dX6_read_15 (by decide) h (fun h => ?_) (fun h => ?_)
      · refine xx_iload_n C 63 rfl 1 dX6_read_62 rfl rfl ?_
        exact xx_iret C E rfl ⟨Nat.le_of_ble_eq_true rfl, Nat.le_of_ble_eq_true rfl⟩ dX6_read_63 h
      · refine xx_aload_n C 19 rfl 0 dX6_read_18 rfl rfl ?_
        refine xx_iload_n C 20 rfl 1 dX6_read_19 rfl rfl ?_
        refine xx_cVi (As := [.int (iI x1_9)]) (st := []) (o := 140) C 23 rfl (by decide) (ceX_140 _ _ _) rfl rfl ca_X6_readOrder cv_X6_readOrder w_873 rfl ⟨Nat.le_of_ble_eq_true rfl, Nat.le_of_ble_eq_true rfl⟩ ⟨Nat.le_of_ble_eq_true rfl, Nat.le_of_ble_eq_true rfl⟩ (Nat.le_of_ble_eq_true rfl) dX6_read_20 (fun v20 μ20 e9 => c_X6_readOrder _ _ v20 μ20 e9) h (fun v20 μ20 h => ?_) rfl
        refine xx_istore_n (lv1 := [(3, .int (iI v20)), (0, .ref (ad 140)), (1, .int (iI x1_9)), (2, .int (iI x2_9))]) C 24 rfl (by decide) dX6_read_23 rfl rfl ?_
        refine xx_iload_n C 25 rfl 0 dX6_read_24 rfl rfl ?_
        refine xx_bipush C 27 rfl dX6_read_25 (by decide) ?_
        refine xx_icmp_eq (tgt := 32) C 30 rfl dX6_read_27 (by decide) h (fun h => ?_) (fun h => ?_)
        · refine xx_aload_n C 33 rfl 1 dX6_read_32 rfl rfl ?_
          refine xx_geti (fi := 7) (j := 7) C 36 rfl (by decide) (ceX_140 _ _ _) rfl in_X6 (by decide) rfl w_310 dX6_read_33 h (fun v33 h => ?_)
          refine xx_aload_n C 37 rfl 1 dX6_read_36 rfl rfl ?_
          refine xx_getr (fi := 0) C 40 rfl (by decide) (ceX_140 _ _ _) rfl in_X6 (by decide) rfl w_298 dX6_read_37 ?_
          refine xx_cVip (As := []) (st := [.int (iI v33)]) (o := 141) C 43 rfl (by decide) (ceX_141 _ _ _) rfl rfl ca_J4_length_8abf5 cv_J4_length_8abf5 w_386 rfl ⟨Nat.le_of_ble_eq_true rfl, Nat.le_of_ble_eq_true rfl⟩ ⟨Nat.le_of_ble_eq_true rfl, Nat.le_of_ble_eq_true rfl⟩ (Nat.le_of_ble_eq_true rfl) dX6_read_40 (fun v40 e9 => c_J4_length_8abf5_o141 _ v40 e9) h (fun v40 h => ?_) rfl
          refine xx_icmp_lt (tgt := 49) C 46 rfl dX6_read_43 (by decide) h (fun h => ?_) (fun h => ?_)
          · refine xx_aload_n C 50 rfl 1 dX6_read_49 rfl rfl ?_
            refine xx_geti (fi := 7) (j := 7) C 53 rfl (by decide) (ceX_140 _ _ _) rfl in_X6 (by decide) rfl w_310 dX6_read_50 h (fun v50 h => ?_)
            refine xx_iconst C 54 rfl dX6_read_53 ?_
            refine xx_iadd C 55 rfl dX6_read_54 ?_
            refine xx_nm C h (fun n55 h => ?_)
            refine xx_istore_n (lv1 := [(1, .int (iI n55)), (3, .int (iI v20)), (0, .ref (ad 140)), (2, .int (iI x2_9))]) C 56 rfl (by decide) dX6_read_55 rfl rfl ?_
            refine xx_iincn C 59 rfl 3 (by decide) dX6_read_56 rfl h (fun n56 h => ?_)
            refine xx_lv (lv1 := [(2, .int (iI n56)), (1, .int (iI n55)), (3, .int (iI v20)), (0, .ref (ad 140))]) rfl ?_
            refine xx_goto C 9 dX6_read_59 (by decide) ?_
            refine xx_sub [3, 1, 0] rfl ?_
            exact K9 n55 n56 μ20 h
          · refine xx_bipush C 48 rfl dX6_read_46 (by decide) ?_
            exact xx_iret C E rfl ⟨Nat.le_of_ble_eq_true rfl, Nat.le_of_ble_eq_true rfl⟩ dX6_read_48 h
        · refine xx_iload_n C 31 rfl 0 dX6_read_30 rfl rfl ?_
          exact xx_iret C E rfl ⟨Nat.le_of_ble_eq_true rfl, Nat.le_of_ble_eq_true rfl⟩ dX6_read_31 h
  refine xx_sub [2, 1, 0] rfl ?_
  exact L9 _ _ _ _ h

def f_X11_appendg (μ : mu_T) (a1 : Int) : Option (Int × mu_T) :=
  bp_ (f_X6_addSigng μ a1) (fun v5 μ5 => some (v5, μ5))
set_option maxHeartbeats 4000000 in
set_option maxRecDepth 100000 in
theorem c_X11_appendg {G : gp_} {ad : Nat → Nat} (p q : Nat) (μ : mu_T) (a1 : Int) (a : Int) (μr : mu_T) (h : f_X11_appendg μ a1 = some (a, μr)) : mgi_ yX11_append cX11_append 2 (some .int) ({ frames := 7, cells := 1, slots := 70, locals := 155 } : Room) G ad p q [.ref (ad 132), .int (iI a1)] μ a μr := by
  refine mg_in (own := "UrnHeap") (lv := [(0, .ref (ad 132)), (1, .int (iI a1))]) (by decide) rfl rfl (Nat.le_of_ble_eq_true rfl) (fun X C E => ?_)
  have hb : (0 + 0 ≤ 0 ∧ 0 + 0 ≤ 0) := ⟨Nat.le_refl _, Nat.le_refl _⟩
  unfold f_X11_appendg at h
  refine xx_aload_n C 1 rfl 0 dX11_append_0 rfl rfl ?_
  refine xx_getr (fi := 6) C 4 rfl (by decide) (ceX_132 _ _ _) rfl in_X11 (by decide) rfl w_346 dX11_append_1 ?_
  refine xx_iload_n C 5 rfl 1 dX11_append_4 rfl rfl ?_
  refine xx_gVi (As := [.int (iI a1)]) (st := []) (o := 140) C 8 rfl (by decide) (ceX_140 _ _ _) rfl rfl ca_X6_addSign cv_X6_addSign w_848 rfl ⟨Nat.le_of_ble_eq_true rfl, Nat.le_of_ble_eq_true rfl⟩ (gB_ hb (Nat.le_of_ble_eq_true rfl) (Nat.le_of_ble_eq_true rfl)) (Nat.le_of_ble_eq_true rfl) dX11_append_5 (fun v5 μ5 e9 => c_X6_addSigng p q _ _ v5 μ5 e9) h (fun p q v5 μ5 h => ?_) rfl
  have hb := gN_ (c2 := 1) (s2 := 70) hb
  exact xx_giret C E rfl (gR_ hb (Nat.le_of_ble_eq_true rfl) (Nat.le_of_ble_eq_true rfl)) dX11_append_8 h

def f_X11_carryOut (μ : mu_T) (a1 : Int) : Option (Int × mu_T) :=
  bd_ (f_X6_has μ a1) (fun v5 => eq_ v5 0
      (some ((-11), μ))
      (rd_ μ 144 60 a1 (fun v22 => rd_ μ 145 60 a1 (fun v32 => rd_ μ 143 60 a1 (fun v45 => gd_ (0 ≤ v45 ∧ v45 < 10) (bd_ (f_Jx29ce0_ordinal_8abf5 μ v45) (fun v46 => gd_ (0 ≤ v46 ∧ v46 < 10) (ts_ (v46 + 1) [1, 2, 3, 4, 5, 6, 7, 8, 9, 10] [bp_ (f_X1_makeUrn μ 0) (fun v109 μ109 => some (v109, μ109)),
      bp_ (f_X1_makeUrn μ 1) (fun v118 μ118 => some (v118, μ118)),
      rd_ μ 146 60 a1 (fun v136 => bp_ (f_X1_tieThread μ v22 v32 v136) (fun v137 μ137 => some (v137, μ137))),
      bp_ (f_X1_takeThread μ v22 v32) (fun v147 μ147 => some (v147, μ147)),
      bp_ (f_X1_giveName μ v22 v32) (fun v157 μ157 => some (v157, μ157)),
      bp_ (f_X1_takeName μ v22) (fun v166 μ166 => some (v166, μ166)),
      bp_ (f_X1_tieWeak μ v22 v32) (fun v176 μ176 => some (v176, μ176)),
      bp_ (f_X10_endRound μ) (fun v184 μ184 => some (v184, μ184)),
      bp_ (f_X10_doParts μ v22) (fun v193 μ193 => some (v193, μ193)),
      bp_ (f_X10_doRite μ) (fun v201 μ201 => some (v201, μ201))]
      (some ((-11), μ))))))))))
set_option maxHeartbeats 4000000 in
set_option maxRecDepth 100000 in
theorem c_X11_carryOut {G : gp_} {ad : Nat → Nat} (μ : mu_T) (a1 : Int) (a : Int) (μr : mu_T) (h : f_X11_carryOut μ a1 = some (a, μr)) : mi_ yX11_carryOut cX11_carryOut 4 (some .int) ({ frames := 5, cells := 0, slots := 0, locals := 108 } : Room) G 151 ad (ceX G ad) [.ref (ad 132), .int (iI a1)] μ a μr := by
  refine mi_in (own := "UrnHeap") (lv := [(0, .ref (ad 132)), (1, .int (iI a1))]) (by decide) rfl rfl (Nat.le_of_ble_eq_true rfl) (fun X C E => ?_)
  unfold f_X11_carryOut at h
  refine xx_aload_n C 1 rfl 0 dX11_carryOut_0 rfl rfl ?_
  refine xx_getr (fi := 6) C 4 rfl (by decide) (ceX_132 _ _ _) rfl in_X11 (by decide) rfl w_346 dX11_carryOut_1 ?_
  refine xx_iload_n C 5 rfl 1 dX11_carryOut_4 rfl rfl ?_
  refine xx_cVip (As := [.int (iI a1)]) (st := []) (o := 140) C 8 rfl (by decide) (ceX_140 _ _ _) rfl rfl ca_X6_has cv_X6_has w_943 rfl ⟨Nat.le_of_ble_eq_true rfl, Nat.le_of_ble_eq_true rfl⟩ ⟨Nat.le_of_ble_eq_true rfl, Nat.le_of_ble_eq_true rfl⟩ (Nat.le_of_ble_eq_true rfl) dX11_carryOut_5 (fun v5 e9 => c_X6_has _ _ v5 e9) h (fun v5 h => ?_) rfl
  refine xx_if_ne (tgt := 14) C 11 rfl dX11_carryOut_8 (by decide) h (fun h => ?_) (fun h => ?_)
  · refine xx_aload_n C 15 rfl 0 dX11_carryOut_14 rfl rfl ?_
    refine xx_getr (fi := 6) C 18 rfl (by decide) (ceX_132 _ _ _) rfl in_X11 (by decide) rfl w_346 dX11_carryOut_15 ?_
    refine xx_getr (fi := 2) C 21 rfl (by decide) (ceX_140 _ _ _) rfl in_X6 (by decide) rfl w_302 dX11_carryOut_18 ?_
    refine xx_iload_n C 22 rfl 1 dX11_carryOut_21 rfl rfl ?_
    refine xx_iaload C 23 rfl (by decide) (fun row => ceX_144 _ _ row) (by decide) dX11_carryOut_22 h (fun v22 h => ?_)
    refine xx_istore_n (lv1 := [(2, .int (iI v22)), (0, .ref (ad 132)), (1, .int (iI a1))]) C 24 rfl (by decide) dX11_carryOut_23 rfl rfl ?_
    refine xx_aload_n C 25 rfl 1 dX11_carryOut_24 rfl rfl ?_
    refine xx_getr (fi := 6) C 28 rfl (by decide) (ceX_132 _ _ _) rfl in_X11 (by decide) rfl w_346 dX11_carryOut_25 ?_
    refine xx_getr (fi := 3) C 31 rfl (by decide) (ceX_140 _ _ _) rfl in_X6 (by decide) rfl w_304 dX11_carryOut_28 ?_
    refine xx_iload_n C 32 rfl 2 dX11_carryOut_31 rfl rfl ?_
    refine xx_iaload C 33 rfl (by decide) (fun row => ceX_145 _ _ row) (by decide) dX11_carryOut_32 h (fun v32 h => ?_)
    refine xx_istore_n (lv1 := [(3, .int (iI v32)), (2, .int (iI v22)), (0, .ref (ad 132)), (1, .int (iI a1))]) C 34 rfl (by decide) dX11_carryOut_33 rfl rfl ?_
    refine xx_gsm C 37 rfl w_947 dX11_carryOut_34 ?_
    refine xx_aload_n C 38 rfl 2 dX11_carryOut_37 rfl rfl ?_
    refine xx_getr (fi := 6) C 41 rfl (by decide) (ceX_132 _ _ _) rfl in_X11 (by decide) rfl w_346 dX11_carryOut_38 ?_
    refine xx_getr (fi := 1) C 44 rfl (by decide) (ceX_140 _ _ _) rfl in_X6 (by decide) rfl w_300 dX11_carryOut_41 ?_
    refine xx_iload_n C 45 rfl 3 dX11_carryOut_44 rfl rfl ?_
    refine xx_aldk C 46 rfl (by decide) (fun row => ceX_143 _ _ row) (by decide) dX11_carryOut_45 h (fun v45 h => ?_)
    refine xx_cOip (x := (⟨"UrnHeap$Kind", "ordinal", "()I"⟩ : MethodName)) (y := yJx29ce0_ordinal_8abf5) (st := [.ref (G.2.1 1)]) C 49 rfl rfl rfl ca_Jx29ce0_ordinal_8abf5 ⟨w_950, w_953, w_952⟩ w_949 ⟨Nat.le_of_ble_eq_true rfl, Nat.le_of_ble_eq_true rfl⟩ ⟨Nat.le_of_ble_eq_true rfl, Nat.le_of_ble_eq_true rfl⟩ (Nat.le_of_ble_eq_true rfl) dX11_carryOut_46 (fun v46 e9 => c_Jx29ce0_ordinal_8abf5 _ _ v46 e9) h (fun v46 h => ?_)
    refine xx_smld C 50 rfl dX11_carryOut_49 h (fun h => ?_)
    refine xx_tsw C [1, 2, 3, 4, 5, 6, 7, 8, 9, 10] _ [104, 113, 122, 141, 151, 161, 170, 180, 188, 197] 205 dX11_carryOut_50 (by decide) rfl h (fun h => ?_) ⟨fun h => ?_, fun h => ?_, fun h => ?_, fun h => ?_, fun h => ?_, fun h => ?_, fun h => ?_, fun h => ?_, fun h => ?_, fun h => ?_, trivial⟩
    · refine xx_bipush C 207 rfl dX11_carryOut_205 (by decide) ?_
      exact xx_iret C E rfl ⟨Nat.le_of_ble_eq_true rfl, Nat.le_of_ble_eq_true rfl⟩ dX11_carryOut_207 h
    · refine xx_aload_n C 105 rfl 2 dX11_carryOut_104 rfl rfl ?_
      refine xx_getr (fi := 2) C 108 rfl (by decide) (ceX_132 _ _ _) rfl in_X11 (by decide) rfl w_342 dX11_carryOut_105 ?_
      refine xx_iconst C 109 rfl dX11_carryOut_108 ?_
      refine xx_cVi (As := [.int (iI 0)]) (st := []) (o := 134) C 112 rfl (by decide) (ceX_134 _ _ _) rfl rfl ca_X1_makeUrn cv_X1_makeUrn w_427 rfl ⟨Nat.le_of_ble_eq_true rfl, Nat.le_of_ble_eq_true rfl⟩ ⟨Nat.le_of_ble_eq_true rfl, Nat.le_of_ble_eq_true rfl⟩ (Nat.le_of_ble_eq_true rfl) dX11_carryOut_109 (fun v109 μ109 e9 => c_X1_makeUrn _ _ v109 μ109 e9) h (fun v109 μ109 h => ?_) rfl
      exact xx_iret C E rfl ⟨Nat.le_of_ble_eq_true rfl, Nat.le_of_ble_eq_true rfl⟩ dX11_carryOut_112 h
    · refine xx_aload_n C 114 rfl 2 dX11_carryOut_113 rfl rfl ?_
      refine xx_getr (fi := 2) C 117 rfl (by decide) (ceX_132 _ _ _) rfl in_X11 (by decide) rfl w_342 dX11_carryOut_114 ?_
      refine xx_iconst C 118 rfl dX11_carryOut_117 ?_
      refine xx_cVi (As := [.int (iI 1)]) (st := []) (o := 134) C 121 rfl (by decide) (ceX_134 _ _ _) rfl rfl ca_X1_makeUrn cv_X1_makeUrn w_427 rfl ⟨Nat.le_of_ble_eq_true rfl, Nat.le_of_ble_eq_true rfl⟩ ⟨Nat.le_of_ble_eq_true rfl, Nat.le_of_ble_eq_true rfl⟩ (Nat.le_of_ble_eq_true rfl) dX11_carryOut_118 (fun v118 μ118 e9 => c_X1_makeUrn _ _ v118 μ118 e9) h (fun v118 μ118 h => ?_) rfl
      exact xx_iret C E rfl ⟨Nat.le_of_ble_eq_true rfl, Nat.le_of_ble_eq_true rfl⟩ dX11_carryOut_121 h
    · refine xx_aload_n C 123 rfl 2 dX11_carryOut_122 rfl rfl ?_
      refine xx_getr (fi := 2) C 126 rfl (by decide) (ceX_132 _ _ _) rfl in_X11 (by decide) rfl w_342 dX11_carryOut_123 ?_
      refine xx_iload_n C 127 rfl 1 dX11_carryOut_126 rfl rfl ?_
      refine xx_iload_n C 128 rfl 0 dX11_carryOut_127 rfl rfl ?_
      refine xx_aload_n C 129 rfl 2 dX11_carryOut_128 rfl rfl ?_
      refine xx_getr (fi := 6) C 132 rfl (by decide) (ceX_132 _ _ _) rfl in_X11 (by decide) rfl w_346 dX11_carryOut_129 ?_
      refine xx_getr (fi := 4) C 135 rfl (by decide) (ceX_140 _ _ _) rfl in_X6 (by decide) rfl w_306 dX11_carryOut_132 ?_
      refine xx_iload_n C 136 rfl 3 dX11_carryOut_135 rfl rfl ?_
      refine xx_iaload C 137 rfl (by decide) (fun row => ceX_146 _ _ row) (by decide) dX11_carryOut_136 h (fun v136 h => ?_)
      refine xx_cVi (As := [.int (iI v22), .int (iI v32), .int (iI v136)]) (st := []) (o := 134) C 140 rfl (by decide) (ceX_134 _ _ _) rfl rfl ca_X1_tieThread cv_X1_tieThread w_457 rfl ⟨Nat.le_of_ble_eq_true rfl, Nat.le_of_ble_eq_true rfl⟩ ⟨Nat.le_of_ble_eq_true rfl, Nat.le_of_ble_eq_true rfl⟩ (Nat.le_of_ble_eq_true rfl) dX11_carryOut_137 (fun v137 μ137 e9 => c_X1_tieThread _ _ _ _ v137 μ137 e9) h (fun v137 μ137 h => ?_) rfl
      exact xx_iret C E rfl ⟨Nat.le_of_ble_eq_true rfl, Nat.le_of_ble_eq_true rfl⟩ dX11_carryOut_140 h
    · refine xx_aload_n C 142 rfl 2 dX11_carryOut_141 rfl rfl ?_
      refine xx_getr (fi := 2) C 145 rfl (by decide) (ceX_132 _ _ _) rfl in_X11 (by decide) rfl w_342 dX11_carryOut_142 ?_
      refine xx_iload_n C 146 rfl 1 dX11_carryOut_145 rfl rfl ?_
      refine xx_iload_n C 147 rfl 0 dX11_carryOut_146 rfl rfl ?_
      refine xx_cVi (As := [.int (iI v22), .int (iI v32)]) (st := []) (o := 134) C 150 rfl (by decide) (ceX_134 _ _ _) rfl rfl ca_X1_takeThread cv_X1_takeThread w_496 rfl ⟨Nat.le_of_ble_eq_true rfl, Nat.le_of_ble_eq_true rfl⟩ ⟨Nat.le_of_ble_eq_true rfl, Nat.le_of_ble_eq_true rfl⟩ (Nat.le_of_ble_eq_true rfl) dX11_carryOut_147 (fun v147 μ147 e9 => c_X1_takeThread _ _ _ v147 μ147 e9) h (fun v147 μ147 h => ?_) rfl
      exact xx_iret C E rfl ⟨Nat.le_of_ble_eq_true rfl, Nat.le_of_ble_eq_true rfl⟩ dX11_carryOut_150 h
    · refine xx_aload_n C 152 rfl 2 dX11_carryOut_151 rfl rfl ?_
      refine xx_getr (fi := 2) C 155 rfl (by decide) (ceX_132 _ _ _) rfl in_X11 (by decide) rfl w_342 dX11_carryOut_152 ?_
      refine xx_iload_n C 156 rfl 1 dX11_carryOut_155 rfl rfl ?_
      refine xx_iload_n C 157 rfl 0 dX11_carryOut_156 rfl rfl ?_
      refine xx_cVi (As := [.int (iI v22), .int (iI v32)]) (st := []) (o := 134) C 160 rfl (by decide) (ceX_134 _ _ _) rfl rfl ca_X1_giveName cv_X1_giveName w_520 rfl ⟨Nat.le_of_ble_eq_true rfl, Nat.le_of_ble_eq_true rfl⟩ ⟨Nat.le_of_ble_eq_true rfl, Nat.le_of_ble_eq_true rfl⟩ (Nat.le_of_ble_eq_true rfl) dX11_carryOut_157 (fun v157 μ157 e9 => c_X1_giveName _ _ _ v157 μ157 e9) h (fun v157 μ157 h => ?_) rfl
      exact xx_iret C E rfl ⟨Nat.le_of_ble_eq_true rfl, Nat.le_of_ble_eq_true rfl⟩ dX11_carryOut_160 h
    · refine xx_aload_n C 162 rfl 2 dX11_carryOut_161 rfl rfl ?_
      refine xx_getr (fi := 2) C 165 rfl (by decide) (ceX_132 _ _ _) rfl in_X11 (by decide) rfl w_342 dX11_carryOut_162 ?_
      refine xx_iload_n C 166 rfl 1 dX11_carryOut_165 rfl rfl ?_
      refine xx_cVi (As := [.int (iI v22)]) (st := []) (o := 134) C 169 rfl (by decide) (ceX_134 _ _ _) rfl rfl ca_X1_takeName cv_X1_takeName w_531 rfl ⟨Nat.le_of_ble_eq_true rfl, Nat.le_of_ble_eq_true rfl⟩ ⟨Nat.le_of_ble_eq_true rfl, Nat.le_of_ble_eq_true rfl⟩ (Nat.le_of_ble_eq_true rfl) dX11_carryOut_166 (fun v166 μ166 e9 => c_X1_takeName _ _ v166 μ166 e9) h (fun v166 μ166 h => ?_) rfl
      exact xx_iret C E rfl ⟨Nat.le_of_ble_eq_true rfl, Nat.le_of_ble_eq_true rfl⟩ dX11_carryOut_169 h
    · refine xx_aload_n C 171 rfl 2 dX11_carryOut_170 rfl rfl ?_
      refine xx_getr (fi := 2) C 174 rfl (by decide) (ceX_132 _ _ _) rfl in_X11 (by decide) rfl w_342 dX11_carryOut_171 ?_
      refine xx_iload_n C 175 rfl 1 dX11_carryOut_174 rfl rfl ?_
      refine xx_iload_n C 176 rfl 0 dX11_carryOut_175 rfl rfl ?_
      refine xx_cVi (As := [.int (iI v22), .int (iI v32)]) (st := []) (o := 134) C 179 rfl (by decide) (ceX_134 _ _ _) rfl rfl ca_X1_tieWeak cv_X1_tieWeak w_504 rfl ⟨Nat.le_of_ble_eq_true rfl, Nat.le_of_ble_eq_true rfl⟩ ⟨Nat.le_of_ble_eq_true rfl, Nat.le_of_ble_eq_true rfl⟩ (Nat.le_of_ble_eq_true rfl) dX11_carryOut_176 (fun v176 μ176 e9 => c_X1_tieWeak _ _ _ v176 μ176 e9) h (fun v176 μ176 h => ?_) rfl
      exact xx_iret C E rfl ⟨Nat.le_of_ble_eq_true rfl, Nat.le_of_ble_eq_true rfl⟩ dX11_carryOut_179 h
    · refine xx_aload_n C 181 rfl 2 dX11_carryOut_180 rfl rfl ?_
      refine xx_getr (fi := 3) C 184 rfl (by decide) (ceX_132 _ _ _) rfl in_X11 (by decide) rfl w_343 dX11_carryOut_181 ?_
      refine xx_cVi (As := []) (st := []) (o := 135) C 187 rfl (by decide) (ceX_135 _ _ _) rfl rfl ca_X10_endRound cv_X10_endRound w_602 rfl ⟨Nat.le_of_ble_eq_true rfl, Nat.le_of_ble_eq_true rfl⟩ ⟨Nat.le_of_ble_eq_true rfl, Nat.le_of_ble_eq_true rfl⟩ (Nat.le_of_ble_eq_true rfl) dX11_carryOut_184 (fun v184 μ184 e9 => c_X10_endRound _ v184 μ184 e9) h (fun v184 μ184 h => ?_) rfl
      exact xx_iret C E rfl ⟨Nat.le_of_ble_eq_true rfl, Nat.le_of_ble_eq_true rfl⟩ dX11_carryOut_187 h
    · refine xx_aload_n C 189 rfl 2 dX11_carryOut_188 rfl rfl ?_
      refine xx_getr (fi := 3) C 192 rfl (by decide) (ceX_132 _ _ _) rfl in_X11 (by decide) rfl w_343 dX11_carryOut_189 ?_
      refine xx_iload_n C 193 rfl 1 dX11_carryOut_192 rfl rfl ?_
      refine xx_cVi (As := [.int (iI v22)]) (st := []) (o := 135) C 196 rfl (by decide) (ceX_135 _ _ _) rfl rfl ca_X10_doParts cv_X10_doParts w_557 rfl ⟨Nat.le_of_ble_eq_true rfl, Nat.le_of_ble_eq_true rfl⟩ ⟨Nat.le_of_ble_eq_true rfl, Nat.le_of_ble_eq_true rfl⟩ (Nat.le_of_ble_eq_true rfl) dX11_carryOut_193 (fun v193 μ193 e9 => c_X10_doParts _ _ v193 μ193 e9) h (fun v193 μ193 h => ?_) rfl
      exact xx_iret C E rfl ⟨Nat.le_of_ble_eq_true rfl, Nat.le_of_ble_eq_true rfl⟩ dX11_carryOut_196 h
    · refine xx_aload_n C 198 rfl 2 dX11_carryOut_197 rfl rfl ?_
      refine xx_getr (fi := 3) C 201 rfl (by decide) (ceX_132 _ _ _) rfl in_X11 (by decide) rfl w_343 dX11_carryOut_198 ?_
      refine xx_cVi (As := []) (st := []) (o := 135) C 204 rfl (by decide) (ceX_135 _ _ _) rfl rfl ca_X10_doRite cv_X10_doRite w_610 rfl ⟨Nat.le_of_ble_eq_true rfl, Nat.le_of_ble_eq_true rfl⟩ ⟨Nat.le_of_ble_eq_true rfl, Nat.le_of_ble_eq_true rfl⟩ (Nat.le_of_ble_eq_true rfl) dX11_carryOut_201 (fun v201 μ201 e9 => c_X10_doRite _ v201 μ201 e9) h (fun v201 μ201 h => ?_) rfl
      exact xx_iret C E rfl ⟨Nat.le_of_ble_eq_true rfl, Nat.le_of_ble_eq_true rfl⟩ dX11_carryOut_204 h
  · refine xx_bipush C 13 rfl dX11_carryOut_11 (by decide) ?_
    exact xx_iret C E rfl ⟨Nat.le_of_ble_eq_true rfl, Nat.le_of_ble_eq_true rfl⟩ dX11_carryOut_13 h

def f_X11_run_L36 (J58 : Int → mu_T → Option (Int × mu_T)) (J82 : mu_T → Option (Int × mu_T)) : Nat → Int → mu_T → Option (Int × mu_T)
  | 0, _, _ => none
  | fu36 + 1, x2_36, μ36 => nm_ (μ36 140 5) (fun v41 => lt_ x2_36 v41
      (bp_ (f_X11_carryOut μ36 x2_36) (fun v49 μ49 => bd_ (f_X3_isRefusal μ49 v49) (fun v52 => eq_ v52 0
      (nm_ (x2_36 + 1) (fun n76 => (f_X11_run_L36 J58 J82 fu36) n76 μ49))
      (J58 x2_36 μ49))))
      (J82 μ36))
def f_X11_run (μ : mu_T)  : Option (Int × mu_T) :=
  bp_ (f_X6_read μ) (fun v4 μ4 => bd_ (f_X6_clearText μ4) (fun μ12 => eq_ v4 (-15)
      (bd_ (f_X3_keepBefore μ12) (fun μ31 => jn_ (φ := mu_T → Option (Int × mu_T)) (fun μ82 => nm_ (μ82 140 5) (fun v90 => bp_ (f_X3_settle μ82 v90) (fun v93 μ93 => some (v93, μ93))))
      (fun J82 => jn_ (φ := Int → mu_T → Option (Int × mu_T)) (fun x2_58 μ58 => bd_ (f_X3_takeBack μ58) (fun μ62 => bp_ (f_X8_refuse μ62 8 x2_58) (fun v72 μ72 => some (v72, μ72))))
      (fun J58 => f_X11_run_L36 J58 J82 20000 0 μ31))))
      (some (((-1000) - v4), μ12))))
set_option maxHeartbeats 4000000 in
set_option maxRecDepth 100000 in
theorem c_X11_run {G : gp_} {ad : Nat → Nat} (μ : mu_T)  (a : Int) (μr : mu_T) (h : f_X11_run μ  = some (a, μr)) : mi_ yX11_run cX11_run 3 (some .int) ({ frames := 9, cells := 0, slots := 0, locals := 205 } : Room) G 151 ad (ceX G ad) [.ref (ad 132)] μ a μr := by
  refine mi_in (own := "UrnHeap") (lv := [(0, .ref (ad 132))]) (by decide) rfl rfl (Nat.le_of_ble_eq_true rfl) (fun X C E => ?_)
  unfold f_X11_run at h
  refine xx_aload_n C 1 rfl 0 dX11_run_0 rfl rfl ?_
  refine xx_getr (fi := 6) C 4 rfl (by decide) (ceX_132 _ _ _) rfl in_X11 (by decide) rfl w_346 dX11_run_1 ?_
  refine xx_cVi (As := []) (st := []) (o := 140) C 7 rfl (by decide) (ceX_140 _ _ _) rfl rfl ca_X6_read cv_X6_read w_869 rfl ⟨Nat.le_of_ble_eq_true rfl, Nat.le_of_ble_eq_true rfl⟩ ⟨Nat.le_of_ble_eq_true rfl, Nat.le_of_ble_eq_true rfl⟩ (Nat.le_of_ble_eq_true rfl) dX11_run_4 (fun v4 μ4 e9 => c_X6_read _ v4 μ4 e9) h (fun v4 μ4 h => ?_) rfl
  refine xx_istore_n (lv1 := [(1, .int (iI v4)), (0, .ref (ad 132))]) C 8 rfl (by decide) dX11_run_7 rfl rfl ?_
  refine xx_aload_n C 9 rfl 1 dX11_run_8 rfl rfl ?_
  refine xx_getr (fi := 6) C 12 rfl (by decide) (ceX_132 _ _ _) rfl in_X11 (by decide) rfl w_346 dX11_run_9 ?_
  refine xx_cVv (As := []) (st := []) (o := 140) C 15 rfl (by decide) (ceX_140 _ _ _) rfl rfl ca_X6_clearText cv_X6_clearText w_915 rfl ⟨Nat.le_of_ble_eq_true rfl, Nat.le_of_ble_eq_true rfl⟩ ⟨Nat.le_of_ble_eq_true rfl, Nat.le_of_ble_eq_true rfl⟩ (Nat.le_of_ble_eq_true rfl) dX11_run_12 (fun μ12 e9 => c_X6_clearText _ μ12 e9) h (fun μ12 h => ?_) rfl
  refine xx_iload_n C 16 rfl 0 dX11_run_15 rfl rfl ?_
  refine xx_bipush C 18 rfl dX11_run_16 (by decide) ?_
  refine xx_icmp_eq (tgt := 27) C 21 rfl dX11_run_18 (by decide) h (fun h => ?_) (fun h => ?_)
  · refine xx_aload_n C 28 rfl 1 dX11_run_27 rfl rfl ?_
    refine xx_getr (fi := 5) C 31 rfl (by decide) (ceX_132 _ _ _) rfl in_X11 (by decide) rfl w_345 dX11_run_28 ?_
    refine xx_cVv (As := []) (st := []) (o := 138) C 34 rfl (by decide) (ceX_138 _ _ _) rfl rfl ca_X3_keepBefore cv_X3_keepBefore w_407 rfl ⟨Nat.le_of_ble_eq_true rfl, Nat.le_of_ble_eq_true rfl⟩ ⟨Nat.le_of_ble_eq_true rfl, Nat.le_of_ble_eq_true rfl⟩ (Nat.le_of_ble_eq_true rfl) dX11_run_31 (fun μ31 e9 => c_X3_keepBefore _ μ31 e9) h (fun μ31 h => ?_) rfl
    refine xx_iconst C 35 rfl dX11_run_34 ?_
    refine xx_istore_n (lv1 := [(2, .int (iI 0)), (1, .int (iI v4)), (0, .ref (ad 132))]) C 36 rfl (by decide) dX11_run_35 rfl rfl ?_
    refine jn_r (fun J => ∀ (μ82 : mu_T), J μ82 = some (a, μr) → wx_ G X 151 ad (ceX G ad) μ82 0 0 82 [(0, .ref (ad 132))] []) h (fun μ82 h => ?_) (fun J82 K82 h => ?_)
    · refine xx_aload_n C 83 rfl 0 dX11_run_82 rfl rfl ?_
      refine xx_getr (fi := 5) C 86 rfl (by decide) (ceX_132 _ _ _) rfl in_X11 (by decide) rfl w_345 dX11_run_83 ?_
      refine xx_aload_n C 87 rfl 0 dX11_run_86 rfl rfl ?_
      refine xx_getr (fi := 6) C 90 rfl (by decide) (ceX_132 _ _ _) rfl in_X11 (by decide) rfl w_346 dX11_run_87 ?_
      refine xx_geti (fi := 5) (j := 5) C 93 rfl (by decide) (ceX_140 _ _ _) rfl in_X6 (by decide) rfl w_308 dX11_run_90 h (fun v90 h => ?_)
      refine xx_cVi (As := [.int (iI v90)]) (st := []) (o := 138) C 96 rfl (by decide) (ceX_138 _ _ _) rfl rfl ca_X3_settle cv_X3_settle w_443 rfl ⟨Nat.le_of_ble_eq_true rfl, Nat.le_of_ble_eq_true rfl⟩ ⟨Nat.le_of_ble_eq_true rfl, Nat.le_of_ble_eq_true rfl⟩ (Nat.le_of_ble_eq_true rfl) dX11_run_93 (fun v93 μ93 e9 => c_X3_settle _ _ v93 μ93 e9) h (fun v93 μ93 h => ?_) rfl
      exact xx_iret C E rfl ⟨Nat.le_of_ble_eq_true rfl, Nat.le_of_ble_eq_true rfl⟩ dX11_run_96 h
    · refine jn_r (fun J => ∀ (x2_58 : Int) (μ58 : mu_T), J x2_58 μ58 = some (a, μr) → wx_ G X 151 ad (ceX G ad) μ58 0 0 58 [(0, .ref (ad 132)), (2, .int (iI x2_58))] []) h (fun x2_58 μ58 h => ?_) (fun J58 K58 h => ?_)
      · refine xx_aload_n C 59 rfl 0 dX11_run_58 rfl rfl ?_
        refine xx_getr (fi := 5) C 62 rfl (by decide) (ceX_132 _ _ _) rfl in_X11 (by decide) rfl w_345 dX11_run_59 ?_
        refine xx_cVv (As := []) (st := []) (o := 138) C 65 rfl (by decide) (ceX_138 _ _ _) rfl rfl ca_X3_takeBack cv_X3_takeBack w_956 rfl ⟨Nat.le_of_ble_eq_true rfl, Nat.le_of_ble_eq_true rfl⟩ ⟨Nat.le_of_ble_eq_true rfl, Nat.le_of_ble_eq_true rfl⟩ (Nat.le_of_ble_eq_true rfl) dX11_run_62 (fun μ62 e9 => c_X3_takeBack _ μ62 e9) h (fun μ62 h => ?_) rfl
        refine xx_aload_n C 66 rfl 0 dX11_run_65 rfl rfl ?_
        refine xx_getr (fi := 1) C 69 rfl (by decide) (ceX_132 _ _ _) rfl in_X11 (by decide) rfl w_341 dX11_run_66 ?_
        refine xx_bipush C 71 rfl dX11_run_69 (by decide) ?_
        refine xx_iload_n C 72 rfl 1 dX11_run_71 rfl rfl ?_
        refine xx_cVi (As := [.int (iI 8), .int (iI x2_58)]) (st := []) (o := 133) C 75 rfl (by decide) (ceX_133 _ _ _) rfl rfl ca_X8_refuse cv_X8_refuse w_960 rfl ⟨Nat.le_of_ble_eq_true rfl, Nat.le_of_ble_eq_true rfl⟩ ⟨Nat.le_of_ble_eq_true rfl, Nat.le_of_ble_eq_true rfl⟩ (Nat.le_of_ble_eq_true rfl) dX11_run_72 (fun v72 μ72 e9 => c_X8_refuse _ _ _ v72 μ72 e9) h (fun v72 μ72 h => ?_) rfl
        exact xx_iret C E rfl ⟨Nat.le_of_ble_eq_true rfl, Nat.le_of_ble_eq_true rfl⟩ dX11_run_75 h
      · have L36 : ∀ (fu36 : Nat) (x2_36 : Int) (μ36 : mu_T), f_X11_run_L36 J58 J82 fu36 x2_36 μ36 = some (a, μr) → wx_ G X 151 ad (ceX G ad) μ36 0 0 36 [(0, .ref (ad 132)), (2, .int (iI x2_36))] [] := by
          intro fu36
          induction fu36 with
          | zero => intro x2_36 μ36 h; exact nn_ h
          | succ fu36 K36 =>
            intro x2_36 μ36 h
            rw [f_X11_run_L36] at h
            generalize f_X11_run_L36 J58 J82 fu36 = R36 at K36 h
            refine xx_iload_n C 37 rfl 1 dX11_run_36 rfl rfl ?_
            refine xx_aload_n C 38 rfl 0 dX11_run_37 rfl rfl ?_
            refine xx_getr (fi := 6) C 41 rfl (by decide) (ceX_132 _ _ _) rfl in_X11 (by decide) rfl w_346 dX11_run_38 ?_
            refine xx_geti (fi := 5) (j := 5) C 44 rfl (by decide) (ceX_140 _ _ _) rfl in_X6 (by decide) rfl w_308 dX11_run_41 h (fun v41 h => ?_)
            refine xx_icmp_ge (tgt := 82) C 47 rfl dX11_run_44 (by decide) h (fun h => ?_) (fun h => ?_)
            · refine xx_sub [0] rfl ?_
              exact K82 μ36 h
            · refine xx_aload_n C 48 rfl 0 dX11_run_47 rfl rfl ?_
              refine xx_iload_n C 49 rfl 1 dX11_run_48 rfl rfl ?_
              refine xx_cVi (As := [.int (iI x2_36)]) (st := []) (o := 132) C 52 rfl (by decide) (ceX_132 _ _ _) rfl rfl ca_X11_carryOut cv_X11_carryOut w_939 rfl ⟨Nat.le_of_ble_eq_true rfl, Nat.le_of_ble_eq_true rfl⟩ ⟨Nat.le_of_ble_eq_true rfl, Nat.le_of_ble_eq_true rfl⟩ (Nat.le_of_ble_eq_true rfl) dX11_run_49 (fun v49 μ49 e9 => c_X11_carryOut _ _ v49 μ49 e9) h (fun v49 μ49 h => ?_) rfl
              refine xx_cSip (As := [.int (iI v49)]) (st := []) C 55 rfl  ca_X3_isRefusal cs_X3_isRefusal w_955 rfl ⟨Nat.le_of_ble_eq_true rfl, Nat.le_of_ble_eq_true rfl⟩ ⟨Nat.le_of_ble_eq_true rfl, Nat.le_of_ble_eq_true rfl⟩ (Nat.le_of_ble_eq_true rfl) dX11_run_52 (fun v52 e9 => c_X3_isRefusal _ _ v52 e9) h (fun v52 h => ?_) rfl
              refine xx_if_eq (tgt := 76) C 58 rfl dX11_run_55 (by decide) h (fun h => ?_) (fun h => ?_)
              · refine xx_iincn C 79 rfl 1 (by decide) dX11_run_76 rfl h (fun n76 h => ?_)
                refine xx_lv (lv1 := [(2, .int (iI n76)), (0, .ref (ad 132))]) rfl ?_
                refine xx_goto C 36 dX11_run_79 (by decide) ?_
                refine xx_sub [1, 0] rfl ?_
                exact K36 n76 μ49 h
              · exact K58 x2_36 μ49 h
        refine xx_sub [2, 0] rfl ?_
        exact L36 _ _ _ h
  · refine xx_sipush C 24 rfl dX11_run_21 (by decide) ?_
    refine xx_iload_n C 25 rfl 0 dX11_run_24 rfl rfl ?_
    refine xx_isub C 26 rfl dX11_run_25 ?_
    exact xx_iret C E rfl ⟨Nat.le_of_ble_eq_true rfl, Nat.le_of_ble_eq_true rfl⟩ dX11_run_26 h

def f_X11_account (μ : mu_T) (a1 : Int) : Option Int :=
  ts_ a1 [0, 1, 2, 3, 4, 5, 6, 7, 8, 9, 10, 11, 12, 13, 14, 15] [nm_ (μ 0 11) (fun v84 => some v84),
      nm_ (μ 0 9) (fun v92 => some v92),
      nm_ (μ 0 10) (fun v100 => some v100),
      bd_ (f_X2_urns μ) (fun v108 => some v108),
      bd_ (f_X2_urnsOf μ 0) (fun v117 => some v117),
      bd_ (f_X2_urnsOf μ 1) (fun v126 => some v126),
      bd_ (f_X2_urnsOf μ 2) (fun v135 => some v135),
      nm_ (μ 0 12) (fun v143 => some v143),
      nm_ (μ 0 13) (fun v151 => some v151),
      nm_ (μ 10 1) (fun v162 => some v162),
      nm_ (μ 0 14) (fun v170 => some v170),
      nm_ (μ 0 15) (fun v178 => some v178),
      bd_ (f_X2_namesInUse μ) (fun v186 => some v186),
      nm_ (μ 0 16) (fun v194 => some v194),
      bd_ (f_X6_signs μ) (fun v202 => some v202),
      nm_ (μ 138 5) (fun v210 => some v210)]
      (some (-12))
set_option maxHeartbeats 4000000 in
set_option maxRecDepth 100000 in
theorem c_X11_account {G : gp_} {ad : Nat → Nat} (μ : mu_T) (a1 : Int) (a : Int) (h : f_X11_account μ a1 = some a) : mi_ yX11_account cX11_account 2 (some .int) ({ frames := 3, cells := 0, slots := 0, locals := 60 } : Room) G 151 ad (ceX G ad) [.ref (ad 132), .int (iI a1)] μ a μ := by
  refine mi_in (own := "UrnHeap") (lv := [(0, .ref (ad 132)), (1, .int (iI a1))]) (by decide) rfl rfl (Nat.le_of_ble_eq_true rfl) (fun X C E => ?_)
  unfold f_X11_account at h
  refine xx_iload_n C 1 rfl 1 dX11_account_0 rfl rfl ?_
  refine xx_tsw C [0, 1, 2, 3, 4, 5, 6, 7, 8, 9, 10, 11, 12, 13, 14, 15] _ [80, 88, 96, 104, 112, 121, 130, 139, 147, 155, 166, 174, 182, 190, 198, 206] 214 dX11_account_1 (by decide) rfl h (fun h => ?_) ⟨fun h => ?_, fun h => ?_, fun h => ?_, fun h => ?_, fun h => ?_, fun h => ?_, fun h => ?_, fun h => ?_, fun h => ?_, fun h => ?_, fun h => ?_, fun h => ?_, fun h => ?_, fun h => ?_, fun h => ?_, fun h => ?_, trivial⟩
  · refine xx_bipush C 216 rfl dX11_account_214 (by decide) ?_
    exact xx_iretp C E rfl ⟨Nat.le_of_ble_eq_true rfl, Nat.le_of_ble_eq_true rfl⟩ dX11_account_216 h
  · refine xx_aload_n C 81 rfl 0 dX11_account_80 rfl rfl ?_
    refine xx_getr (fi := 0) C 84 rfl (by decide) (ceX_132 _ _ _) rfl in_X11 (by decide) rfl w_340 dX11_account_81 ?_
    refine xx_geti (fi := 11) (j := 11) C 87 rfl (by decide) (ceX_0 _ _ _) rfl in_X2 (by decide) rfl w_125 dX11_account_84 h (fun v84 h => ?_)
    exact xx_iretp C E rfl ⟨Nat.le_of_ble_eq_true rfl, Nat.le_of_ble_eq_true rfl⟩ dX11_account_87 h
  · refine xx_aload_n C 89 rfl 0 dX11_account_88 rfl rfl ?_
    refine xx_getr (fi := 0) C 92 rfl (by decide) (ceX_132 _ _ _) rfl in_X11 (by decide) rfl w_340 dX11_account_89 ?_
    refine xx_geti (fi := 9) (j := 9) C 95 rfl (by decide) (ceX_0 _ _ _) rfl in_X2 (by decide) rfl w_117 dX11_account_92 h (fun v92 h => ?_)
    exact xx_iretp C E rfl ⟨Nat.le_of_ble_eq_true rfl, Nat.le_of_ble_eq_true rfl⟩ dX11_account_95 h
  · refine xx_aload_n C 97 rfl 0 dX11_account_96 rfl rfl ?_
    refine xx_getr (fi := 0) C 100 rfl (by decide) (ceX_132 _ _ _) rfl in_X11 (by decide) rfl w_340 dX11_account_97 ?_
    refine xx_geti (fi := 10) (j := 10) C 103 rfl (by decide) (ceX_0 _ _ _) rfl in_X2 (by decide) rfl w_121 dX11_account_100 h (fun v100 h => ?_)
    exact xx_iretp C E rfl ⟨Nat.le_of_ble_eq_true rfl, Nat.le_of_ble_eq_true rfl⟩ dX11_account_103 h
  · refine xx_aload_n C 105 rfl 0 dX11_account_104 rfl rfl ?_
    refine xx_getr (fi := 0) C 108 rfl (by decide) (ceX_132 _ _ _) rfl in_X11 (by decide) rfl w_340 dX11_account_105 ?_
    refine xx_cVip (As := []) (st := []) (o := 0) C 111 rfl (by decide) (ceX_0 _ _ _) rfl rfl ca_X2_urns cv_X2_urns w_369 rfl ⟨Nat.le_of_ble_eq_true rfl, Nat.le_of_ble_eq_true rfl⟩ ⟨Nat.le_of_ble_eq_true rfl, Nat.le_of_ble_eq_true rfl⟩ (Nat.le_of_ble_eq_true rfl) dX11_account_108 (fun v108 e9 => c_X2_urns _ v108 e9) h (fun v108 h => ?_) rfl
    exact xx_iretp C E rfl ⟨Nat.le_of_ble_eq_true rfl, Nat.le_of_ble_eq_true rfl⟩ dX11_account_111 h
  · refine xx_aload_n C 113 rfl 0 dX11_account_112 rfl rfl ?_
    refine xx_getr (fi := 0) C 116 rfl (by decide) (ceX_132 _ _ _) rfl in_X11 (by decide) rfl w_340 dX11_account_113 ?_
    refine xx_iconst C 117 rfl dX11_account_116 ?_
    refine xx_cVip (As := [.int (iI 0)]) (st := []) (o := 0) C 120 rfl (by decide) (ceX_0 _ _ _) rfl rfl ca_X2_urnsOf cv_X2_urnsOf w_377 rfl ⟨Nat.le_of_ble_eq_true rfl, Nat.le_of_ble_eq_true rfl⟩ ⟨Nat.le_of_ble_eq_true rfl, Nat.le_of_ble_eq_true rfl⟩ (Nat.le_of_ble_eq_true rfl) dX11_account_117 (fun v117 e9 => c_X2_urnsOf _ _ v117 e9) h (fun v117 h => ?_) rfl
    exact xx_iretp C E rfl ⟨Nat.le_of_ble_eq_true rfl, Nat.le_of_ble_eq_true rfl⟩ dX11_account_120 h
  · refine xx_aload_n C 122 rfl 0 dX11_account_121 rfl rfl ?_
    refine xx_getr (fi := 0) C 125 rfl (by decide) (ceX_132 _ _ _) rfl in_X11 (by decide) rfl w_340 dX11_account_122 ?_
    refine xx_iconst C 126 rfl dX11_account_125 ?_
    refine xx_cVip (As := [.int (iI 1)]) (st := []) (o := 0) C 129 rfl (by decide) (ceX_0 _ _ _) rfl rfl ca_X2_urnsOf cv_X2_urnsOf w_377 rfl ⟨Nat.le_of_ble_eq_true rfl, Nat.le_of_ble_eq_true rfl⟩ ⟨Nat.le_of_ble_eq_true rfl, Nat.le_of_ble_eq_true rfl⟩ (Nat.le_of_ble_eq_true rfl) dX11_account_126 (fun v126 e9 => c_X2_urnsOf _ _ v126 e9) h (fun v126 h => ?_) rfl
    exact xx_iretp C E rfl ⟨Nat.le_of_ble_eq_true rfl, Nat.le_of_ble_eq_true rfl⟩ dX11_account_129 h
  · refine xx_aload_n C 131 rfl 0 dX11_account_130 rfl rfl ?_
    refine xx_getr (fi := 0) C 134 rfl (by decide) (ceX_132 _ _ _) rfl in_X11 (by decide) rfl w_340 dX11_account_131 ?_
    refine xx_iconst C 135 rfl dX11_account_134 ?_
    refine xx_cVip (As := [.int (iI 2)]) (st := []) (o := 0) C 138 rfl (by decide) (ceX_0 _ _ _) rfl rfl ca_X2_urnsOf cv_X2_urnsOf w_377 rfl ⟨Nat.le_of_ble_eq_true rfl, Nat.le_of_ble_eq_true rfl⟩ ⟨Nat.le_of_ble_eq_true rfl, Nat.le_of_ble_eq_true rfl⟩ (Nat.le_of_ble_eq_true rfl) dX11_account_135 (fun v135 e9 => c_X2_urnsOf _ _ v135 e9) h (fun v135 h => ?_) rfl
    exact xx_iretp C E rfl ⟨Nat.le_of_ble_eq_true rfl, Nat.le_of_ble_eq_true rfl⟩ dX11_account_138 h
  · refine xx_aload_n C 140 rfl 0 dX11_account_139 rfl rfl ?_
    refine xx_getr (fi := 0) C 143 rfl (by decide) (ceX_132 _ _ _) rfl in_X11 (by decide) rfl w_340 dX11_account_140 ?_
    refine xx_geti (fi := 12) (j := 12) C 146 rfl (by decide) (ceX_0 _ _ _) rfl in_X2 (by decide) rfl w_128 dX11_account_143 h (fun v143 h => ?_)
    exact xx_iretp C E rfl ⟨Nat.le_of_ble_eq_true rfl, Nat.le_of_ble_eq_true rfl⟩ dX11_account_146 h
  · refine xx_aload_n C 148 rfl 0 dX11_account_147 rfl rfl ?_
    refine xx_getr (fi := 0) C 151 rfl (by decide) (ceX_132 _ _ _) rfl in_X11 (by decide) rfl w_340 dX11_account_148 ?_
    refine xx_geti (fi := 13) (j := 13) C 154 rfl (by decide) (ceX_0 _ _ _) rfl in_X2 (by decide) rfl w_131 dX11_account_151 h (fun v151 h => ?_)
    exact xx_iretp C E rfl ⟨Nat.le_of_ble_eq_true rfl, Nat.le_of_ble_eq_true rfl⟩ dX11_account_154 h
  · refine xx_aload_n C 156 rfl 0 dX11_account_155 rfl rfl ?_
    refine xx_getr (fi := 0) C 159 rfl (by decide) (ceX_132 _ _ _) rfl in_X11 (by decide) rfl w_340 dX11_account_156 ?_
    refine xx_getr (fi := 8) C 162 rfl (by decide) (ceX_0 _ _ _) rfl in_X2 (by decide) rfl w_113 dX11_account_159 ?_
    refine xx_geti (fi := 1) (j := 1) C 165 rfl (by decide) (ceX_10 _ _ _) rfl in_X9 (by decide) rfl w_73 dX11_account_162 h (fun v162 h => ?_)
    exact xx_iretp C E rfl ⟨Nat.le_of_ble_eq_true rfl, Nat.le_of_ble_eq_true rfl⟩ dX11_account_165 h
  · refine xx_aload_n C 167 rfl 0 dX11_account_166 rfl rfl ?_
    refine xx_getr (fi := 0) C 170 rfl (by decide) (ceX_132 _ _ _) rfl in_X11 (by decide) rfl w_340 dX11_account_167 ?_
    refine xx_geti (fi := 14) (j := 14) C 173 rfl (by decide) (ceX_0 _ _ _) rfl in_X2 (by decide) rfl w_134 dX11_account_170 h (fun v170 h => ?_)
    exact xx_iretp C E rfl ⟨Nat.le_of_ble_eq_true rfl, Nat.le_of_ble_eq_true rfl⟩ dX11_account_173 h
  · refine xx_aload_n C 175 rfl 0 dX11_account_174 rfl rfl ?_
    refine xx_getr (fi := 0) C 178 rfl (by decide) (ceX_132 _ _ _) rfl in_X11 (by decide) rfl w_340 dX11_account_175 ?_
    refine xx_geti (fi := 15) (j := 15) C 181 rfl (by decide) (ceX_0 _ _ _) rfl in_X2 (by decide) rfl w_137 dX11_account_178 h (fun v178 h => ?_)
    exact xx_iretp C E rfl ⟨Nat.le_of_ble_eq_true rfl, Nat.le_of_ble_eq_true rfl⟩ dX11_account_181 h
  · refine xx_aload_n C 183 rfl 0 dX11_account_182 rfl rfl ?_
    refine xx_getr (fi := 0) C 186 rfl (by decide) (ceX_132 _ _ _) rfl in_X11 (by decide) rfl w_340 dX11_account_183 ?_
    refine xx_cVip (As := []) (st := []) (o := 0) C 189 rfl (by decide) (ceX_0 _ _ _) rfl rfl ca_X2_namesInUse cv_X2_namesInUse w_378 rfl ⟨Nat.le_of_ble_eq_true rfl, Nat.le_of_ble_eq_true rfl⟩ ⟨Nat.le_of_ble_eq_true rfl, Nat.le_of_ble_eq_true rfl⟩ (Nat.le_of_ble_eq_true rfl) dX11_account_186 (fun v186 e9 => c_X2_namesInUse _ v186 e9) h (fun v186 h => ?_) rfl
    exact xx_iretp C E rfl ⟨Nat.le_of_ble_eq_true rfl, Nat.le_of_ble_eq_true rfl⟩ dX11_account_189 h
  · refine xx_aload_n C 191 rfl 0 dX11_account_190 rfl rfl ?_
    refine xx_getr (fi := 0) C 194 rfl (by decide) (ceX_132 _ _ _) rfl in_X11 (by decide) rfl w_340 dX11_account_191 ?_
    refine xx_geti (fi := 16) (j := 16) C 197 rfl (by decide) (ceX_0 _ _ _) rfl in_X2 (by decide) rfl w_140 dX11_account_194 h (fun v194 h => ?_)
    exact xx_iretp C E rfl ⟨Nat.le_of_ble_eq_true rfl, Nat.le_of_ble_eq_true rfl⟩ dX11_account_197 h
  · refine xx_aload_n C 199 rfl 0 dX11_account_198 rfl rfl ?_
    refine xx_getr (fi := 6) C 202 rfl (by decide) (ceX_132 _ _ _) rfl in_X11 (by decide) rfl w_346 dX11_account_199 ?_
    refine xx_cVip (As := []) (st := []) (o := 140) C 205 rfl (by decide) (ceX_140 _ _ _) rfl rfl ca_X6_signs cv_X6_signs w_382 rfl ⟨Nat.le_of_ble_eq_true rfl, Nat.le_of_ble_eq_true rfl⟩ ⟨Nat.le_of_ble_eq_true rfl, Nat.le_of_ble_eq_true rfl⟩ (Nat.le_of_ble_eq_true rfl) dX11_account_202 (fun v202 e9 => c_X6_signs _ v202 e9) h (fun v202 h => ?_) rfl
    exact xx_iretp C E rfl ⟨Nat.le_of_ble_eq_true rfl, Nat.le_of_ble_eq_true rfl⟩ dX11_account_205 h
  · refine xx_aload_n C 207 rfl 0 dX11_account_206 rfl rfl ?_
    refine xx_getr (fi := 5) C 210 rfl (by decide) (ceX_132 _ _ _) rfl in_X11 (by decide) rfl w_345 dX11_account_207 ?_
    refine xx_geti (fi := 5) (j := 5) C 213 rfl (by decide) (ceX_138 _ _ _) rfl in_X3 (by decide) rfl w_243 dX11_account_210 h (fun v210 h => ?_)
    exact xx_iretp C E rfl ⟨Nat.le_of_ble_eq_true rfl, Nat.le_of_ble_eq_true rfl⟩ dX11_account_213 h

