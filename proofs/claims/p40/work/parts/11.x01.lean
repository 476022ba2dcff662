theorem dX8_refuse_0 : decode cX8_refuse 0 = .ok (.aload_n 0, 1) := by decide +kernel
theorem dX8_refuse_1 : decode cX8_refuse 1 = .ok (.iload_n 1, 1) := by decide +kernel
theorem dX8_refuse_2 : decode cX8_refuse 2 = .ok (.putfield 9, 3) := by decide +kernel
theorem dX8_refuse_5 : decode cX8_refuse 5 = .ok (.aload_n 0, 1) := by decide +kernel
theorem dX8_refuse_6 : decode cX8_refuse 6 = .ok (.iload_n 2, 1) := by decide +kernel
theorem dX8_refuse_7 : decode cX8_refuse 7 = .ok (.putfield 15, 3) := by decide +kernel
theorem dX8_refuse_10 : decode cX8_refuse 10 = .ok (.bipush (-14), 2) := by decide +kernel
theorem dX8_refuse_12 : decode cX8_refuse 12 = .ok (.ireturn, 1) := by decide +kernel
theorem dX1_colourOfNew_0 : decode cX1_colourOfNew 0 = .ok (.aload_n 0, 1) := by decide +kernel
theorem dX1_colourOfNew_1 : decode cX1_colourOfNew 1 = .ok (.getfield 9, 3) := by decide +kernel
theorem dX1_colourOfNew_4 : decode cX1_colourOfNew 4 = .ok (.getfield 52, 3) := by decide +kernel
theorem dX1_colourOfNew_7 : decode cX1_colourOfNew 7 = .ok (.iconst 2, 1) := by decide +kernel
theorem dX1_colourOfNew_8 : decode cX1_colourOfNew 8 = .ok (.if_icmp .ne 18, 3) := by decide +kernel
theorem dX1_colourOfNew_11 : decode cX1_colourOfNew 11 = .ok (.iload_n 1, 1) := by decide +kernel
theorem dX1_colourOfNew_12 : decode cX1_colourOfNew 12 = .ok (.aload_n 0, 1) := by decide +kernel
theorem dX1_colourOfNew_13 : decode cX1_colourOfNew 13 = .ok (.getfield 9, 3) := by decide +kernel
theorem dX1_colourOfNew_16 : decode cX1_colourOfNew 16 = .ok (.getfield 55, 3) := by decide +kernel
theorem dX1_colourOfNew_19 : decode cX1_colourOfNew 19 = .ok (.if_icmp .lt 7, 3) := by decide +kernel
theorem dX1_colourOfNew_22 : decode cX1_colourOfNew 22 = .ok (.iconst 1, 1) := by decide +kernel
theorem dX1_colourOfNew_23 : decode cX1_colourOfNew 23 = .ok (.goto 4, 3) := by decide +kernel
theorem dX1_colourOfNew_26 : decode cX1_colourOfNew 26 = .ok (.iconst 0, 1) := by decide +kernel
theorem dX1_colourOfNew_27 : decode cX1_colourOfNew 27 = .ok (.istore_n 2, 1) := by decide +kernel
theorem dX1_colourOfNew_28 : decode cX1_colourOfNew 28 = .ok (.aload_n 0, 1) := by decide +kernel
theorem dX1_colourOfNew_29 : decode cX1_colourOfNew 29 = .ok (.getfield 9, 3) := by decide +kernel
theorem dX1_colourOfNew_32 : decode cX1_colourOfNew 32 = .ok (.getfield 52, 3) := by decide +kernel
theorem dX1_colourOfNew_35 : decode cX1_colourOfNew 35 = .ok (.iconst 1, 1) := by decide +kernel
theorem dX1_colourOfNew_36 : decode cX1_colourOfNew 36 = .ok (.if_icmp .eq 7, 3) := by decide +kernel
theorem dX1_colourOfNew_39 : decode cX1_colourOfNew 39 = .ok (.iload_n 2, 1) := by decide +kernel
theorem dX1_colourOfNew_40 : decode cX1_colourOfNew 40 = .ok (.ifCond .eq 7, 3) := by decide +kernel
theorem dX1_colourOfNew_43 : decode cX1_colourOfNew 43 = .ok (.iconst 2, 1) := by decide +kernel
theorem dX1_colourOfNew_44 : decode cX1_colourOfNew 44 = .ok (.goto 4, 3) := by decide +kernel
theorem dX1_colourOfNew_47 : decode cX1_colourOfNew 47 = .ok (.iconst 0, 1) := by decide +kernel
theorem dX1_colourOfNew_48 : decode cX1_colourOfNew 48 = .ok (.ireturn, 1) := by decide +kernel
theorem dX2_hasUrn_0 : decode cX2_hasUrn 0 = .ok (.iload_n 1, 1) := by decide +kernel
theorem dX2_hasUrn_1 : decode cX2_hasUrn 1 = .ok (.ifCond .lt 23, 3) := by decide +kernel
theorem dX2_hasUrn_4 : decode cX2_hasUrn 4 = .ok (.iload_n 1, 1) := by decide +kernel
theorem dX2_hasUrn_5 : decode cX2_hasUrn 5 = .ok (.bipush 24, 2) := by decide +kernel
theorem dX2_hasUrn_7 : decode cX2_hasUrn 7 = .ok (.if_icmp .ge 17, 3) := by decide +kernel
theorem dX2_hasUrn_10 : decode cX2_hasUrn 10 = .ok (.aload_n 0, 1) := by decide +kernel
theorem dX2_hasUrn_11 : decode cX2_hasUrn 11 = .ok (.getfield 21, 3) := by decide +kernel
theorem dX2_hasUrn_14 : decode cX2_hasUrn 14 = .ok (.iload_n 1, 1) := by decide +kernel
theorem dX2_hasUrn_15 : decode cX2_hasUrn 15 = .ok (.iaload, 1) := by decide +kernel
theorem dX2_hasUrn_16 : decode cX2_hasUrn 16 = .ok (.iconst (-1), 1) := by decide +kernel
theorem dX2_hasUrn_17 : decode cX2_hasUrn 17 = .ok (.if_icmp .eq 7, 3) := by decide +kernel
theorem dX2_hasUrn_20 : decode cX2_hasUrn 20 = .ok (.iconst 1, 1) := by decide +kernel
theorem dX2_hasUrn_21 : decode cX2_hasUrn 21 = .ok (.goto 4, 3) := by decide +kernel
theorem dX2_hasUrn_24 : decode cX2_hasUrn 24 = .ok (.iconst 0, 1) := by decide +kernel
theorem dX2_hasUrn_25 : decode cX2_hasUrn 25 = .ok (.ireturn, 1) := by decide +kernel
theorem dX1_makeUrn_0 : decode cX1_makeUrn 0 = .ok (.iconst 0, 1) := by decide +kernel
theorem dX1_makeUrn_1 : decode cX1_makeUrn 1 = .ok (.istore_n 2, 1) := by decide +kernel
theorem dX1_makeUrn_2 : decode cX1_makeUrn 2 = .ok (.iload_n 2, 1) := by decide +kernel
theorem dX1_makeUrn_3 : decode cX1_makeUrn 3 = .ok (.bipush 24, 2) := by decide +kernel
theorem dX1_makeUrn_5 : decode cX1_makeUrn 5 = .ok (.if_icmp .ge 83, 3) := by decide +kernel
theorem dX1_makeUrn_8 : decode cX1_makeUrn 8 = .ok (.aload_n 0, 1) := by decide +kernel
theorem dX1_makeUrn_9 : decode cX1_makeUrn 9 = .ok (.getfield 9, 3) := by decide +kernel
theorem dX1_makeUrn_12 : decode cX1_makeUrn 12 = .ok (.iload_n 2, 1) := by decide +kernel
theorem dX1_makeUrn_13 : decode cX1_makeUrn 13 = .ok (.invokevirtual 19, 3) := by decide +kernel
theorem dX1_makeUrn_16 : decode cX1_makeUrn 16 = .ok (.ifCond .ne 66, 3) := by decide +kernel
theorem dX1_makeUrn_19 : decode cX1_makeUrn 19 = .ok (.aload_n 0, 1) := by decide +kernel
theorem dX1_makeUrn_20 : decode cX1_makeUrn 20 = .ok (.getfield 9, 3) := by decide +kernel
theorem dX1_makeUrn_23 : decode cX1_makeUrn 23 = .ok (.getfield 25, 3) := by decide +kernel
theorem dX1_makeUrn_26 : decode cX1_makeUrn 26 = .ok (.iload_n 2, 1) := by decide +kernel
theorem dX1_makeUrn_27 : decode cX1_makeUrn 27 = .ok (.aload_n 0, 1) := by decide +kernel
theorem dX1_makeUrn_28 : decode cX1_makeUrn 28 = .ok (.iload_n 2, 1) := by decide +kernel
theorem dX1_makeUrn_29 : decode cX1_makeUrn 29 = .ok (.invokevirtual 29, 3) := by decide +kernel
theorem dX1_makeUrn_32 : decode cX1_makeUrn 32 = .ok (.iastore, 1) := by decide +kernel
theorem dX1_makeUrn_33 : decode cX1_makeUrn 33 = .ok (.aload_n 0, 1) := by decide +kernel
theorem dX1_makeUrn_34 : decode cX1_makeUrn 34 = .ok (.getfield 9, 3) := by decide +kernel
theorem dX1_makeUrn_37 : decode cX1_makeUrn 37 = .ok (.getfield 33, 3) := by decide +kernel
theorem dX1_makeUrn_40 : decode cX1_makeUrn 40 = .ok (.iload_n 2, 1) := by decide +kernel
theorem dX1_makeUrn_41 : decode cX1_makeUrn 41 = .ok (.iload_n 1, 1) := by decide +kernel
theorem dX1_makeUrn_42 : decode cX1_makeUrn 42 = .ok (.ifCond .eq 7, 3) := by decide +kernel
theorem dX1_makeUrn_45 : decode cX1_makeUrn 45 = .ok (.iconst 1, 1) := by decide +kernel
theorem dX1_makeUrn_46 : decode cX1_makeUrn 46 = .ok (.goto 4, 3) := by decide +kernel
theorem dX1_makeUrn_49 : decode cX1_makeUrn 49 = .ok (.iconst 0, 1) := by decide +kernel
theorem dX1_makeUrn_50 : decode cX1_makeUrn 50 = .ok (.iastore, 1) := by decide +kernel
theorem dX1_makeUrn_51 : decode cX1_makeUrn 51 = .ok (.aload_n 0, 1) := by decide +kernel
theorem dX1_makeUrn_52 : decode cX1_makeUrn 52 = .ok (.getfield 9, 3) := by decide +kernel
theorem dX1_makeUrn_55 : decode cX1_makeUrn 55 = .ok (.getfield 36, 3) := by decide +kernel
theorem dX1_makeUrn_58 : decode cX1_makeUrn 58 = .ok (.iload_n 2, 1) := by decide +kernel
theorem dX1_makeUrn_59 : decode cX1_makeUrn 59 = .ok (.aload_n 0, 1) := by decide +kernel
theorem dX1_makeUrn_60 : decode cX1_makeUrn 60 = .ok (.getfield 9, 3) := by decide +kernel
theorem dX1_makeUrn_63 : decode cX1_makeUrn 63 = .ok (.getfield 39, 3) := by decide +kernel
theorem dX1_makeUrn_66 : decode cX1_makeUrn 66 = .ok (.iastore, 1) := by decide +kernel
theorem dX1_makeUrn_67 : decode cX1_makeUrn 67 = .ok (.aload_n 0, 1) := by decide +kernel
theorem dX1_makeUrn_68 : decode cX1_makeUrn 68 = .ok (.getfield 9, 3) := by decide +kernel
theorem dX1_makeUrn_71 : decode cX1_makeUrn 71 = .ok (.dup, 1) := by decide +kernel
theorem dX1_makeUrn_72 : decode cX1_makeUrn 72 = .ok (.getfield 43, 3) := by decide +kernel
theorem dX1_makeUrn_75 : decode cX1_makeUrn 75 = .ok (.iconst 1, 1) := by decide +kernel
theorem dX1_makeUrn_76 : decode cX1_makeUrn 76 = .ok (.iadd, 1) := by decide +kernel
theorem dX1_makeUrn_77 : decode cX1_makeUrn 77 = .ok (.putfield 43, 3) := by decide +kernel
theorem dX1_makeUrn_80 : decode cX1_makeUrn 80 = .ok (.iload_n 2, 1) := by decide +kernel
theorem dX1_makeUrn_81 : decode cX1_makeUrn 81 = .ok (.ireturn, 1) := by decide +kernel
theorem dX1_makeUrn_82 : decode cX1_makeUrn 82 = .ok (.iinc 2 1, 3) := by decide +kernel
theorem dX1_makeUrn_85 : decode cX1_makeUrn 85 = .ok (.goto (-83), 3) := by decide +kernel
theorem dX1_makeUrn_88 : decode cX1_makeUrn 88 = .ok (.aload_n 0, 1) := by decide +kernel
theorem dX1_makeUrn_89 : decode cX1_makeUrn 89 = .ok (.getfield 15, 3) := by decide +kernel
theorem dX1_makeUrn_92 : decode cX1_makeUrn 92 = .ok (.iconst 1, 1) := by decide +kernel
theorem dX1_makeUrn_93 : decode cX1_makeUrn 93 = .ok (.bipush 24, 2) := by decide +kernel
theorem dX1_makeUrn_95 : decode cX1_makeUrn 95 = .ok (.invokevirtual 46, 3) := by decide +kernel
theorem dX1_makeUrn_98 : decode cX1_makeUrn 98 = .ok (.ireturn, 1) := by decide +kernel
theorem dX11_isSlot_0 : decode cX11_isSlot 0 = .ok (.iload_n 0, 1) := by decide +kernel
theorem dX11_isSlot_1 : decode cX11_isSlot 1 = .ok (.ifCond .lt 12, 3) := by decide +kernel
theorem dX11_isSlot_4 : decode cX11_isSlot 4 = .ok (.iload_n 0, 1) := by decide +kernel
theorem dX11_isSlot_5 : decode cX11_isSlot 5 = .ok (.iconst 4, 1) := by decide +kernel
theorem dX11_isSlot_6 : decode cX11_isSlot 6 = .ok (.if_icmp .ge 7, 3) := by decide +kernel
theorem dX11_isSlot_9 : decode cX11_isSlot 9 = .ok (.iconst 1, 1) := by decide +kernel
theorem dX11_isSlot_10 : decode cX11_isSlot 10 = .ok (.goto 4, 3) := by decide +kernel
theorem dX11_isSlot_13 : decode cX11_isSlot 13 = .ok (.iconst 0, 1) := by decide +kernel
theorem dX11_isSlot_14 : decode cX11_isSlot 14 = .ok (.ireturn, 1) := by decide +kernel
theorem dX2_isWhite_0 : decode cX2_isWhite 0 = .ok (.iload_n 1, 1) := by decide +kernel
theorem dX2_isWhite_1 : decode cX2_isWhite 1 = .ok (.ifCond .lt 22, 3) := by decide +kernel
theorem dX2_isWhite_4 : decode cX2_isWhite 4 = .ok (.iload_n 1, 1) := by decide +kernel
theorem dX2_isWhite_5 : decode cX2_isWhite 5 = .ok (.bipush 24, 2) := by decide +kernel
theorem dX2_isWhite_7 : decode cX2_isWhite 7 = .ok (.if_icmp .ge 16, 3) := by decide +kernel
theorem dX2_isWhite_10 : decode cX2_isWhite 10 = .ok (.aload_n 0, 1) := by decide +kernel
theorem dX2_isWhite_11 : decode cX2_isWhite 11 = .ok (.getfield 21, 3) := by decide +kernel
theorem dX2_isWhite_14 : decode cX2_isWhite 14 = .ok (.iload_n 1, 1) := by decide +kernel
theorem dX2_isWhite_15 : decode cX2_isWhite 15 = .ok (.iaload, 1) := by decide +kernel
theorem dX2_isWhite_16 : decode cX2_isWhite 16 = .ok (.ifCond .ne 7, 3) := by decide +kernel
theorem dX2_isWhite_19 : decode cX2_isWhite 19 = .ok (.iconst 1, 1) := by decide +kernel
theorem dX2_isWhite_20 : decode cX2_isWhite 20 = .ok (.goto 4, 3) := by decide +kernel
theorem dX2_isWhite_23 : decode cX2_isWhite 23 = .ok (.iconst 0, 1) := by decide +kernel
theorem dX2_isWhite_24 : decode cX2_isWhite 24 = .ok (.ireturn, 1) := by decide +kernel
theorem dX2_isToBeSwept_0 : decode cX2_isToBeSwept 0 = .ok (.aload_n 0, 1) := by decide +kernel
theorem dX2_isToBeSwept_1 : decode cX2_isToBeSwept 1 = .ok (.getfield 43, 3) := by decide +kernel
theorem dX2_isToBeSwept_4 : decode cX2_isToBeSwept 4 = .ok (.iconst 2, 1) := by decide +kernel
theorem dX2_isToBeSwept_5 : decode cX2_isToBeSwept 5 = .ok (.if_icmp .ne 23, 3) := by decide +kernel
theorem dX2_isToBeSwept_8 : decode cX2_isToBeSwept 8 = .ok (.aload_n 0, 1) := by decide +kernel
theorem dX2_isToBeSwept_9 : decode cX2_isToBeSwept 9 = .ok (.iload_n 1, 1) := by decide +kernel
theorem dX2_isToBeSwept_10 : decode cX2_isToBeSwept 10 = .ok (.invokevirtual 84, 3) := by decide +kernel
theorem dX2_isToBeSwept_13 : decode cX2_isToBeSwept 13 = .ok (.ifCond .eq 15, 3) := by decide +kernel
theorem dX2_isToBeSwept_16 : decode cX2_isToBeSwept 16 = .ok (.iload_n 1, 1) := by decide +kernel
theorem dX2_isToBeSwept_17 : decode cX2_isToBeSwept 17 = .ok (.aload_n 0, 1) := by decide +kernel
theorem dX2_isToBeSwept_18 : decode cX2_isToBeSwept 18 = .ok (.getfield 47, 3) := by decide +kernel
theorem dX2_isToBeSwept_21 : decode cX2_isToBeSwept 21 = .ok (.if_icmp .lt 7, 3) := by decide +kernel
theorem dX2_isToBeSwept_24 : decode cX2_isToBeSwept 24 = .ok (.iconst 1, 1) := by decide +kernel
theorem dX2_isToBeSwept_25 : decode cX2_isToBeSwept 25 = .ok (.goto 4, 3) := by decide +kernel
theorem dX2_isToBeSwept_28 : decode cX2_isToBeSwept 28 = .ok (.iconst 0, 1) := by decide +kernel
theorem dX2_isToBeSwept_29 : decode cX2_isToBeSwept 29 = .ok (.ireturn, 1) := by decide +kernel
theorem dX11_isCell_0 : decode cX11_isCell 0 = .ok (.iload_n 0, 1) := by decide +kernel
theorem dX11_isCell_1 : decode cX11_isCell 1 = .ok (.ifCond .lt 13, 3) := by decide +kernel
theorem dX11_isCell_4 : decode cX11_isCell 4 = .ok (.iload_n 0, 1) := by decide +kernel
theorem dX11_isCell_5 : decode cX11_isCell 5 = .ok (.bipush 24, 2) := by decide +kernel
theorem dX11_isCell_7 : decode cX11_isCell 7 = .ok (.if_icmp .ge 7, 3) := by decide +kernel
theorem dX11_isCell_10 : decode cX11_isCell 10 = .ok (.iconst 1, 1) := by decide +kernel
theorem dX11_isCell_11 : decode cX11_isCell 11 = .ok (.goto 4, 3) := by decide +kernel
theorem dX11_isCell_14 : decode cX11_isCell 14 = .ok (.iconst 0, 1) := by decide +kernel
theorem dX11_isCell_15 : decode cX11_isCell 15 = .ok (.ireturn, 1) := by decide +kernel
theorem dX2_target_0 : decode cX2_target 0 = .ok (.iload_n 1, 1) := by decide +kernel
theorem dX2_target_1 : decode cX2_target 1 = .ok (.invokestatic 88, 3) := by decide +kernel
theorem dX2_target_4 : decode cX2_target 4 = .ok (.ifCond .eq 23, 3) := by decide +kernel
theorem dX2_target_7 : decode cX2_target 7 = .ok (.iload_n 2, 1) := by decide +kernel
theorem dX2_target_8 : decode cX2_target 8 = .ok (.invokestatic 91, 3) := by decide +kernel
theorem dX2_target_11 : decode cX2_target 11 = .ok (.ifCond .eq 16, 3) := by decide +kernel
theorem dX2_target_14 : decode cX2_target 14 = .ok (.aload_n 0, 1) := by decide +kernel
theorem dX2_target_15 : decode cX2_target 15 = .ok (.getfield 9, 3) := by decide +kernel
theorem dX2_target_18 : decode cX2_target 18 = .ok (.iload_n 1, 1) := by decide +kernel
theorem dX2_target_19 : decode cX2_target 19 = .ok (.iconst 4, 1) := by decide +kernel
theorem dX2_target_20 : decode cX2_target 20 = .ok (.imul, 1) := by decide +kernel
theorem dX2_target_21 : decode cX2_target 21 = .ok (.iload_n 2, 1) := by decide +kernel
theorem dX2_target_22 : decode cX2_target 22 = .ok (.iadd, 1) := by decide +kernel
theorem dX2_target_23 : decode cX2_target 23 = .ok (.iaload, 1) := by decide +kernel
theorem dX2_target_24 : decode cX2_target 24 = .ok (.goto 5, 3) := by decide +kernel
theorem dX2_target_27 : decode cX2_target 27 = .ok (.bipush (-15), 2) := by decide +kernel
theorem dX2_target_29 : decode cX2_target 29 = .ok (.ireturn, 1) := by decide +kernel
theorem dX9_addLast_0 : decode cX9_addLast 0 = .ok (.aload_n 0, 1) := by decide +kernel
theorem dX9_addLast_1 : decode cX9_addLast 1 = .ok (.getfield 15, 3) := by decide +kernel
theorem dX9_addLast_4 : decode cX9_addLast 4 = .ok (.aload_n 0, 1) := by decide +kernel
theorem dX9_addLast_5 : decode cX9_addLast 5 = .ok (.getfield 9, 3) := by decide +kernel
theorem dX9_addLast_8 : decode cX9_addLast 8 = .ok (.arraylength, 1) := by decide +kernel
theorem dX9_addLast_9 : decode cX9_addLast 9 = .ok (.if_icmp .ge 23, 3) := by decide +kernel
theorem dX9_addLast_12 : decode cX9_addLast 12 = .ok (.aload_n 0, 1) := by decide +kernel
theorem dX9_addLast_13 : decode cX9_addLast 13 = .ok (.getfield 9, 3) := by decide +kernel
theorem dX9_addLast_16 : decode cX9_addLast 16 = .ok (.aload_n 0, 1) := by decide +kernel
theorem dX9_addLast_17 : decode cX9_addLast 17 = .ok (.getfield 15, 3) := by decide +kernel
theorem dX9_addLast_20 : decode cX9_addLast 20 = .ok (.iload_n 1, 1) := by decide +kernel
theorem dX9_addLast_21 : decode cX9_addLast 21 = .ok (.iastore, 1) := by decide +kernel
theorem dX9_addLast_22 : decode cX9_addLast 22 = .ok (.aload_n 0, 1) := by decide +kernel
theorem dX9_addLast_23 : decode cX9_addLast 23 = .ok (.dup, 1) := by decide +kernel
theorem dX9_addLast_24 : decode cX9_addLast 24 = .ok (.getfield 15, 3) := by decide +kernel
theorem dX9_addLast_27 : decode cX9_addLast 27 = .ok (.iconst 1, 1) := by decide +kernel
theorem dX9_addLast_28 : decode cX9_addLast 28 = .ok (.iadd, 1) := by decide +kernel
theorem dX9_addLast_29 : decode cX9_addLast 29 = .ok (.putfield 15, 3) := by decide +kernel
theorem dX9_addLast_32 : decode cX9_addLast 32 = .ok (.return_, 1) := by decide +kernel
theorem dX2_makeGrey_0 : decode cX2_makeGrey 0 = .ok (.aload_n 0, 1) := by decide +kernel
theorem dX2_makeGrey_1 : decode cX2_makeGrey 1 = .ok (.iload_n 1, 1) := by decide +kernel
theorem dX2_makeGrey_2 : decode cX2_makeGrey 2 = .ok (.invokevirtual 84, 3) := by decide +kernel
theorem dX2_makeGrey_5 : decode cX2_makeGrey 5 = .ok (.ifCond .eq 18, 3) := by decide +kernel
theorem dX2_makeGrey_8 : decode cX2_makeGrey 8 = .ok (.aload_n 0, 1) := by decide +kernel
theorem dX2_makeGrey_9 : decode cX2_makeGrey 9 = .ok (.getfield 21, 3) := by decide +kernel
theorem dX2_makeGrey_12 : decode cX2_makeGrey 12 = .ok (.iload_n 1, 1) := by decide +kernel
theorem dX2_makeGrey_13 : decode cX2_makeGrey 13 = .ok (.iconst 1, 1) := by decide +kernel
theorem dX2_makeGrey_14 : decode cX2_makeGrey 14 = .ok (.iastore, 1) := by decide +kernel
theorem dX2_makeGrey_15 : decode cX2_makeGrey 15 = .ok (.aload_n 0, 1) := by decide +kernel
theorem dX2_makeGrey_16 : decode cX2_makeGrey 16 = .ok (.getfield 36, 3) := by decide +kernel
theorem dX2_makeGrey_19 : decode cX2_makeGrey 19 = .ok (.iload_n 1, 1) := by decide +kernel
theorem dX2_makeGrey_20 : decode cX2_makeGrey 20 = .ok (.invokevirtual 108, 3) := by decide +kernel
theorem dX2_makeGrey_23 : decode cX2_makeGrey 23 = .ok (.return_, 1) := by decide +kernel
theorem dX2_makeGreyInRound_0 : decode cX2_makeGreyInRound 0 = .ok (.aload_n 0, 1) := by decide +kernel
theorem dX2_makeGreyInRound_1 : decode cX2_makeGreyInRound 1 = .ok (.getfield 43, 3) := by decide +kernel
theorem dX2_makeGreyInRound_4 : decode cX2_makeGreyInRound 4 = .ok (.iconst 1, 1) := by decide +kernel
theorem dX2_makeGreyInRound_5 : decode cX2_makeGreyInRound 5 = .ok (.if_icmp .ne 8, 3) := by decide +kernel
theorem dX2_makeGreyInRound_8 : decode cX2_makeGreyInRound 8 = .ok (.aload_n 0, 1) := by decide +kernel
theorem dX2_makeGreyInRound_9 : decode cX2_makeGreyInRound 9 = .ok (.iload_n 1, 1) := by decide +kernel
theorem dX2_makeGreyInRound_10 : decode cX2_makeGreyInRound 10 = .ok (.invokevirtual 112, 3) := by decide +kernel
theorem dX2_makeGreyInRound_13 : decode cX2_makeGreyInRound 13 = .ok (.return_, 1) := by decide +kernel
theorem dX1_tieThread_0 : decode cX1_tieThread 0 = .ok (.aload_n 0, 1) := by decide +kernel
theorem dX1_tieThread_1 : decode cX1_tieThread 1 = .ok (.getfield 9, 3) := by decide +kernel
theorem dX1_tieThread_4 : decode cX1_tieThread 4 = .ok (.iload_n 1, 1) := by decide +kernel
theorem dX1_tieThread_5 : decode cX1_tieThread 5 = .ok (.invokevirtual 19, 3) := by decide +kernel
theorem dX1_tieThread_8 : decode cX1_tieThread 8 = .ok (.ifCond .eq 21, 3) := by decide +kernel
theorem dX1_tieThread_11 : decode cX1_tieThread 11 = .ok (.iload_n 2, 1) := by decide +kernel
theorem dX1_tieThread_12 : decode cX1_tieThread 12 = .ok (.invokestatic 58, 3) := by decide +kernel
theorem dX1_tieThread_15 : decode cX1_tieThread 15 = .ok (.ifCond .eq 14, 3) := by decide +kernel
theorem dX1_tieThread_18 : decode cX1_tieThread 18 = .ok (.aload_n 0, 1) := by decide +kernel
theorem dX1_tieThread_19 : decode cX1_tieThread 19 = .ok (.getfield 9, 3) := by decide +kernel
theorem dX1_tieThread_22 : decode cX1_tieThread 22 = .ok (.iload_n 3, 1) := by decide +kernel
theorem dX1_tieThread_23 : decode cX1_tieThread 23 = .ok (.invokevirtual 19, 3) := by decide +kernel
theorem dX1_tieThread_26 : decode cX1_tieThread 26 = .ok (.ifCond .ne 6, 3) := by decide +kernel
theorem dX1_tieThread_29 : decode cX1_tieThread 29 = .ok (.bipush (-11), 2) := by decide +kernel
theorem dX1_tieThread_31 : decode cX1_tieThread 31 = .ok (.ireturn, 1) := by decide +kernel
theorem dX1_tieThread_32 : decode cX1_tieThread 32 = .ok (.aload_n 0, 1) := by decide +kernel
theorem dX1_tieThread_33 : decode cX1_tieThread 33 = .ok (.getfield 9, 3) := by decide +kernel
theorem dX1_tieThread_36 : decode cX1_tieThread 36 = .ok (.iload_n 1, 1) := by decide +kernel
theorem dX1_tieThread_37 : decode cX1_tieThread 37 = .ok (.invokevirtual 61, 3) := by decide +kernel
theorem dX1_tieThread_40 : decode cX1_tieThread 40 = .ok (.ifCond .eq 14, 3) := by decide +kernel
theorem dX1_tieThread_43 : decode cX1_tieThread 43 = .ok (.aload_n 0, 1) := by decide +kernel
theorem dX1_tieThread_44 : decode cX1_tieThread 44 = .ok (.getfield 15, 3) := by decide +kernel
theorem dX1_tieThread_47 : decode cX1_tieThread 47 = .ok (.bipush 7, 2) := by decide +kernel
theorem dX1_tieThread_49 : decode cX1_tieThread 49 = .ok (.iload_n 1, 1) := by decide +kernel
theorem dX1_tieThread_50 : decode cX1_tieThread 50 = .ok (.invokevirtual 46, 3) := by decide +kernel
theorem dX1_tieThread_53 : decode cX1_tieThread 53 = .ok (.ireturn, 1) := by decide +kernel
theorem dX1_tieThread_54 : decode cX1_tieThread 54 = .ok (.aload_n 0, 1) := by decide +kernel
theorem dX1_tieThread_55 : decode cX1_tieThread 55 = .ok (.getfield 9, 3) := by decide +kernel
theorem dX1_tieThread_58 : decode cX1_tieThread 58 = .ok (.iload_n 3, 1) := by decide +kernel
theorem dX1_tieThread_59 : decode cX1_tieThread 59 = .ok (.invokevirtual 61, 3) := by decide +kernel
theorem dX1_tieThread_62 : decode cX1_tieThread 62 = .ok (.ifCond .eq 14, 3) := by decide +kernel
theorem dX1_tieThread_65 : decode cX1_tieThread 65 = .ok (.aload_n 0, 1) := by decide +kernel
theorem dX1_tieThread_66 : decode cX1_tieThread 66 = .ok (.getfield 15, 3) := by decide +kernel
theorem dX1_tieThread_69 : decode cX1_tieThread 69 = .ok (.bipush 7, 2) := by decide +kernel
theorem dX1_tieThread_71 : decode cX1_tieThread 71 = .ok (.iload_n 3, 1) := by decide +kernel
theorem dX1_tieThread_72 : decode cX1_tieThread 72 = .ok (.invokevirtual 46, 3) := by decide +kernel
theorem dX1_tieThread_75 : decode cX1_tieThread 75 = .ok (.ireturn, 1) := by decide +kernel
theorem dX1_tieThread_76 : decode cX1_tieThread 76 = .ok (.aload_n 0, 1) := by decide +kernel
theorem dX1_tieThread_77 : decode cX1_tieThread 77 = .ok (.getfield 9, 3) := by decide +kernel
theorem dX1_tieThread_80 : decode cX1_tieThread 80 = .ok (.iload_n 1, 1) := by decide +kernel
theorem dX1_tieThread_81 : decode cX1_tieThread 81 = .ok (.iload_n 2, 1) := by decide +kernel
theorem dX1_tieThread_82 : decode cX1_tieThread 82 = .ok (.invokevirtual 64, 3) := by decide +kernel
theorem dX1_tieThread_85 : decode cX1_tieThread 85 = .ok (.istore 4, 2) := by decide +kernel
theorem dX1_tieThread_87 : decode cX1_tieThread 87 = .ok (.aload_n 0, 1) := by decide +kernel
theorem dX1_tieThread_88 : decode cX1_tieThread 88 = .ok (.getfield 9, 3) := by decide +kernel
theorem dX1_tieThread_91 : decode cX1_tieThread 91 = .ok (.getfield 67, 3) := by decide +kernel
theorem dX1_tieThread_94 : decode cX1_tieThread 94 = .ok (.iload_n 1, 1) := by decide +kernel
theorem dX1_tieThread_95 : decode cX1_tieThread 95 = .ok (.iconst 4, 1) := by decide +kernel
theorem dX1_tieThread_96 : decode cX1_tieThread 96 = .ok (.imul, 1) := by decide +kernel
theorem dX1_tieThread_97 : decode cX1_tieThread 97 = .ok (.iload_n 2, 1) := by decide +kernel
theorem dX1_tieThread_98 : decode cX1_tieThread 98 = .ok (.iadd, 1) := by decide +kernel
theorem dX1_tieThread_99 : decode cX1_tieThread 99 = .ok (.iload_n 3, 1) := by decide +kernel
theorem dX1_tieThread_100 : decode cX1_tieThread 100 = .ok (.iastore, 1) := by decide +kernel
theorem dX1_tieThread_101 : decode cX1_tieThread 101 = .ok (.aload_n 0, 1) := by decide +kernel
theorem dX1_tieThread_102 : decode cX1_tieThread 102 = .ok (.getfield 9, 3) := by decide +kernel
theorem dX1_tieThread_105 : decode cX1_tieThread 105 = .ok (.getfield 25, 3) := by decide +kernel
theorem dX1_tieThread_108 : decode cX1_tieThread 108 = .ok (.iload_n 1, 1) := by decide +kernel
theorem dX1_tieThread_109 : decode cX1_tieThread 109 = .ok (.iaload, 1) := by decide +kernel
theorem dX1_tieThread_110 : decode cX1_tieThread 110 = .ok (.iconst 2, 1) := by decide +kernel
theorem dX1_tieThread_111 : decode cX1_tieThread 111 = .ok (.if_icmp .ne 11, 3) := by decide +kernel
theorem dX1_tieThread_114 : decode cX1_tieThread 114 = .ok (.aload_n 0, 1) := by decide +kernel
theorem dX1_tieThread_115 : decode cX1_tieThread 115 = .ok (.getfield 9, 3) := by decide +kernel
theorem dX1_tieThread_118 : decode cX1_tieThread 118 = .ok (.iload_n 3, 1) := by decide +kernel
theorem dX1_tieThread_119 : decode cX1_tieThread 119 = .ok (.invokevirtual 70, 3) := by decide +kernel
theorem dX1_tieThread_122 : decode cX1_tieThread 122 = .ok (.iload 4, 2) := by decide +kernel
theorem dX1_tieThread_124 : decode cX1_tieThread 124 = .ok (.ireturn, 1) := by decide +kernel
theorem dX1_takeThread_0 : decode cX1_takeThread 0 = .ok (.aload_n 0, 1) := by decide +kernel
theorem dX1_takeThread_1 : decode cX1_takeThread 1 = .ok (.getfield 9, 3) := by decide +kernel
theorem dX1_takeThread_4 : decode cX1_takeThread 4 = .ok (.iload_n 1, 1) := by decide +kernel
theorem dX1_takeThread_5 : decode cX1_takeThread 5 = .ok (.invokevirtual 19, 3) := by decide +kernel
theorem dX1_takeThread_8 : decode cX1_takeThread 8 = .ok (.ifCond .eq 10, 3) := by decide +kernel
theorem dX1_takeThread_11 : decode cX1_takeThread 11 = .ok (.iload_n 2, 1) := by decide +kernel
theorem dX1_takeThread_12 : decode cX1_takeThread 12 = .ok (.invokestatic 58, 3) := by decide +kernel
theorem dX1_takeThread_15 : decode cX1_takeThread 15 = .ok (.ifCond .ne 6, 3) := by decide +kernel
theorem dX1_takeThread_18 : decode cX1_takeThread 18 = .ok (.bipush (-11), 2) := by decide +kernel
theorem dX1_takeThread_20 : decode cX1_takeThread 20 = .ok (.ireturn, 1) := by decide +kernel
theorem dX1_takeThread_21 : decode cX1_takeThread 21 = .ok (.aload_n 0, 1) := by decide +kernel
theorem dX1_takeThread_22 : decode cX1_takeThread 22 = .ok (.getfield 9, 3) := by decide +kernel
theorem dX1_takeThread_25 : decode cX1_takeThread 25 = .ok (.iload_n 1, 1) := by decide +kernel
theorem dX1_takeThread_26 : decode cX1_takeThread 26 = .ok (.iload_n 2, 1) := by decide +kernel
theorem dX1_takeThread_27 : decode cX1_takeThread 27 = .ok (.invokevirtual 64, 3) := by decide +kernel
theorem dX1_takeThread_30 : decode cX1_takeThread 30 = .ok (.istore_n 3, 1) := by decide +kernel
theorem dX1_takeThread_31 : decode cX1_takeThread 31 = .ok (.iload_n 3, 1) := by decide +kernel
theorem dX1_takeThread_32 : decode cX1_takeThread 32 = .ok (.bipush (-15), 2) := by decide +kernel
theorem dX1_takeThread_34 : decode cX1_takeThread 34 = .ok (.if_icmp .ne 13, 3) := by decide +kernel
theorem dX1_takeThread_37 : decode cX1_takeThread 37 = .ok (.aload_n 0, 1) := by decide +kernel
theorem dX1_takeThread_38 : decode cX1_takeThread 38 = .ok (.getfield 15, 3) := by decide +kernel
theorem dX1_takeThread_41 : decode cX1_takeThread 41 = .ok (.iconst 2, 1) := by decide +kernel
theorem dX1_takeThread_42 : decode cX1_takeThread 42 = .ok (.iload_n 2, 1) := by decide +kernel
theorem dX1_takeThread_43 : decode cX1_takeThread 43 = .ok (.invokevirtual 46, 3) := by decide +kernel
theorem dX1_takeThread_46 : decode cX1_takeThread 46 = .ok (.ireturn, 1) := by decide +kernel
theorem dX1_takeThread_47 : decode cX1_takeThread 47 = .ok (.aload_n 0, 1) := by decide +kernel
theorem dX1_takeThread_48 : decode cX1_takeThread 48 = .ok (.getfield 9, 3) := by decide +kernel
theorem dX1_takeThread_51 : decode cX1_takeThread 51 = .ok (.getfield 67, 3) := by decide +kernel
theorem dX1_takeThread_54 : decode cX1_takeThread 54 = .ok (.iload_n 1, 1) := by decide +kernel
theorem dX1_takeThread_55 : decode cX1_takeThread 55 = .ok (.iconst 4, 1) := by decide +kernel
theorem dX1_takeThread_56 : decode cX1_takeThread 56 = .ok (.imul, 1) := by decide +kernel
theorem dX1_takeThread_57 : decode cX1_takeThread 57 = .ok (.iload_n 2, 1) := by decide +kernel
theorem dX1_takeThread_58 : decode cX1_takeThread 58 = .ok (.iadd, 1) := by decide +kernel
theorem dX1_takeThread_59 : decode cX1_takeThread 59 = .ok (.bipush (-15), 2) := by decide +kernel
theorem dX1_takeThread_61 : decode cX1_takeThread 61 = .ok (.iastore, 1) := by decide +kernel
theorem dX1_takeThread_62 : decode cX1_takeThread 62 = .ok (.iload_n 3, 1) := by decide +kernel
theorem dX1_takeThread_63 : decode cX1_takeThread 63 = .ok (.ireturn, 1) := by decide +kernel
theorem dX1_tieWeak_0 : decode cX1_tieWeak 0 = .ok (.aload_n 0, 1) := by decide +kernel
theorem dX1_tieWeak_1 : decode cX1_tieWeak 1 = .ok (.getfield 9, 3) := by decide +kernel
theorem dX1_tieWeak_4 : decode cX1_tieWeak 4 = .ok (.iload_n 1, 1) := by decide +kernel
theorem dX1_tieWeak_5 : decode cX1_tieWeak 5 = .ok (.invokevirtual 19, 3) := by decide +kernel
theorem dX1_tieWeak_8 : decode cX1_tieWeak 8 = .ok (.ifCond .eq 14, 3) := by decide +kernel
theorem dX1_tieWeak_11 : decode cX1_tieWeak 11 = .ok (.aload_n 0, 1) := by decide +kernel
theorem dX1_tieWeak_12 : decode cX1_tieWeak 12 = .ok (.getfield 9, 3) := by decide +kernel
theorem dX1_tieWeak_15 : decode cX1_tieWeak 15 = .ok (.iload_n 2, 1) := by decide +kernel
theorem dX1_tieWeak_16 : decode cX1_tieWeak 16 = .ok (.invokevirtual 19, 3) := by decide +kernel
theorem dX1_tieWeak_19 : decode cX1_tieWeak 19 = .ok (.ifCond .ne 6, 3) := by decide +kernel
theorem dX1_tieWeak_22 : decode cX1_tieWeak 22 = .ok (.bipush (-11), 2) := by decide +kernel
theorem dX1_tieWeak_24 : decode cX1_tieWeak 24 = .ok (.ireturn, 1) := by decide +kernel
theorem dX1_tieWeak_25 : decode cX1_tieWeak 25 = .ok (.aload_n 0, 1) := by decide +kernel
theorem dX1_tieWeak_26 : decode cX1_tieWeak 26 = .ok (.getfield 9, 3) := by decide +kernel
theorem dX1_tieWeak_29 : decode cX1_tieWeak 29 = .ok (.iload_n 1, 1) := by decide +kernel
theorem dX1_tieWeak_30 : decode cX1_tieWeak 30 = .ok (.invokevirtual 61, 3) := by decide +kernel
theorem dX1_tieWeak_33 : decode cX1_tieWeak 33 = .ok (.ifCond .eq 14, 3) := by decide +kernel
theorem dX1_tieWeak_36 : decode cX1_tieWeak 36 = .ok (.aload_n 0, 1) := by decide +kernel
theorem dX1_tieWeak_37 : decode cX1_tieWeak 37 = .ok (.getfield 15, 3) := by decide +kernel
theorem dX1_tieWeak_40 : decode cX1_tieWeak 40 = .ok (.bipush 7, 2) := by decide +kernel
theorem dX1_tieWeak_42 : decode cX1_tieWeak 42 = .ok (.iload_n 1, 1) := by decide +kernel
theorem dX1_tieWeak_43 : decode cX1_tieWeak 43 = .ok (.invokevirtual 46, 3) := by decide +kernel
theorem dX1_tieWeak_46 : decode cX1_tieWeak 46 = .ok (.ireturn, 1) := by decide +kernel
theorem dX1_tieWeak_47 : decode cX1_tieWeak 47 = .ok (.aload_n 0, 1) := by decide +kernel
theorem dX1_tieWeak_48 : decode cX1_tieWeak 48 = .ok (.getfield 9, 3) := by decide +kernel
theorem dX1_tieWeak_51 : decode cX1_tieWeak 51 = .ok (.iload_n 2, 1) := by decide +kernel
theorem dX1_tieWeak_52 : decode cX1_tieWeak 52 = .ok (.invokevirtual 61, 3) := by decide +kernel
theorem dX1_tieWeak_55 : decode cX1_tieWeak 55 = .ok (.ifCond .eq 14, 3) := by decide +kernel
theorem dX1_tieWeak_58 : decode cX1_tieWeak 58 = .ok (.aload_n 0, 1) := by decide +kernel
theorem dX1_tieWeak_59 : decode cX1_tieWeak 59 = .ok (.getfield 15, 3) := by decide +kernel
theorem dX1_tieWeak_62 : decode cX1_tieWeak 62 = .ok (.bipush 7, 2) := by decide +kernel
theorem dX1_tieWeak_64 : decode cX1_tieWeak 64 = .ok (.iload_n 2, 1) := by decide +kernel
theorem dX1_tieWeak_65 : decode cX1_tieWeak 65 = .ok (.invokevirtual 46, 3) := by decide +kernel
theorem dX1_tieWeak_68 : decode cX1_tieWeak 68 = .ok (.ireturn, 1) := by decide +kernel
theorem dX1_tieWeak_69 : decode cX1_tieWeak 69 = .ok (.aload_n 0, 1) := by decide +kernel
theorem dX1_tieWeak_70 : decode cX1_tieWeak 70 = .ok (.getfield 9, 3) := by decide +kernel
theorem dX1_tieWeak_73 : decode cX1_tieWeak 73 = .ok (.getfield 74, 3) := by decide +kernel
theorem dX1_tieWeak_76 : decode cX1_tieWeak 76 = .ok (.iload_n 1, 1) := by decide +kernel
theorem dX1_tieWeak_77 : decode cX1_tieWeak 77 = .ok (.iaload, 1) := by decide +kernel
theorem dX1_tieWeak_78 : decode cX1_tieWeak 78 = .ok (.istore_n 3, 1) := by decide +kernel
theorem dX1_tieWeak_79 : decode cX1_tieWeak 79 = .ok (.aload_n 0, 1) := by decide +kernel
theorem dX1_tieWeak_80 : decode cX1_tieWeak 80 = .ok (.getfield 9, 3) := by decide +kernel
theorem dX1_tieWeak_83 : decode cX1_tieWeak 83 = .ok (.getfield 74, 3) := by decide +kernel
theorem dX1_tieWeak_86 : decode cX1_tieWeak 86 = .ok (.iload_n 1, 1) := by decide +kernel
theorem dX1_tieWeak_87 : decode cX1_tieWeak 87 = .ok (.iload_n 2, 1) := by decide +kernel
theorem dX1_tieWeak_88 : decode cX1_tieWeak 88 = .ok (.iastore, 1) := by decide +kernel
theorem dX1_tieWeak_89 : decode cX1_tieWeak 89 = .ok (.iload_n 3, 1) := by decide +kernel
theorem dX1_tieWeak_90 : decode cX1_tieWeak 90 = .ok (.ireturn, 1) := by decide +kernel
theorem dX1_takeWeak_0 : decode cX1_takeWeak 0 = .ok (.aload_n 0, 1) := by decide +kernel
theorem dX1_takeWeak_1 : decode cX1_takeWeak 1 = .ok (.getfield 9, 3) := by decide +kernel
theorem dX1_takeWeak_4 : decode cX1_takeWeak 4 = .ok (.iload_n 1, 1) := by decide +kernel
theorem dX1_takeWeak_5 : decode cX1_takeWeak 5 = .ok (.invokevirtual 19, 3) := by decide +kernel
theorem dX1_takeWeak_8 : decode cX1_takeWeak 8 = .ok (.ifCond .ne 6, 3) := by decide +kernel
theorem dX1_takeWeak_11 : decode cX1_takeWeak 11 = .ok (.bipush (-11), 2) := by decide +kernel
theorem dX1_takeWeak_13 : decode cX1_takeWeak 13 = .ok (.ireturn, 1) := by decide +kernel
theorem dX1_takeWeak_14 : decode cX1_takeWeak 14 = .ok (.aload_n 0, 1) := by decide +kernel
theorem dX1_takeWeak_15 : decode cX1_takeWeak 15 = .ok (.getfield 9, 3) := by decide +kernel
theorem dX1_takeWeak_18 : decode cX1_takeWeak 18 = .ok (.getfield 74, 3) := by decide +kernel
theorem dX1_takeWeak_21 : decode cX1_takeWeak 21 = .ok (.iload_n 1, 1) := by decide +kernel
theorem dX1_takeWeak_22 : decode cX1_takeWeak 22 = .ok (.iaload, 1) := by decide +kernel
theorem dX1_takeWeak_23 : decode cX1_takeWeak 23 = .ok (.istore_n 2, 1) := by decide +kernel
theorem dX1_takeWeak_24 : decode cX1_takeWeak 24 = .ok (.iload_n 2, 1) := by decide +kernel
theorem dX1_takeWeak_25 : decode cX1_takeWeak 25 = .ok (.bipush (-15), 2) := by decide +kernel
theorem dX1_takeWeak_27 : decode cX1_takeWeak 27 = .ok (.if_icmp .ne 13, 3) := by decide +kernel
theorem dX1_takeWeak_30 : decode cX1_takeWeak 30 = .ok (.aload_n 0, 1) := by decide +kernel
theorem dX1_takeWeak_31 : decode cX1_takeWeak 31 = .ok (.getfield 15, 3) := by decide +kernel
theorem dX1_takeWeak_34 : decode cX1_takeWeak 34 = .ok (.iconst 2, 1) := by decide +kernel
theorem dX1_takeWeak_35 : decode cX1_takeWeak 35 = .ok (.iconst 4, 1) := by decide +kernel
theorem dX1_takeWeak_36 : decode cX1_takeWeak 36 = .ok (.invokevirtual 46, 3) := by decide +kernel
theorem dX1_takeWeak_39 : decode cX1_takeWeak 39 = .ok (.ireturn, 1) := by decide +kernel
theorem dX1_takeWeak_40 : decode cX1_takeWeak 40 = .ok (.aload_n 0, 1) := by decide +kernel
theorem dX1_takeWeak_41 : decode cX1_takeWeak 41 = .ok (.getfield 9, 3) := by decide +kernel
theorem dX1_takeWeak_44 : decode cX1_takeWeak 44 = .ok (.getfield 74, 3) := by decide +kernel
theorem dX1_takeWeak_47 : decode cX1_takeWeak 47 = .ok (.iload_n 1, 1) := by decide +kernel
theorem dX1_takeWeak_48 : decode cX1_takeWeak 48 = .ok (.bipush (-15), 2) := by decide +kernel
theorem dX1_takeWeak_50 : decode cX1_takeWeak 50 = .ok (.iastore, 1) := by decide +kernel
theorem dX1_takeWeak_51 : decode cX1_takeWeak 51 = .ok (.iload_n 2, 1) := by decide +kernel
theorem dX1_takeWeak_52 : decode cX1_takeWeak 52 = .ok (.ireturn, 1) := by decide +kernel
theorem dX11_isName_0 : decode cX11_isName 0 = .ok (.iload_n 0, 1) := by decide +kernel
theorem dX11_isName_1 : decode cX11_isName 1 = .ok (.ifCond .lt 13, 3) := by decide +kernel
theorem dX11_isName_4 : decode cX11_isName 4 = .ok (.iload_n 0, 1) := by decide +kernel
theorem dX11_isName_5 : decode cX11_isName 5 = .ok (.bipush 6, 2) := by decide +kernel
theorem dX11_isName_7 : decode cX11_isName 7 = .ok (.if_icmp .ge 7, 3) := by decide +kernel
theorem dX11_isName_10 : decode cX11_isName 10 = .ok (.iconst 1, 1) := by decide +kernel
theorem dX11_isName_11 : decode cX11_isName 11 = .ok (.goto 4, 3) := by decide +kernel
theorem dX11_isName_14 : decode cX11_isName 14 = .ok (.iconst 0, 1) := by decide +kernel
theorem dX11_isName_15 : decode cX11_isName 15 = .ok (.ireturn, 1) := by decide +kernel
theorem dX1_giveName_0 : decode cX1_giveName 0 = .ok (.iload_n 1, 1) := by decide +kernel
theorem dX1_giveName_1 : decode cX1_giveName 1 = .ok (.invokestatic 77, 3) := by decide +kernel
theorem dX1_giveName_4 : decode cX1_giveName 4 = .ok (.ifCond .eq 14, 3) := by decide +kernel
theorem dX1_giveName_7 : decode cX1_giveName 7 = .ok (.aload_n 0, 1) := by decide +kernel
theorem dX1_giveName_8 : decode cX1_giveName 8 = .ok (.getfield 9, 3) := by decide +kernel
theorem dX1_giveName_11 : decode cX1_giveName 11 = .ok (.iload_n 2, 1) := by decide +kernel
theorem dX1_giveName_12 : decode cX1_giveName 12 = .ok (.invokevirtual 19, 3) := by decide +kernel
theorem dX1_giveName_15 : decode cX1_giveName 15 = .ok (.ifCond .ne 6, 3) := by decide +kernel
theorem dX1_giveName_18 : decode cX1_giveName 18 = .ok (.bipush (-11), 2) := by decide +kernel
theorem dX1_giveName_20 : decode cX1_giveName 20 = .ok (.ireturn, 1) := by decide +kernel
theorem dX1_giveName_21 : decode cX1_giveName 21 = .ok (.aload_n 0, 1) := by decide +kernel
theorem dX1_giveName_22 : decode cX1_giveName 22 = .ok (.getfield 9, 3) := by decide +kernel
theorem dX1_giveName_25 : decode cX1_giveName 25 = .ok (.iload_n 2, 1) := by decide +kernel
theorem dX1_giveName_26 : decode cX1_giveName 26 = .ok (.invokevirtual 61, 3) := by decide +kernel
theorem dX1_giveName_29 : decode cX1_giveName 29 = .ok (.ifCond .eq 14, 3) := by decide +kernel
theorem dX1_giveName_32 : decode cX1_giveName 32 = .ok (.aload_n 0, 1) := by decide +kernel
theorem dX1_giveName_33 : decode cX1_giveName 33 = .ok (.getfield 15, 3) := by decide +kernel
theorem dX1_giveName_36 : decode cX1_giveName 36 = .ok (.bipush 7, 2) := by decide +kernel
theorem dX1_giveName_38 : decode cX1_giveName 38 = .ok (.iload_n 2, 1) := by decide +kernel
theorem dX1_giveName_39 : decode cX1_giveName 39 = .ok (.invokevirtual 46, 3) := by decide +kernel
theorem dX1_giveName_42 : decode cX1_giveName 42 = .ok (.ireturn, 1) := by decide +kernel
theorem dX1_giveName_43 : decode cX1_giveName 43 = .ok (.aload_n 0, 1) := by decide +kernel
theorem dX1_giveName_44 : decode cX1_giveName 44 = .ok (.getfield 9, 3) := by decide +kernel
theorem dX1_giveName_47 : decode cX1_giveName 47 = .ok (.getfield 80, 3) := by decide +kernel
theorem dX1_giveName_50 : decode cX1_giveName 50 = .ok (.iload_n 1, 1) := by decide +kernel
theorem dX1_giveName_51 : decode cX1_giveName 51 = .ok (.iaload, 1) := by decide +kernel
theorem dX1_giveName_52 : decode cX1_giveName 52 = .ok (.istore_n 3, 1) := by decide +kernel
theorem dX1_giveName_53 : decode cX1_giveName 53 = .ok (.aload_n 0, 1) := by decide +kernel
theorem dX1_giveName_54 : decode cX1_giveName 54 = .ok (.getfield 9, 3) := by decide +kernel
theorem dX1_giveName_57 : decode cX1_giveName 57 = .ok (.getfield 80, 3) := by decide +kernel
theorem dX1_giveName_60 : decode cX1_giveName 60 = .ok (.iload_n 1, 1) := by decide +kernel
theorem dX1_giveName_61 : decode cX1_giveName 61 = .ok (.iload_n 2, 1) := by decide +kernel
theorem dX1_giveName_62 : decode cX1_giveName 62 = .ok (.iastore, 1) := by decide +kernel
theorem dX1_giveName_63 : decode cX1_giveName 63 = .ok (.aload_n 0, 1) := by decide +kernel
theorem dX1_giveName_64 : decode cX1_giveName 64 = .ok (.getfield 9, 3) := by decide +kernel
theorem dX1_giveName_67 : decode cX1_giveName 67 = .ok (.iload_n 2, 1) := by decide +kernel
theorem dX1_giveName_68 : decode cX1_giveName 68 = .ok (.invokevirtual 70, 3) := by decide +kernel
theorem dX1_giveName_71 : decode cX1_giveName 71 = .ok (.iload_n 3, 1) := by decide +kernel
theorem dX1_giveName_72 : decode cX1_giveName 72 = .ok (.ireturn, 1) := by decide +kernel
theorem dX1_takeName_0 : decode cX1_takeName 0 = .ok (.iload_n 1, 1) := by decide +kernel
theorem dX1_takeName_1 : decode cX1_takeName 1 = .ok (.invokestatic 77, 3) := by decide +kernel
theorem dX1_takeName_4 : decode cX1_takeName 4 = .ok (.ifCond .ne 6, 3) := by decide +kernel
theorem dX1_takeName_7 : decode cX1_takeName 7 = .ok (.bipush (-11), 2) := by decide +kernel
theorem dX1_takeName_9 : decode cX1_takeName 9 = .ok (.ireturn, 1) := by decide +kernel
theorem dX1_takeName_10 : decode cX1_takeName 10 = .ok (.aload_n 0, 1) := by decide +kernel
theorem dX1_takeName_11 : decode cX1_takeName 11 = .ok (.getfield 9, 3) := by decide +kernel
theorem dX1_takeName_14 : decode cX1_takeName 14 = .ok (.getfield 80, 3) := by decide +kernel
theorem dX1_takeName_17 : decode cX1_takeName 17 = .ok (.iload_n 1, 1) := by decide +kernel
theorem dX1_takeName_18 : decode cX1_takeName 18 = .ok (.iaload, 1) := by decide +kernel
theorem dX1_takeName_19 : decode cX1_takeName 19 = .ok (.istore_n 2, 1) := by decide +kernel
theorem dX1_takeName_20 : decode cX1_takeName 20 = .ok (.iload_n 2, 1) := by decide +kernel
theorem dX1_takeName_21 : decode cX1_takeName 21 = .ok (.bipush (-15), 2) := by decide +kernel
theorem dX1_takeName_23 : decode cX1_takeName 23 = .ok (.if_icmp .ne 13, 3) := by decide +kernel
theorem dX1_takeName_26 : decode cX1_takeName 26 = .ok (.aload_n 0, 1) := by decide +kernel
theorem dX1_takeName_27 : decode cX1_takeName 27 = .ok (.getfield 15, 3) := by decide +kernel
theorem dX1_takeName_30 : decode cX1_takeName 30 = .ok (.iconst 3, 1) := by decide +kernel
theorem dX1_takeName_31 : decode cX1_takeName 31 = .ok (.iload_n 1, 1) := by decide +kernel
theorem dX1_takeName_32 : decode cX1_takeName 32 = .ok (.invokevirtual 46, 3) := by decide +kernel
theorem dX1_takeName_35 : decode cX1_takeName 35 = .ok (.ireturn, 1) := by decide +kernel
theorem dX1_takeName_36 : decode cX1_takeName 36 = .ok (.aload_n 0, 1) := by decide +kernel
theorem dX1_takeName_37 : decode cX1_takeName 37 = .ok (.getfield 9, 3) := by decide +kernel
theorem dX1_takeName_40 : decode cX1_takeName 40 = .ok (.getfield 80, 3) := by decide +kernel
theorem dX1_takeName_43 : decode cX1_takeName 43 = .ok (.iload_n 1, 1) := by decide +kernel
theorem dX1_takeName_44 : decode cX1_takeName 44 = .ok (.bipush (-15), 2) := by decide +kernel
theorem dX1_takeName_46 : decode cX1_takeName 46 = .ok (.iastore, 1) := by decide +kernel
theorem dX1_takeName_47 : decode cX1_takeName 47 = .ok (.iload_n 2, 1) := by decide +kernel
theorem dX1_takeName_48 : decode cX1_takeName 48 = .ok (.ireturn, 1) := by decide +kernel
theorem dX2_urnsOf_0 : decode cX2_urnsOf 0 = .ok (.iconst 0, 1) := by decide +kernel
theorem dX2_urnsOf_1 : decode cX2_urnsOf 1 = .ok (.istore_n 2, 1) := by decide +kernel
theorem dX2_urnsOf_2 : decode cX2_urnsOf 2 = .ok (.iconst 0, 1) := by decide +kernel
theorem dX2_urnsOf_3 : decode cX2_urnsOf 3 = .ok (.istore_n 3, 1) := by decide +kernel
theorem dX2_urnsOf_4 : decode cX2_urnsOf 4 = .ok (.iload_n 3, 1) := by decide +kernel
theorem dX2_urnsOf_5 : decode cX2_urnsOf 5 = .ok (.bipush 24, 2) := by decide +kernel
theorem dX2_urnsOf_7 : decode cX2_urnsOf 7 = .ok (.if_icmp .ge 22, 3) := by decide +kernel
theorem dX2_urnsOf_10 : decode cX2_urnsOf 10 = .ok (.aload_n 0, 1) := by decide +kernel
theorem dX2_urnsOf_11 : decode cX2_urnsOf 11 = .ok (.getfield 21, 3) := by decide +kernel
theorem dX2_urnsOf_14 : decode cX2_urnsOf 14 = .ok (.iload_n 3, 1) := by decide +kernel
theorem dX2_urnsOf_15 : decode cX2_urnsOf 15 = .ok (.iaload, 1) := by decide +kernel
theorem dX2_urnsOf_16 : decode cX2_urnsOf 16 = .ok (.iload_n 1, 1) := by decide +kernel
theorem dX2_urnsOf_17 : decode cX2_urnsOf 17 = .ok (.if_icmp .ne 6, 3) := by decide +kernel
theorem dX2_urnsOf_20 : decode cX2_urnsOf 20 = .ok (.iinc 2 1, 3) := by decide +kernel
theorem dX2_urnsOf_23 : decode cX2_urnsOf 23 = .ok (.iinc 3 1, 3) := by decide +kernel
theorem dX2_urnsOf_26 : decode cX2_urnsOf 26 = .ok (.goto (-22), 3) := by decide +kernel
theorem dX2_urnsOf_29 : decode cX2_urnsOf 29 = .ok (.iload_n 2, 1) := by decide +kernel
theorem dX2_urnsOf_30 : decode cX2_urnsOf 30 = .ok (.ireturn, 1) := by decide +kernel
theorem dX2_urns_0 : decode cX2_urns 0 = .ok (.bipush 24, 2) := by decide +kernel
theorem dX2_urns_2 : decode cX2_urns 2 = .ok (.aload_n 0, 1) := by decide +kernel
theorem dX2_urns_3 : decode cX2_urns 3 = .ok (.iconst (-1), 1) := by decide +kernel
theorem dX2_urns_4 : decode cX2_urns 4 = .ok (.invokevirtual 94, 3) := by decide +kernel
theorem dX2_urns_7 : decode cX2_urns 7 = .ok (.isub, 1) := by decide +kernel
theorem dX2_urns_8 : decode cX2_urns 8 = .ok (.ireturn, 1) := by decide +kernel
theorem dX2_namesInUse_0 : decode cX2_namesInUse 0 = .ok (.iconst 0, 1) := by decide +kernel
theorem dX2_namesInUse_1 : decode cX2_namesInUse 1 = .ok (.istore_n 1, 1) := by decide +kernel
theorem dX2_namesInUse_2 : decode cX2_namesInUse 2 = .ok (.iconst 0, 1) := by decide +kernel
theorem dX2_namesInUse_3 : decode cX2_namesInUse 3 = .ok (.istore_n 2, 1) := by decide +kernel
theorem dX2_namesInUse_4 : decode cX2_namesInUse 4 = .ok (.iload_n 2, 1) := by decide +kernel
theorem dX2_namesInUse_5 : decode cX2_namesInUse 5 = .ok (.bipush 6, 2) := by decide +kernel
theorem dX2_namesInUse_7 : decode cX2_namesInUse 7 = .ok (.if_icmp .ge 23, 3) := by decide +kernel
theorem dX2_namesInUse_10 : decode cX2_namesInUse 10 = .ok (.aload_n 0, 1) := by decide +kernel
theorem dX2_namesInUse_11 : decode cX2_namesInUse 11 = .ok (.getfield 27, 3) := by decide +kernel
theorem dX2_namesInUse_14 : decode cX2_namesInUse 14 = .ok (.iload_n 2, 1) := by decide +kernel
theorem dX2_namesInUse_15 : decode cX2_namesInUse 15 = .ok (.iaload, 1) := by decide +kernel
theorem dX2_namesInUse_16 : decode cX2_namesInUse 16 = .ok (.bipush (-15), 2) := by decide +kernel
theorem dX2_namesInUse_18 : decode cX2_namesInUse 18 = .ok (.if_icmp .eq 6, 3) := by decide +kernel
theorem dX2_namesInUse_21 : decode cX2_namesInUse 21 = .ok (.iinc 1 1, 3) := by decide +kernel
theorem dX2_namesInUse_24 : decode cX2_namesInUse 24 = .ok (.iinc 2 1, 3) := by decide +kernel
theorem dX2_namesInUse_27 : decode cX2_namesInUse 27 = .ok (.goto (-23), 3) := by decide +kernel
theorem dX2_namesInUse_30 : decode cX2_namesInUse 30 = .ok (.iload_n 1, 1) := by decide +kernel
theorem dX2_namesInUse_31 : decode cX2_namesInUse 31 = .ok (.ireturn, 1) := by decide +kernel
def f_X8_refuse (μ : mu_T) (a1 : Int) (a2 : Int) : Option (Int × mu_T) :=
  wf_ μ 133 0 a1 (fun μ2 => wf_ μ2 133 1 a2 (fun μ7 => some ((-14), μ7)))
set_option maxHeartbeats 4000000 in
set_option maxRecDepth 100000 in
theorem c_X8_refuse {G : gp_} {ad : Nat → Nat} (μ : mu_T) (a1 : Int) (a2 : Int) (a : Int) (μr : mu_T) (h : f_X8_refuse μ a1 a2 = some (a, μr)) : mi_ yX8_refuse cX8_refuse 3 (some .int) ({ frames := 0, cells := 0, slots := 0, locals := 0 } : Room) G 151 ad (ceX G ad) [.ref (ad 133), .int (iI a1), .int (iI a2)] μ a μr := by
  refine mi_in (own := "UrnHeap$Refusals") (lv := [(0, .ref (ad 133)), (1, .int (iI a1)), (2, .int (iI a2))]) (by decide) rfl rfl (Nat.le_of_ble_eq_true rfl) (fun X C E => ?_)
  unfold f_X8_refuse at h
  refine xx_aload_n C 1 rfl 0 dX8_refuse_0 rfl rfl ?_
  refine xx_iload_n C 2 rfl 1 dX8_refuse_1 rfl rfl ?_
  refine xx_puti (fi := 0) (j := 0) C 5 rfl (by decide) (ceX_133 _ _ _) (puX_133_0 _ _ _ _) rfl in_X8 tyX8 tyX8_ok nmX8 (by decide) (Nat.le_of_ble_eq_true rfl) ⟨rfl, rfl⟩ w_182 dX8_refuse_2 h (fun μ2 h => ?_)
  refine xx_aload_n C 6 rfl 0 dX8_refuse_5 rfl rfl ?_
  refine xx_iload_n C 7 rfl 2 dX8_refuse_6 rfl rfl ?_
  refine xx_puti (fi := 1) (j := 1) C 10 rfl (by decide) (ceX_133 _ _ _) (puX_133_1 _ _ _ _) rfl in_X8 tyX8 tyX8_ok nmX8 (by decide) (Nat.le_of_ble_eq_true rfl) ⟨rfl, rfl⟩ w_183 dX8_refuse_7 h (fun μ7 h => ?_)
  refine xx_bipush C 12 rfl dX8_refuse_10 (by decide) ?_
  exact xx_iret C E rfl ⟨Nat.le_of_ble_eq_true rfl, Nat.le_of_ble_eq_true rfl⟩ dX8_refuse_12 h

def f_X1_colourOfNew (μ : mu_T) (a1 : Int) : Option Int :=
  nm_ (μ 0 9) (fun v4 => jn_ (φ := Int → Option Int) (fun s0_27 => nm_ (μ 0 9) (fun v32 => eq_ v32 1
      (some 2)
      (eq_ s0_27 0
      (some 0)
      (some 2))))
      (fun J27 => jn_ (φ := Unit → Option Int) (fun _ => J27 0)
      (fun J26 => eq_ v4 2
      (nm_ (μ 0 10) (fun v16 => lt_ a1 v16
      (J26 ())
      (J27 1)))
      (J26 ()))))
set_option maxHeartbeats 4000000 in
set_option maxRecDepth 100000 in
theorem c_X1_colourOfNew {G : gp_} {ad : Nat → Nat} (μ : mu_T) (a1 : Int) (a : Int) (h : f_X1_colourOfNew μ a1 = some a) : mi_ yX1_colourOfNew cX1_colourOfNew 3 (some .int) ({ frames := 0, cells := 0, slots := 0, locals := 0 } : Room) G 151 ad (ceX G ad) [.ref (ad 134), .int (iI a1)] μ a μ := by
  refine mi_in (own := "UrnHeap$Hands") (lv := [(0, .ref (ad 134)), (1, .int (iI a1))]) (by decide) rfl rfl (Nat.le_of_ble_eq_true rfl) (fun X C E => ?_)
  unfold f_X1_colourOfNew at h
  refine xx_aload_n C 1 rfl 0 dX1_colourOfNew_0 rfl rfl ?_
  refine xx_getr (fi := 0) C 4 rfl (by decide) (ceX_134 _ _ _) rfl in_X1 (by decide) rfl w_195 dX1_colourOfNew_1 ?_
  refine xx_geti (fi := 9) (j := 9) C 7 rfl (by decide) (ceX_0 _ _ _) rfl in_X2 (by decide) rfl w_116 dX1_colourOfNew_4 h (fun v4 h => ?_)
  refine xx_iconst C 8 rfl dX1_colourOfNew_7 ?_
  refine jn_r (fun J => ∀ (s0_27 : Int), J s0_27 = some a → wx_ G X 151 ad (ceX G ad) μ 0 0 27 [(0, .ref (ad 134))] [.int (iI s0_27)]) h (fun s0_27 h => ?_) (fun J27 K27 h => ?_)
  · refine xx_istore_n (lv1 := [(2, .int (iI s0_27)), (0, .ref (ad 134))]) C 28 rfl (by decide) dX1_colourOfNew_27 rfl rfl ?_
    refine xx_aload_n C 29 rfl 1 dX1_colourOfNew_28 rfl rfl ?_
    refine xx_getr (fi := 0) C 32 rfl (by decide) (ceX_134 _ _ _) rfl in_X1 (by decide) rfl w_195 dX1_colourOfNew_29 ?_
    refine xx_geti (fi := 9) (j := 9) C 35 rfl (by decide) (ceX_0 _ _ _) rfl in_X2 (by decide) rfl w_116 dX1_colourOfNew_32 h (fun v32 h => ?_)
    refine xx_iconst C 36 rfl dX1_colourOfNew_35 ?_
    refine xx_icmp_eq (tgt := 43) C 39 rfl dX1_colourOfNew_36 (by decide) h (fun h => ?_) (fun h => ?_)
    · refine xx_iconst C 44 rfl dX1_colourOfNew_43 ?_
      refine xx_goto C 48 dX1_colourOfNew_44 (by decide) ?_
      exact xx_iretp C E rfl ⟨Nat.le_of_ble_eq_true rfl, Nat.le_of_ble_eq_true rfl⟩ dX1_colourOfNew_48 h
    · refine xx_iload_n C 40 rfl 0 dX1_colourOfNew_39 rfl rfl ?_
      refine xx_if_eq (tgt := 47) C 43 rfl dX1_colourOfNew_40 (by decide) h (fun h => ?_) (fun h => ?_)
      · refine xx_iconst C 48 rfl dX1_colourOfNew_47 ?_
        exact xx_iretp C E rfl ⟨Nat.le_of_ble_eq_true rfl, Nat.le_of_ble_eq_true rfl⟩ dX1_colourOfNew_48 h
      · refine xx_iconst C 44 rfl dX1_colourOfNew_43 ?_
        refine xx_goto C 48 dX1_colourOfNew_44 (by decide) ?_
        exact xx_iretp C E rfl ⟨Nat.le_of_ble_eq_true rfl, Nat.le_of_ble_eq_true rfl⟩ dX1_colourOfNew_48 h
  · refine jn_r (fun J => ∀ (_u : Unit), J _u = some a → wx_ G X 151 ad (ceX G ad) μ 0 0 26 [(0, .ref (ad 134))] []) h (fun _ h => ?_) (fun J26 K26 h => ?_)
    · refine xx_iconst C 27 rfl dX1_colourOfNew_26 ?_
      exact K27 0 h
    · refine xx_icmp_ne (tgt := 26) C 11 rfl dX1_colourOfNew_8 (by decide) h (fun h => ?_) (fun h => ?_)
      · refine xx_sub [0] rfl ?_
        exact K26 () h
      · refine xx_iload_n C 12 rfl 1 dX1_colourOfNew_11 rfl rfl ?_
        refine xx_aload_n C 13 rfl 0 dX1_colourOfNew_12 rfl rfl ?_
        refine xx_getr (fi := 0) C 16 rfl (by decide) (ceX_134 _ _ _) rfl in_X1 (by decide) rfl w_195 dX1_colourOfNew_13 ?_
        refine xx_geti (fi := 10) (j := 10) C 19 rfl (by decide) (ceX_0 _ _ _) rfl in_X2 (by decide) rfl w_119 dX1_colourOfNew_16 h (fun v16 h => ?_)
        refine xx_icmp_lt (tgt := 26) C 22 rfl dX1_colourOfNew_19 (by decide) h (fun h => ?_) (fun h => ?_)
        · refine xx_sub [0] rfl ?_
          exact K26 () h
        · refine xx_iconst C 23 rfl dX1_colourOfNew_22 ?_
          refine xx_goto C 27 dX1_colourOfNew_23 (by decide) ?_
          refine xx_sub [0] rfl ?_
          exact K27 1 h

def f_X2_hasUrn (μ : mu_T) (a1 : Int) : Option Int :=
  lt_ a1 0
      (some 0)
      (lt_ a1 24
      (rd_ μ 4 24 a1 (fun v15 => eq_ v15 (-1)
      (some 0)
      (some 1)))
      (some 0))
set_option maxHeartbeats 4000000 in
set_option maxRecDepth 100000 in
theorem c_X2_hasUrn {G : gp_} {ad : Nat → Nat} (μ : mu_T) (a1 : Int) (a : Int) (h : f_X2_hasUrn μ a1 = some a) : mi_ yX2_hasUrn cX2_hasUrn 2 (some .boolean) ({ frames := 0, cells := 0, slots := 0, locals := 0 } : Room) G 151 ad (ceX G ad) [.ref (ad 0), .int (iI a1)] μ a μ := by
  refine mi_in (own := "UrnHeap$Heap") (lv := [(0, .ref (ad 0)), (1, .int (iI a1))]) (by decide) rfl rfl (Nat.le_of_ble_eq_true rfl) (fun X C E => ?_)
  unfold f_X2_hasUrn at h
  refine xx_iload_n C 1 rfl 1 dX2_hasUrn_0 rfl rfl ?_
  refine xx_if_lt (tgt := 24) C 4 rfl dX2_hasUrn_1 (by decide) h (fun h => ?_) (fun h => ?_)
  · refine xx_iconst C 25 rfl dX2_hasUrn_24 ?_
    exact xx_zretl C E rfl rfl ⟨Nat.le_of_ble_eq_true rfl, Nat.le_of_ble_eq_true rfl⟩ dX2_hasUrn_25 h
  · refine xx_iload_n C 5 rfl 1 dX2_hasUrn_4 rfl rfl ?_
    refine xx_bipush C 7 rfl dX2_hasUrn_5 (by decide) ?_
    refine xx_icmp_ge (tgt := 24) C 10 rfl dX2_hasUrn_7 (by decide) h (fun h => ?_) (fun h => ?_)
    · refine xx_iconst C 25 rfl dX2_hasUrn_24 ?_
      exact xx_zretl C E rfl rfl ⟨Nat.le_of_ble_eq_true rfl, Nat.le_of_ble_eq_true rfl⟩ dX2_hasUrn_25 h
    · refine xx_aload_n C 11 rfl 0 dX2_hasUrn_10 rfl rfl ?_
      refine xx_getr (fi := 3) C 14 rfl (by decide) (ceX_0 _ _ _) rfl in_X2 (by decide) rfl w_95 dX2_hasUrn_11 ?_
      refine xx_iload_n C 15 rfl 1 dX2_hasUrn_14 rfl rfl ?_
      refine xx_iaload C 16 rfl (by decide) (fun row => ceX_4 _ _ row) (by decide) dX2_hasUrn_15 h (fun v15 h => ?_)
      refine xx_iconst C 17 rfl dX2_hasUrn_16 ?_
      refine xx_icmp_eq (tgt := 24) C 20 rfl dX2_hasUrn_17 (by decide) h (fun h => ?_) (fun h => ?_)
      · refine xx_iconst C 25 rfl dX2_hasUrn_24 ?_
        exact xx_zretl C E rfl rfl ⟨Nat.le_of_ble_eq_true rfl, Nat.le_of_ble_eq_true rfl⟩ dX2_hasUrn_25 h
      · refine xx_iconst C 21 rfl dX2_hasUrn_20 ?_
        refine xx_goto C 25 dX2_hasUrn_21 (by decide) ?_
        exact xx_zretl C E rfl rfl ⟨Nat.le_of_ble_eq_true rfl, Nat.le_of_ble_eq_true rfl⟩ dX2_hasUrn_25 h

def f_X1_makeUrn_L2 (J19 : Int → Option (Int × mu_T)) (J88 : Unit → Option (Int × mu_T)) (μ : mu_T) : Nat → Int → Option (Int × mu_T)
  | 0, _ => none
  | fu2 + 1, x2_2 => lt_ x2_2 24
      (bd_ (f_X2_hasUrn μ x2_2) (fun v13 => eq_ v13 0
      (J19 x2_2)
      (nm_ (x2_2 + 1) (fun n82 => (f_X1_makeUrn_L2 J19 J88 μ fu2) n82))))
      (J88 ())
def f_X1_makeUrn (μ : mu_T) (a1 : Int) : Option (Int × mu_T) :=
  jn_ (φ := Unit → Option (Int × mu_T)) (fun _ => bp_ (f_X8_refuse μ 1 24) (fun v95 μ95 => some (v95, μ95)))
      (fun J88 => jn_ (φ := Int → Option (Int × mu_T)) (fun x2_19 => bd_ (f_X1_colourOfNew μ x2_19) (fun v29 => wr_ μ 4 24 x2_19 v29 (fun μ32 => jn_ (φ := Int → Option (Int × mu_T)) (fun s0_50 => wr_ μ32 3 24 x2_19 s0_50 (fun μ50 => nm_ (μ50 0 11) (fun v63 => wr_ μ50 5 24 x2_19 v63 (fun μ66 => nm_ (μ66 0 12) (fun v72 => wf_ μ66 0 12 (v72 + 1) (fun μ77 => some (x2_19, μ77)))))))
      (fun J50 => eq_ a1 0
      (J50 0)
      (J50 1)))))
      (fun J19 => f_X1_makeUrn_L2 J19 J88 μ 20000 0))
set_option maxHeartbeats 4000000 in
set_option maxRecDepth 100000 in
theorem c_X1_makeUrn {G : gp_} {ad : Nat → Nat} (μ : mu_T) (a1 : Int) (a : Int) (μr : mu_T) (h : f_X1_makeUrn μ a1 = some (a, μr)) : mi_ yX1_makeUrn cX1_makeUrn 3 (some .int) ({ frames := 1, cells := 0, slots := 0, locals := 22 } : Room) G 151 ad (ceX G ad) [.ref (ad 134), .int (iI a1)] μ a μr := by
  refine mi_in (own := "UrnHeap$Hands") (lv := [(0, .ref (ad 134)), (1, .int (iI a1))]) (by decide) rfl rfl (Nat.le_of_ble_eq_true rfl) (fun X C E => ?_)
  unfold f_X1_makeUrn at h
  refine xx_iconst C 1 rfl dX1_makeUrn_0 ?_
  refine xx_istore_n (lv1 := [(2, .int (iI 0)), (0, .ref (ad 134)), (1, .int (iI a1))]) C 2 rfl (by decide) dX1_makeUrn_1 rfl rfl ?_
  refine jn_r (fun J => ∀ (_u : Unit), J _u = some (a, μr) → wx_ G X 151 ad (ceX G ad) μ 0 0 88 [(0, .ref (ad 134))] []) h (fun _ h => ?_) (fun J88 K88 h => ?_)
  · refine xx_aload_n C 89 rfl 0 dX1_makeUrn_88 rfl rfl ?_
    refine xx_getr (fi := 1) C 92 rfl (by decide) (ceX_134 _ _ _) rfl in_X1 (by decide) rfl w_196 dX1_makeUrn_89 ?_
    refine xx_iconst C 93 rfl dX1_makeUrn_92 ?_
    refine xx_bipush C 95 rfl dX1_makeUrn_93 (by decide) ?_
    refine xx_cVi (As := [.int (iI 1), .int (iI 24)]) (st := []) (o := 133) C 98 rfl (by decide) (ceX_133 _ _ _) rfl rfl ca_X8_refuse cv_X8_refuse w_439 rfl ⟨Nat.le_of_ble_eq_true rfl, Nat.le_of_ble_eq_true rfl⟩ ⟨Nat.le_of_ble_eq_true rfl, Nat.le_of_ble_eq_true rfl⟩ (Nat.le_of_ble_eq_true rfl) dX1_makeUrn_95 (fun v95 μ95 e9 => c_X8_refuse _ _ _ v95 μ95 e9) h (fun v95 μ95 h => ?_) rfl
    exact xx_iret C E rfl ⟨Nat.le_of_ble_eq_true rfl, Nat.le_of_ble_eq_true rfl⟩ dX1_makeUrn_98 h
  · refine jn_r (fun J => ∀ (x2_19 : Int), J x2_19 = some (a, μr) → wx_ G X 151 ad (ceX G ad) μ 0 0 19 [(0, .ref (ad 134)), (1, .int (iI a1)), (2, .int (iI x2_19))] []) h (fun x2_19 h => ?_) (fun J19 K19 h => ?_)
    · refine xx_aload_n C 20 rfl 0 dX1_makeUrn_19 rfl rfl ?_
      refine xx_getr (fi := 0) C 23 rfl (by decide) (ceX_134 _ _ _) rfl in_X1 (by decide) rfl w_195 dX1_makeUrn_20 ?_
      refine xx_getr (fi := 3) C 26 rfl (by decide) (ceX_0 _ _ _) rfl in_X2 (by decide) rfl w_96 dX1_makeUrn_23 ?_
      refine xx_iload_n C 27 rfl 2 dX1_makeUrn_26 rfl rfl ?_
      refine xx_aload_n C 28 rfl 0 dX1_makeUrn_27 rfl rfl ?_
      refine xx_iload_n C 29 rfl 2 dX1_makeUrn_28 rfl rfl ?_
      refine xx_cVip (As := [.int (iI x2_19)]) (st := [.int (iI x2_19), .ref (ad 4)]) (o := 134) C 32 rfl (by decide) (ceX_134 _ _ _) rfl rfl ca_X1_colourOfNew cv_X1_colourOfNew w_435 rfl ⟨Nat.le_of_ble_eq_true rfl, Nat.le_of_ble_eq_true rfl⟩ ⟨Nat.le_of_ble_eq_true rfl, Nat.le_of_ble_eq_true rfl⟩ (Nat.le_of_ble_eq_true rfl) dX1_makeUrn_29 (fun v29 e9 => c_X1_colourOfNew _ _ v29 e9) h (fun v29 h => ?_) rfl
      refine xx_iastore C 33 rfl (by decide) (fun row => ceX_4 _ _ row) (by decide) dX1_makeUrn_32 h (fun μ32 h => ?_)
      refine xx_aload_n C 34 rfl 0 dX1_makeUrn_33 rfl rfl ?_
      refine xx_getr (fi := 0) C 37 rfl (by decide) (ceX_134 _ _ _) rfl in_X1 (by decide) rfl w_195 dX1_makeUrn_34 ?_
      refine xx_getr (fi := 2) C 40 rfl (by decide) (ceX_0 _ _ _) rfl in_X2 (by decide) rfl w_91 dX1_makeUrn_37 ?_
      refine xx_iload_n C 41 rfl 2 dX1_makeUrn_40 rfl rfl ?_
      refine xx_iload_n C 42 rfl 1 dX1_makeUrn_41 rfl rfl ?_
      refine jn_r (fun J => ∀ (s0_50 : Int), J s0_50 = some (a, μr) → wx_ G X 151 ad (ceX G ad) μ32 0 0 50 [(0, .ref (ad 134)), (2, .int (iI x2_19))] [.int (iI s0_50), .int (iI x2_19), .ref (ad 3)]) h (fun s0_50 h => ?_) (fun J50 K50 h => ?_)
      · refine xx_iastore C 51 rfl (by decide) (fun row => ceX_3 _ _ row) (by decide) dX1_makeUrn_50 h (fun μ50 h => ?_)
        refine xx_aload_n C 52 rfl 0 dX1_makeUrn_51 rfl rfl ?_
        refine xx_getr (fi := 0) C 55 rfl (by decide) (ceX_134 _ _ _) rfl in_X1 (by decide) rfl w_195 dX1_makeUrn_52 ?_
        refine xx_getr (fi := 4) C 58 rfl (by decide) (ceX_0 _ _ _) rfl in_X2 (by decide) rfl w_100 dX1_makeUrn_55 ?_
        refine xx_iload_n C 59 rfl 1 dX1_makeUrn_58 rfl rfl ?_
        refine xx_aload_n C 60 rfl 0 dX1_makeUrn_59 rfl rfl ?_
        refine xx_getr (fi := 0) C 63 rfl (by decide) (ceX_134 _ _ _) rfl in_X1 (by decide) rfl w_195 dX1_makeUrn_60 ?_
        refine xx_geti (fi := 11) (j := 11) C 66 rfl (by decide) (ceX_0 _ _ _) rfl in_X2 (by decide) rfl w_123 dX1_makeUrn_63 h (fun v63 h => ?_)
        refine xx_iastore C 67 rfl (by decide) (fun row => ceX_5 _ _ row) (by decide) dX1_makeUrn_66 h (fun μ66 h => ?_)
        refine xx_aload_n C 68 rfl 0 dX1_makeUrn_67 rfl rfl ?_
        refine xx_getr (fi := 0) C 71 rfl (by decide) (ceX_134 _ _ _) rfl in_X1 (by decide) rfl w_195 dX1_makeUrn_68 ?_
        refine xx_dup C 72 rfl dX1_makeUrn_71 rfl ?_
        refine xx_geti (fi := 12) (j := 12) C 75 rfl (by decide) (ceX_0 _ _ _) rfl in_X2 (by decide) rfl w_127 dX1_makeUrn_72 h (fun v72 h => ?_)
        refine xx_iconst C 76 rfl dX1_makeUrn_75 ?_
        refine xx_iadd C 77 rfl dX1_makeUrn_76 ?_
        refine xx_puti (fi := 12) (j := 12) C 80 rfl (by decide) (ceX_0 _ _ _) (puX_0_12 _ _ _ _) rfl in_X2 tyX2 tyX2_ok nmX2 (by decide) (Nat.le_of_ble_eq_true rfl) ⟨rfl, rfl⟩ w_127 dX1_makeUrn_77 h (fun μ77 h => ?_)
        refine xx_iload_n C 81 rfl 1 dX1_makeUrn_80 rfl rfl ?_
        exact xx_iret C E rfl ⟨Nat.le_of_ble_eq_true rfl, Nat.le_of_ble_eq_true rfl⟩ dX1_makeUrn_81 h
      · refine xx_if_eq (tgt := 49) C 45 rfl dX1_makeUrn_42 (by decide) h (fun h => ?_) (fun h => ?_)
        · refine xx_iconst C 50 rfl dX1_makeUrn_49 ?_
          refine xx_sub [0, 2] rfl ?_
          exact K50 0 h
        · refine xx_iconst C 46 rfl dX1_makeUrn_45 ?_
          refine xx_goto C 50 dX1_makeUrn_46 (by decide) ?_
          refine xx_sub [0, 2] rfl ?_
          exact K50 1 h
    · have L2 : ∀ (fu2 : Nat) (x2_2 : Int), f_X1_makeUrn_L2 J19 J88 μ fu2 x2_2 = some (a, μr) → wx_ G X 151 ad (ceX G ad) μ 0 0 2 [(0, .ref (ad 134)), (1, .int (iI a1)), (2, .int (iI x2_2))] [] := by
        intro fu2
        induction fu2 with
        | zero => intro x2_2 h; exact nn_ h
        | succ fu2 K2 =>
          intro x2_2 h
          rw [f_X1_makeUrn_L2] at h
          generalize f_X1_makeUrn_L2 J19 J88 μ fu2 = R2 at K2 h
          refine xx_iload_n C 3 rfl 2 dX1_makeUrn_2 rfl rfl ?_
          refine xx_bipush C 5 rfl dX1_makeUrn_3 (by decide) ?_
          refine xx_icmp_ge (tgt := 88) C 8 rfl dX1_makeUrn_5 (by decide) h (fun h => ?_) (fun h => ?_)
          · refine xx_sub [0] rfl ?_
            exact K88 () h
          · refine xx_aload_n C 9 rfl 0 dX1_makeUrn_8 rfl rfl ?_
            refine xx_getr (fi := 0) C 12 rfl (by decide) (ceX_134 _ _ _) rfl in_X1 (by decide) rfl w_195 dX1_makeUrn_9 ?_
            refine xx_iload_n C 13 rfl 2 dX1_makeUrn_12 rfl rfl ?_
            refine xx_cVip (As := [.int (iI x2_2)]) (st := []) (o := 0) C 16 rfl (by decide) (ceX_0 _ _ _) rfl rfl ca_X2_hasUrn cv_X2_hasUrn w_431 rfl ⟨Nat.le_of_ble_eq_true rfl, Nat.le_of_ble_eq_true rfl⟩ ⟨Nat.le_of_ble_eq_true rfl, Nat.le_of_ble_eq_true rfl⟩ (Nat.le_of_ble_eq_true rfl) dX1_makeUrn_13 (fun v13 e9 => c_X2_hasUrn _ _ v13 e9) h (fun v13 h => ?_) rfl
            refine xx_if_ne (tgt := 82) C 19 rfl dX1_makeUrn_16 (by decide) h (fun h => ?_) (fun h => ?_)
            · refine xx_iincn C 85 rfl 2 (by decide) dX1_makeUrn_82 rfl h (fun n82 h => ?_)
              refine xx_lv (lv1 := [(2, .int (iI n82)), (0, .ref (ad 134)), (1, .int (iI a1))]) rfl ?_
              refine xx_goto C 2 dX1_makeUrn_85 (by decide) ?_
              refine xx_sub [1, 2, 0] rfl ?_
              exact K2 n82 h
            · exact K19 x2_2 h
      refine xx_sub [1, 2, 0] rfl ?_
      exact L2 _ _ h

def f_X11_isSlot (μ : mu_T) (a0 : Int) : Option Int :=
  lt_ a0 0
      (some 0)
      (lt_ a0 4
      (some 1)
      (some 0))
set_option maxHeartbeats 4000000 in
set_option maxRecDepth 100000 in
theorem c_X11_isSlot {G : gp_} {ad : Nat → Nat} (μ : mu_T) (a0 : Int) (a : Int) (h : f_X11_isSlot μ a0 = some a) : mi_ yX11_isSlot cX11_isSlot 1 (some .boolean) ({ frames := 0, cells := 0, slots := 0, locals := 0 } : Room) G 151 ad (ceX G ad) [.int (iI a0)] μ a μ := by
  refine mi_in (own := "UrnHeap") (lv := [(0, .int (iI a0))]) (by decide) rfl rfl (Nat.le_of_ble_eq_true rfl) (fun X C E => ?_)
  unfold f_X11_isSlot at h
  refine xx_iload_n C 1 rfl 0 dX11_isSlot_0 rfl rfl ?_
  refine xx_if_lt (tgt := 13) C 4 rfl dX11_isSlot_1 (by decide) h (fun h => ?_) (fun h => ?_)
  · refine xx_iconst C 14 rfl dX11_isSlot_13 ?_
    exact xx_zretl C E rfl rfl ⟨Nat.le_of_ble_eq_true rfl, Nat.le_of_ble_eq_true rfl⟩ dX11_isSlot_14 h
  · refine xx_iload_n C 5 rfl 0 dX11_isSlot_4 rfl rfl ?_
    refine xx_iconst C 6 rfl dX11_isSlot_5 ?_
    refine xx_icmp_ge (tgt := 13) C 9 rfl dX11_isSlot_6 (by decide) h (fun h => ?_) (fun h => ?_)
    · refine xx_iconst C 14 rfl dX11_isSlot_13 ?_
      exact xx_zretl C E rfl rfl ⟨Nat.le_of_ble_eq_true rfl, Nat.le_of_ble_eq_true rfl⟩ dX11_isSlot_14 h
    · refine xx_iconst C 10 rfl dX11_isSlot_9 ?_
      refine xx_goto C 14 dX11_isSlot_10 (by decide) ?_
      exact xx_zretl C E rfl rfl ⟨Nat.le_of_ble_eq_true rfl, Nat.le_of_ble_eq_true rfl⟩ dX11_isSlot_14 h

def f_X2_isWhite (μ : mu_T) (a1 : Int) : Option Int :=
  lt_ a1 0
      (some 0)
      (lt_ a1 24
      (rd_ μ 4 24 a1 (fun v15 => eq_ v15 0
      (some 1)
      (some 0)))
      (some 0))
set_option maxHeartbeats 4000000 in
set_option maxRecDepth 100000 in
theorem c_X2_isWhite {G : gp_} {ad : Nat → Nat} (μ : mu_T) (a1 : Int) (a : Int) (h : f_X2_isWhite μ a1 = some a) : mi_ yX2_isWhite cX2_isWhite 2 (some .boolean) ({ frames := 0, cells := 0, slots := 0, locals := 0 } : Room) G 151 ad (ceX G ad) [.ref (ad 0), .int (iI a1)] μ a μ := by
  refine mi_in (own := "UrnHeap$Heap") (lv := [(0, .ref (ad 0)), (1, .int (iI a1))]) (by decide) rfl rfl (Nat.le_of_ble_eq_true rfl) (fun X C E => ?_)
  unfold f_X2_isWhite at h
  refine xx_iload_n C 1 rfl 1 dX2_isWhite_0 rfl rfl ?_
  refine xx_if_lt (tgt := 23) C 4 rfl dX2_isWhite_1 (by decide) h (fun h => ?_) (fun h => ?_)
  · refine xx_iconst C 24 rfl dX2_isWhite_23 ?_
    exact xx_zretl C E rfl rfl ⟨Nat.le_of_ble_eq_true rfl, Nat.le_of_ble_eq_true rfl⟩ dX2_isWhite_24 h
  · refine xx_iload_n C 5 rfl 1 dX2_isWhite_4 rfl rfl ?_
    refine xx_bipush C 7 rfl dX2_isWhite_5 (by decide) ?_
    refine xx_icmp_ge (tgt := 23) C 10 rfl dX2_isWhite_7 (by decide) h (fun h => ?_) (fun h => ?_)
    · refine xx_iconst C 24 rfl dX2_isWhite_23 ?_
      exact xx_zretl C E rfl rfl ⟨Nat.le_of_ble_eq_true rfl, Nat.le_of_ble_eq_true rfl⟩ dX2_isWhite_24 h
    · refine xx_aload_n C 11 rfl 0 dX2_isWhite_10 rfl rfl ?_
      refine xx_getr (fi := 3) C 14 rfl (by decide) (ceX_0 _ _ _) rfl in_X2 (by decide) rfl w_95 dX2_isWhite_11 ?_
      refine xx_iload_n C 15 rfl 1 dX2_isWhite_14 rfl rfl ?_
      refine xx_iaload C 16 rfl (by decide) (fun row => ceX_4 _ _ row) (by decide) dX2_isWhite_15 h (fun v15 h => ?_)
      refine xx_if_ne (tgt := 23) C 19 rfl dX2_isWhite_16 (by decide) h (fun h => ?_) (fun h => ?_)
      · refine xx_iconst C 24 rfl dX2_isWhite_23 ?_
        exact xx_zretl C E rfl rfl ⟨Nat.le_of_ble_eq_true rfl, Nat.le_of_ble_eq_true rfl⟩ dX2_isWhite_24 h
      · refine xx_iconst C 20 rfl dX2_isWhite_19 ?_
        refine xx_goto C 24 dX2_isWhite_20 (by decide) ?_
        exact xx_zretl C E rfl rfl ⟨Nat.le_of_ble_eq_true rfl, Nat.le_of_ble_eq_true rfl⟩ dX2_isWhite_24 h

def f_X2_isToBeSwept (μ : mu_T) (a1 : Int) : Option Int :=
  nm_ (μ 0 9) (fun v1 => eq_ v1 2
      (bd_ (f_X2_isWhite μ a1) (fun v10 => eq_ v10 0
      (some 0)
      (nm_ (μ 0 10) (fun v18 => lt_ a1 v18
      (some 0)
      (some 1)))))
      (some 0))
set_option maxHeartbeats 4000000 in
set_option maxRecDepth 100000 in
theorem c_X2_isToBeSwept {G : gp_} {ad : Nat → Nat} (μ : mu_T) (a1 : Int) (a : Int) (h : f_X2_isToBeSwept μ a1 = some a) : mi_ yX2_isToBeSwept cX2_isToBeSwept 2 (some .boolean) ({ frames := 1, cells := 0, slots := 0, locals := 21 } : Room) G 151 ad (ceX G ad) [.ref (ad 0), .int (iI a1)] μ a μ := by
  refine mi_in (own := "UrnHeap$Heap") (lv := [(0, .ref (ad 0)), (1, .int (iI a1))]) (by decide) rfl rfl (Nat.le_of_ble_eq_true rfl) (fun X C E => ?_)
  unfold f_X2_isToBeSwept at h
  refine xx_aload_n C 1 rfl 0 dX2_isToBeSwept_0 rfl rfl ?_
  refine xx_geti (fi := 9) (j := 9) C 4 rfl (by decide) (ceX_0 _ _ _) rfl in_X2 (by decide) rfl w_114 dX2_isToBeSwept_1 h (fun v1 h => ?_)
  refine xx_iconst C 5 rfl dX2_isToBeSwept_4 ?_
  refine xx_icmp_ne (tgt := 28) C 8 rfl dX2_isToBeSwept_5 (by decide) h (fun h => ?_) (fun h => ?_)
  · refine xx_iconst C 29 rfl dX2_isToBeSwept_28 ?_
    exact xx_zretl C E rfl rfl ⟨Nat.le_of_ble_eq_true rfl, Nat.le_of_ble_eq_true rfl⟩ dX2_isToBeSwept_29 h
  · refine xx_aload_n C 9 rfl 0 dX2_isToBeSwept_8 rfl rfl ?_
    refine xx_iload_n C 10 rfl 1 dX2_isToBeSwept_9 rfl rfl ?_
    refine xx_cVip (As := [.int (iI a1)]) (st := []) (o := 0) C 13 rfl (by decide) (ceX_0 _ _ _) rfl rfl ca_X2_isWhite cv_X2_isWhite w_468 rfl ⟨Nat.le_of_ble_eq_true rfl, Nat.le_of_ble_eq_true rfl⟩ ⟨Nat.le_of_ble_eq_true rfl, Nat.le_of_ble_eq_true rfl⟩ (Nat.le_of_ble_eq_true rfl) dX2_isToBeSwept_10 (fun v10 e9 => c_X2_isWhite _ _ v10 e9) h (fun v10 h => ?_) rfl
    refine xx_if_eq (tgt := 28) C 16 rfl dX2_isToBeSwept_13 (by decide) h (fun h => ?_) (fun h => ?_)
    · refine xx_iconst C 29 rfl dX2_isToBeSwept_28 ?_
      exact xx_zretl C E rfl rfl ⟨Nat.le_of_ble_eq_true rfl, Nat.le_of_ble_eq_true rfl⟩ dX2_isToBeSwept_29 h
    · refine xx_iload_n C 17 rfl 1 dX2_isToBeSwept_16 rfl rfl ?_
      refine xx_aload_n C 18 rfl 0 dX2_isToBeSwept_17 rfl rfl ?_
      refine xx_geti (fi := 10) (j := 10) C 21 rfl (by decide) (ceX_0 _ _ _) rfl in_X2 (by decide) rfl w_118 dX2_isToBeSwept_18 h (fun v18 h => ?_)
      refine xx_icmp_lt (tgt := 28) C 24 rfl dX2_isToBeSwept_21 (by decide) h (fun h => ?_) (fun h => ?_)
      · refine xx_iconst C 29 rfl dX2_isToBeSwept_28 ?_
        exact xx_zretl C E rfl rfl ⟨Nat.le_of_ble_eq_true rfl, Nat.le_of_ble_eq_true rfl⟩ dX2_isToBeSwept_29 h
      · refine xx_iconst C 25 rfl dX2_isToBeSwept_24 ?_
        refine xx_goto C 29 dX2_isToBeSwept_25 (by decide) ?_
        exact xx_zretl C E rfl rfl ⟨Nat.le_of_ble_eq_true rfl, Nat.le_of_ble_eq_true rfl⟩ dX2_isToBeSwept_29 h

def f_X11_isCell (μ : mu_T) (a0 : Int) : Option Int :=
  lt_ a0 0
      (some 0)
      (lt_ a0 24
      (some 1)
      (some 0))
set_option maxHeartbeats 4000000 in
set_option maxRecDepth 100000 in
theorem c_X11_isCell {G : gp_} {ad : Nat → Nat} (μ : mu_T) (a0 : Int) (a : Int) (h : f_X11_isCell μ a0 = some a) : mi_ yX11_isCell cX11_isCell 1 (some .boolean) ({ frames := 0, cells := 0, slots := 0, locals := 0 } : Room) G 151 ad (ceX G ad) [.int (iI a0)] μ a μ := by
  refine mi_in (own := "UrnHeap") (lv := [(0, .int (iI a0))]) (by decide) rfl rfl (Nat.le_of_ble_eq_true rfl) (fun X C E => ?_)
  unfold f_X11_isCell at h
  refine xx_iload_n C 1 rfl 0 dX11_isCell_0 rfl rfl ?_
  refine xx_if_lt (tgt := 14) C 4 rfl dX11_isCell_1 (by decide) h (fun h => ?_) (fun h => ?_)
  · refine xx_iconst C 15 rfl dX11_isCell_14 ?_
    exact xx_zretl C E rfl rfl ⟨Nat.le_of_ble_eq_true rfl, Nat.le_of_ble_eq_true rfl⟩ dX11_isCell_15 h
  · refine xx_iload_n C 5 rfl 0 dX11_isCell_4 rfl rfl ?_
    refine xx_bipush C 7 rfl dX11_isCell_5 (by decide) ?_
    refine xx_icmp_ge (tgt := 14) C 10 rfl dX11_isCell_7 (by decide) h (fun h => ?_) (fun h => ?_)
    · refine xx_iconst C 15 rfl dX11_isCell_14 ?_
      exact xx_zretl C E rfl rfl ⟨Nat.le_of_ble_eq_true rfl, Nat.le_of_ble_eq_true rfl⟩ dX11_isCell_15 h
    · refine xx_iconst C 11 rfl dX11_isCell_10 ?_
      refine xx_goto C 15 dX11_isCell_11 (by decide) ?_
      exact xx_zretl C E rfl rfl ⟨Nat.le_of_ble_eq_true rfl, Nat.le_of_ble_eq_true rfl⟩ dX11_isCell_15 h

def f_X2_target (μ : mu_T) (a1 : Int) (a2 : Int) : Option Int :=
  bd_ (f_X11_isCell μ a1) (fun v1 => eq_ v1 0
      (some (-15))
      (bd_ (f_X11_isSlot μ a2) (fun v8 => eq_ v8 0
      (some (-15))
      (rd_ μ 1 96 ((a1 * 4) + a2) (fun v23 => some v23)))))
set_option maxHeartbeats 4000000 in
set_option maxRecDepth 100000 in
theorem c_X2_target {G : gp_} {ad : Nat → Nat} (μ : mu_T) (a1 : Int) (a2 : Int) (a : Int) (h : f_X2_target μ a1 a2 = some a) : mi_ yX2_target cX2_target 3 (some .int) ({ frames := 1, cells := 0, slots := 0, locals := 20 } : Room) G 151 ad (ceX G ad) [.ref (ad 0), .int (iI a1), .int (iI a2)] μ a μ := by
  refine mi_in (own := "UrnHeap$Heap") (lv := [(0, .ref (ad 0)), (1, .int (iI a1)), (2, .int (iI a2))]) (by decide) rfl rfl (Nat.le_of_ble_eq_true rfl) (fun X C E => ?_)
  unfold f_X2_target at h
  refine xx_iload_n C 1 rfl 1 dX2_target_0 rfl rfl ?_
  refine xx_cNip (As := [.int (iI a1)]) (st := []) C 4 rfl  ca_X11_isCell cs_X11_isCell 5 rfl rfl ⟨Nat.le_of_ble_eq_true rfl, Nat.le_of_ble_eq_true rfl⟩ ⟨Nat.le_of_ble_eq_true rfl, Nat.le_of_ble_eq_true rfl⟩ (Nat.le_of_ble_eq_true rfl) dX2_target_1 (fun v1 e9 => c_X11_isCell _ _ v1 e9) h (fun v1 h => ?_) rfl
  refine xx_if_eq (tgt := 27) C 7 rfl dX2_target_4 (by decide) h (fun h => ?_) (fun h => ?_)
  · refine xx_bipush C 29 rfl dX2_target_27 (by decide) ?_
    exact xx_iretp C E rfl ⟨Nat.le_of_ble_eq_true rfl, Nat.le_of_ble_eq_true rfl⟩ dX2_target_29 h
  · refine xx_iload_n C 8 rfl 2 dX2_target_7 rfl rfl ?_
    refine xx_cNip (As := [.int (iI a2)]) (st := []) C 11 rfl  ca_X11_isSlot cs_X11_isSlot 6 rfl rfl ⟨Nat.le_of_ble_eq_true rfl, Nat.le_of_ble_eq_true rfl⟩ ⟨Nat.le_of_ble_eq_true rfl, Nat.le_of_ble_eq_true rfl⟩ (Nat.le_of_ble_eq_true rfl) dX2_target_8 (fun v8 e9 => c_X11_isSlot _ _ v8 e9) h (fun v8 h => ?_) rfl
    refine xx_if_eq (tgt := 27) C 14 rfl dX2_target_11 (by decide) h (fun h => ?_) (fun h => ?_)
    · refine xx_bipush C 29 rfl dX2_target_27 (by decide) ?_
      exact xx_iretp C E rfl ⟨Nat.le_of_ble_eq_true rfl, Nat.le_of_ble_eq_true rfl⟩ dX2_target_29 h
    · refine xx_aload_n C 15 rfl 0 dX2_target_14 rfl rfl ?_
      refine xx_getr (fi := 0) C 18 rfl (by decide) (ceX_0 _ _ _) rfl in_X2 (by decide) rfl w_83 dX2_target_15 ?_
      refine xx_iload_n C 19 rfl 1 dX2_target_18 rfl rfl ?_
      refine xx_iconst C 20 rfl dX2_target_19 ?_
      refine xx_imul C 21 rfl dX2_target_20 ?_
      refine xx_iload_n C 22 rfl 2 dX2_target_21 rfl rfl ?_
      refine xx_iadd C 23 rfl dX2_target_22 ?_
      refine xx_iaload C 24 rfl (by decide) (fun row => ceX_1 _ _ row) (by decide) dX2_target_23 h (fun v23 h => ?_)
      refine xx_goto C 29 dX2_target_24 (by decide) ?_
      exact xx_iretp C E rfl ⟨Nat.le_of_ble_eq_true rfl, Nat.le_of_ble_eq_true rfl⟩ dX2_target_29 h

def f_X9_addLast (μ : mu_T) (a1 : Int) : Option mu_T :=
  nm_ (μ 8 1) (fun v1 => lt_ v1 24
      (nm_ (μ 8 1) (fun v17 => wr_ μ 9 24 v17 a1 (fun μ21 => nm_ (μ21 8 1) (fun v24 => wf_ μ21 8 1 (v24 + 1) (fun μ29 => some μ29)))))
      (some μ))
set_option maxHeartbeats 4000000 in
set_option maxRecDepth 100000 in
theorem c_X9_addLast {G : gp_} {ad : Nat → Nat} (μ : mu_T) (a1 : Int) (μr : mu_T) (h : f_X9_addLast μ a1 = some μr) : mv_ yX9_addLast cX9_addLast 2 ({ frames := 0, cells := 0, slots := 0, locals := 0 } : Room) G 151 ad (ceX G ad) [.ref (ad 8), .int (iI a1)] μ μr := by
  refine mv_in (own := "UrnHeap$Row") (lv := [(0, .ref (ad 8)), (1, .int (iI a1))]) (by decide) rfl rfl (Nat.le_of_ble_eq_true rfl) (fun X C E => ?_)
  unfold f_X9_addLast at h
  refine xx_aload_n C 1 rfl 0 dX9_addLast_0 rfl rfl ?_
  refine xx_geti (fi := 1) (j := 1) C 4 rfl (by decide) (ceX_8 _ _ _) rfl in_X9 (by decide) rfl w_71 dX9_addLast_1 h (fun v1 h => ?_)
  refine xx_aload_n C 5 rfl 0 dX9_addLast_4 rfl rfl ?_
  refine xx_getr (fi := 0) C 8 rfl (by decide) (ceX_8 _ _ _) rfl in_X9 (by decide) rfl w_70 dX9_addLast_5 ?_
  refine xx_alen (nA := 24) C 9 rfl (by decide) (fun row => ceX_9 _ _ row) dX9_addLast_8 ?_
  refine xx_icmp_ge (tgt := 32) C 12 rfl dX9_addLast_9 (by decide) h (fun h => ?_) (fun h => ?_)
  · exact xx_vret C E rfl ⟨Nat.le_of_ble_eq_true rfl, Nat.le_of_ble_eq_true rfl⟩ dX9_addLast_32 h
  · refine xx_aload_n C 13 rfl 0 dX9_addLast_12 rfl rfl ?_
    refine xx_getr (fi := 0) C 16 rfl (by decide) (ceX_8 _ _ _) rfl in_X9 (by decide) rfl w_70 dX9_addLast_13 ?_
    refine xx_aload_n C 17 rfl 0 dX9_addLast_16 rfl rfl ?_
    refine xx_geti (fi := 1) (j := 1) C 20 rfl (by decide) (ceX_8 _ _ _) rfl in_X9 (by decide) rfl w_71 dX9_addLast_17 h (fun v17 h => ?_)
    refine xx_iload_n C 21 rfl 1 dX9_addLast_20 rfl rfl ?_
    refine xx_iastore C 22 rfl (by decide) (fun row => ceX_9 _ _ row) (by decide) dX9_addLast_21 h (fun μ21 h => ?_)
    refine xx_aload_n C 23 rfl 0 dX9_addLast_22 rfl rfl ?_
    refine xx_dup C 24 rfl dX9_addLast_23 rfl ?_
    refine xx_geti (fi := 1) (j := 1) C 27 rfl (by decide) (ceX_8 _ _ _) rfl in_X9 (by decide) rfl w_71 dX9_addLast_24 h (fun v24 h => ?_)
    refine xx_iconst C 28 rfl dX9_addLast_27 ?_
    refine xx_iadd C 29 rfl dX9_addLast_28 ?_
    refine xx_puti (fi := 1) (j := 1) C 32 rfl (by decide) (ceX_8 _ _ _) (puX_8_1 _ _ _ _) rfl in_X9 tyX9 tyX9_ok nmX9 (by decide) (Nat.le_of_ble_eq_true rfl) ⟨rfl, rfl⟩ w_71 dX9_addLast_29 h (fun μ29 h => ?_)
    exact xx_vret C E rfl ⟨Nat.le_of_ble_eq_true rfl, Nat.le_of_ble_eq_true rfl⟩ dX9_addLast_32 h

def f_X2_makeGrey (μ : mu_T) (a1 : Int) : Option mu_T :=
  bd_ (f_X2_isWhite μ a1) (fun v2 => eq_ v2 0
      (some μ)
      (wr_ μ 4 24 a1 1 (fun μ14 => bd_ (f_X9_addLast μ14 a1) (fun μ20 => some μ20))))
set_option maxHeartbeats 4000000 in
set_option maxRecDepth 100000 in
theorem c_X2_makeGrey {G : gp_} {ad : Nat → Nat} (μ : mu_T) (a1 : Int) (μr : mu_T) (h : f_X2_makeGrey μ a1 = some μr) : mv_ yX2_makeGrey cX2_makeGrey 2 ({ frames := 1, cells := 0, slots := 0, locals := 21 } : Room) G 151 ad (ceX G ad) [.ref (ad 0), .int (iI a1)] μ μr := by
  refine mv_in (own := "UrnHeap$Heap") (lv := [(0, .ref (ad 0)), (1, .int (iI a1))]) (by decide) rfl rfl (Nat.le_of_ble_eq_true rfl) (fun X C E => ?_)
  unfold f_X2_makeGrey at h
  refine xx_aload_n C 1 rfl 0 dX2_makeGrey_0 rfl rfl ?_
  refine xx_iload_n C 2 rfl 1 dX2_makeGrey_1 rfl rfl ?_
  refine xx_cVip (As := [.int (iI a1)]) (st := []) (o := 0) C 5 rfl (by decide) (ceX_0 _ _ _) rfl rfl ca_X2_isWhite cv_X2_isWhite w_468 rfl ⟨Nat.le_of_ble_eq_true rfl, Nat.le_of_ble_eq_true rfl⟩ ⟨Nat.le_of_ble_eq_true rfl, Nat.le_of_ble_eq_true rfl⟩ (Nat.le_of_ble_eq_true rfl) dX2_makeGrey_2 (fun v2 e9 => c_X2_isWhite _ _ v2 e9) h (fun v2 h => ?_) rfl
  refine xx_if_eq (tgt := 23) C 8 rfl dX2_makeGrey_5 (by decide) h (fun h => ?_) (fun h => ?_)
  · exact xx_vret C E rfl ⟨Nat.le_of_ble_eq_true rfl, Nat.le_of_ble_eq_true rfl⟩ dX2_makeGrey_23 h
  · refine xx_aload_n C 9 rfl 0 dX2_makeGrey_8 rfl rfl ?_
    refine xx_getr (fi := 3) C 12 rfl (by decide) (ceX_0 _ _ _) rfl in_X2 (by decide) rfl w_95 dX2_makeGrey_9 ?_
    refine xx_iload_n C 13 rfl 1 dX2_makeGrey_12 rfl rfl ?_
    refine xx_iconst C 14 rfl dX2_makeGrey_13 ?_
    refine xx_iastore C 15 rfl (by decide) (fun row => ceX_4 _ _ row) (by decide) dX2_makeGrey_14 h (fun μ14 h => ?_)
    refine xx_aload_n C 16 rfl 0 dX2_makeGrey_15 rfl rfl ?_
    refine xx_getr (fi := 7) C 19 rfl (by decide) (ceX_0 _ _ _) rfl in_X2 (by decide) rfl w_108 dX2_makeGrey_16 ?_
    refine xx_iload_n C 20 rfl 1 dX2_makeGrey_19 rfl rfl ?_
    refine xx_cVv (As := [.int (iI a1)]) (st := []) (o := 8) C 23 rfl (by decide) (ceX_8 _ _ _) rfl rfl ca_X9_addLast cv_X9_addLast w_488 rfl ⟨Nat.le_of_ble_eq_true rfl, Nat.le_of_ble_eq_true rfl⟩ ⟨Nat.le_of_ble_eq_true rfl, Nat.le_of_ble_eq_true rfl⟩ (Nat.le_of_ble_eq_true rfl) dX2_makeGrey_20 (fun μ20 e9 => c_X9_addLast _ _ μ20 e9) h (fun μ20 h => ?_) rfl
    exact xx_vret C E rfl ⟨Nat.le_of_ble_eq_true rfl, Nat.le_of_ble_eq_true rfl⟩ dX2_makeGrey_23 h

def f_X2_makeGreyInRound (μ : mu_T) (a1 : Int) : Option mu_T :=
  nm_ (μ 0 9) (fun v1 => eq_ v1 1
      (bd_ (f_X2_makeGrey μ a1) (fun μ10 => some μ10))
      (some μ))
set_option maxHeartbeats 4000000 in
set_option maxRecDepth 100000 in
theorem c_X2_makeGreyInRound {G : gp_} {ad : Nat → Nat} (μ : mu_T) (a1 : Int) (μr : mu_T) (h : f_X2_makeGreyInRound μ a1 = some μr) : mv_ yX2_makeGreyInRound cX2_makeGreyInRound 2 ({ frames := 2, cells := 0, slots := 0, locals := 42 } : Room) G 151 ad (ceX G ad) [.ref (ad 0), .int (iI a1)] μ μr := by
  refine mv_in (own := "UrnHeap$Heap") (lv := [(0, .ref (ad 0)), (1, .int (iI a1))]) (by decide) rfl rfl (Nat.le_of_ble_eq_true rfl) (fun X C E => ?_)
  unfold f_X2_makeGreyInRound at h
  refine xx_aload_n C 1 rfl 0 dX2_makeGreyInRound_0 rfl rfl ?_
  refine xx_geti (fi := 9) (j := 9) C 4 rfl (by decide) (ceX_0 _ _ _) rfl in_X2 (by decide) rfl w_114 dX2_makeGreyInRound_1 h (fun v1 h => ?_)
  refine xx_iconst C 5 rfl dX2_makeGreyInRound_4 ?_
  refine xx_icmp_ne (tgt := 13) C 8 rfl dX2_makeGreyInRound_5 (by decide) h (fun h => ?_) (fun h => ?_)
  · exact xx_vret C E rfl ⟨Nat.le_of_ble_eq_true rfl, Nat.le_of_ble_eq_true rfl⟩ dX2_makeGreyInRound_13 h
  · refine xx_aload_n C 9 rfl 0 dX2_makeGreyInRound_8 rfl rfl ?_
    refine xx_iload_n C 10 rfl 1 dX2_makeGreyInRound_9 rfl rfl ?_
    refine xx_cVv (As := [.int (iI a1)]) (st := []) (o := 0) C 13 rfl (by decide) (ceX_0 _ _ _) rfl rfl ca_X2_makeGrey cv_X2_makeGrey w_484 rfl ⟨Nat.le_of_ble_eq_true rfl, Nat.le_of_ble_eq_true rfl⟩ ⟨Nat.le_of_ble_eq_true rfl, Nat.le_of_ble_eq_true rfl⟩ (Nat.le_of_ble_eq_true rfl) dX2_makeGreyInRound_10 (fun μ10 e9 => c_X2_makeGrey _ _ μ10 e9) h (fun μ10 h => ?_) rfl
    exact xx_vret C E rfl ⟨Nat.le_of_ble_eq_true rfl, Nat.le_of_ble_eq_true rfl⟩ dX2_makeGreyInRound_13 h

def f_X1_tieThread (μ : mu_T) (a1 : Int) (a2 : Int) (a3 : Int) : Option (Int × mu_T) :=
  bd_ (f_X2_hasUrn μ a1) (fun v5 => eq_ v5 0
      (some ((-11), μ))
      (bd_ (f_X11_isSlot μ a2) (fun v12 => eq_ v12 0
      (some ((-11), μ))
      (bd_ (f_X2_hasUrn μ a3) (fun v23 => eq_ v23 0
      (some ((-11), μ))
      (bd_ (f_X2_isToBeSwept μ a1) (fun v37 => eq_ v37 0
      (bd_ (f_X2_isToBeSwept μ a3) (fun v59 => eq_ v59 0
      (bd_ (f_X2_target μ a1 a2) (fun v82 => wr_ μ 1 96 ((a1 * 4) + a2) a3 (fun μ100 => rd_ μ100 4 24 a1 (fun v109 => eq_ v109 2
      (bd_ (f_X2_makeGreyInRound μ100 a3) (fun μ119 => some (v82, μ119)))
      (some (v82, μ100))))))
      (bp_ (f_X8_refuse μ 7 a3) (fun v72 μ72 => some (v72, μ72)))))
      (bp_ (f_X8_refuse μ 7 a1) (fun v50 μ50 => some (v50, μ50))))))))))
set_option maxHeartbeats 4000000 in
set_option maxRecDepth 100000 in
theorem c_X1_tieThread {G : gp_} {ad : Nat → Nat} (μ : mu_T) (a1 : Int) (a2 : Int) (a3 : Int) (a : Int) (μr : mu_T) (h : f_X1_tieThread μ a1 a2 a3 = some (a, μr)) : mi_ yX1_tieThread cX1_tieThread 5 (some .int) ({ frames := 3, cells := 0, slots := 0, locals := 63 } : Room) G 151 ad (ceX G ad) [.ref (ad 134), .int (iI a1), .int (iI a2), .int (iI a3)] μ a μr := by
  refine mi_in (own := "UrnHeap$Hands") (lv := [(0, .ref (ad 134)), (1, .int (iI a1)), (2, .int (iI a2)), (3, .int (iI a3))]) (by decide) rfl rfl (Nat.le_of_ble_eq_true rfl) (fun X C E => ?_)
  unfold f_X1_tieThread at h
  refine xx_aload_n C 1 rfl 0 dX1_tieThread_0 rfl rfl ?_
  refine xx_getr (fi := 0) C 4 rfl (by decide) (ceX_134 _ _ _) rfl in_X1 (by decide) rfl w_195 dX1_tieThread_1 ?_
  refine xx_iload_n C 5 rfl 1 dX1_tieThread_4 rfl rfl ?_
  refine xx_cVip (As := [.int (iI a1)]) (st := []) (o := 0) C 8 rfl (by decide) (ceX_0 _ _ _) rfl rfl ca_X2_hasUrn cv_X2_hasUrn w_431 rfl ⟨Nat.le_of_ble_eq_true rfl, Nat.le_of_ble_eq_true rfl⟩ ⟨Nat.le_of_ble_eq_true rfl, Nat.le_of_ble_eq_true rfl⟩ (Nat.le_of_ble_eq_true rfl) dX1_tieThread_5 (fun v5 e9 => c_X2_hasUrn _ _ v5 e9) h (fun v5 h => ?_) rfl
  refine xx_if_eq (tgt := 29) C 11 rfl dX1_tieThread_8 (by decide) h (fun h => ?_) (fun h => ?_)
  · refine xx_bipush C 31 rfl dX1_tieThread_29 (by decide) ?_
    exact xx_iret C E rfl ⟨Nat.le_of_ble_eq_true rfl, Nat.le_of_ble_eq_true rfl⟩ dX1_tieThread_31 h
  · refine xx_iload_n C 12 rfl 2 dX1_tieThread_11 rfl rfl ?_
    refine xx_cNip (As := [.int (iI a2)]) (st := []) C 15 rfl  ca_X11_isSlot cs_X11_isSlot 4 rfl rfl ⟨Nat.le_of_ble_eq_true rfl, Nat.le_of_ble_eq_true rfl⟩ ⟨Nat.le_of_ble_eq_true rfl, Nat.le_of_ble_eq_true rfl⟩ (Nat.le_of_ble_eq_true rfl) dX1_tieThread_12 (fun v12 e9 => c_X11_isSlot _ _ v12 e9) h (fun v12 h => ?_) rfl
    refine xx_if_eq (tgt := 29) C 18 rfl dX1_tieThread_15 (by decide) h (fun h => ?_) (fun h => ?_)
    · refine xx_bipush C 31 rfl dX1_tieThread_29 (by decide) ?_
      exact xx_iret C E rfl ⟨Nat.le_of_ble_eq_true rfl, Nat.le_of_ble_eq_true rfl⟩ dX1_tieThread_31 h
    · refine xx_aload_n C 19 rfl 0 dX1_tieThread_18 rfl rfl ?_
      refine xx_getr (fi := 0) C 22 rfl (by decide) (ceX_134 _ _ _) rfl in_X1 (by decide) rfl w_195 dX1_tieThread_19 ?_
      refine xx_iload_n C 23 rfl 3 dX1_tieThread_22 rfl rfl ?_
      refine xx_cVip (As := [.int (iI a3)]) (st := []) (o := 0) C 26 rfl (by decide) (ceX_0 _ _ _) rfl rfl ca_X2_hasUrn cv_X2_hasUrn w_431 rfl ⟨Nat.le_of_ble_eq_true rfl, Nat.le_of_ble_eq_true rfl⟩ ⟨Nat.le_of_ble_eq_true rfl, Nat.le_of_ble_eq_true rfl⟩ (Nat.le_of_ble_eq_true rfl) dX1_tieThread_23 (fun v23 e9 => c_X2_hasUrn _ _ v23 e9) h (fun v23 h => ?_) rfl
      refine xx_if_ne (tgt := 32) C 29 rfl dX1_tieThread_26 (by decide) h (fun h => ?_) (fun h => ?_)
      · refine xx_aload_n C 33 rfl 0 dX1_tieThread_32 rfl rfl ?_
        refine xx_getr (fi := 0) C 36 rfl (by decide) (ceX_134 _ _ _) rfl in_X1 (by decide) rfl w_195 dX1_tieThread_33 ?_
        refine xx_iload_n C 37 rfl 1 dX1_tieThread_36 rfl rfl ?_
        refine xx_cVip (As := [.int (iI a1)]) (st := []) (o := 0) C 40 rfl (by decide) (ceX_0 _ _ _) rfl rfl ca_X2_isToBeSwept cv_X2_isToBeSwept w_464 rfl ⟨Nat.le_of_ble_eq_true rfl, Nat.le_of_ble_eq_true rfl⟩ ⟨Nat.le_of_ble_eq_true rfl, Nat.le_of_ble_eq_true rfl⟩ (Nat.le_of_ble_eq_true rfl) dX1_tieThread_37 (fun v37 e9 => c_X2_isToBeSwept _ _ v37 e9) h (fun v37 h => ?_) rfl
        refine xx_if_eq (tgt := 54) C 43 rfl dX1_tieThread_40 (by decide) h (fun h => ?_) (fun h => ?_)
        · refine xx_aload_n C 55 rfl 0 dX1_tieThread_54 rfl rfl ?_
          refine xx_getr (fi := 0) C 58 rfl (by decide) (ceX_134 _ _ _) rfl in_X1 (by decide) rfl w_195 dX1_tieThread_55 ?_
          refine xx_iload_n C 59 rfl 3 dX1_tieThread_58 rfl rfl ?_
          refine xx_cVip (As := [.int (iI a3)]) (st := []) (o := 0) C 62 rfl (by decide) (ceX_0 _ _ _) rfl rfl ca_X2_isToBeSwept cv_X2_isToBeSwept w_464 rfl ⟨Nat.le_of_ble_eq_true rfl, Nat.le_of_ble_eq_true rfl⟩ ⟨Nat.le_of_ble_eq_true rfl, Nat.le_of_ble_eq_true rfl⟩ (Nat.le_of_ble_eq_true rfl) dX1_tieThread_59 (fun v59 e9 => c_X2_isToBeSwept _ _ v59 e9) h (fun v59 h => ?_) rfl
          refine xx_if_eq (tgt := 76) C 65 rfl dX1_tieThread_62 (by decide) h (fun h => ?_) (fun h => ?_)
          · refine xx_aload_n C 77 rfl 0 dX1_tieThread_76 rfl rfl ?_
            refine xx_getr (fi := 0) C 80 rfl (by decide) (ceX_134 _ _ _) rfl in_X1 (by decide) rfl w_195 dX1_tieThread_77 ?_
            refine xx_iload_n C 81 rfl 1 dX1_tieThread_80 rfl rfl ?_
            refine xx_iload_n C 82 rfl 2 dX1_tieThread_81 rfl rfl ?_
            refine xx_cVip (As := [.int (iI a1), .int (iI a2)]) (st := []) (o := 0) C 85 rfl (by decide) (ceX_0 _ _ _) rfl rfl ca_X2_target cv_X2_target w_472 rfl ⟨Nat.le_of_ble_eq_true rfl, Nat.le_of_ble_eq_true rfl⟩ ⟨Nat.le_of_ble_eq_true rfl, Nat.le_of_ble_eq_true rfl⟩ (Nat.le_of_ble_eq_true rfl) dX1_tieThread_82 (fun v82 e9 => c_X2_target _ _ _ v82 e9) h (fun v82 h => ?_) rfl
            refine xx_istore (lv1 := [(4, .int (iI v82)), (0, .ref (ad 134)), (1, .int (iI a1)), (2, .int (iI a2)), (3, .int (iI a3))]) C 87 rfl (by decide) dX1_tieThread_85 rfl ?_
            refine xx_aload_n C 88 rfl 1 dX1_tieThread_87 rfl rfl ?_
            refine xx_getr (fi := 0) C 91 rfl (by decide) (ceX_134 _ _ _) rfl in_X1 (by decide) rfl w_195 dX1_tieThread_88 ?_
            refine xx_getr (fi := 0) C 94 rfl (by decide) (ceX_0 _ _ _) rfl in_X2 (by decide) rfl w_84 dX1_tieThread_91 ?_
            refine xx_iload_n C 95 rfl 2 dX1_tieThread_94 rfl rfl ?_
            refine xx_iconst C 96 rfl dX1_tieThread_95 ?_
            refine xx_imul C 97 rfl dX1_tieThread_96 ?_
            refine xx_iload_n C 98 rfl 3 dX1_tieThread_97 rfl rfl ?_
            refine xx_iadd C 99 rfl dX1_tieThread_98 ?_
            refine xx_iload_n C 100 rfl 4 dX1_tieThread_99 rfl rfl ?_
            refine xx_iastore C 101 rfl (by decide) (fun row => ceX_1 _ _ row) (by decide) dX1_tieThread_100 h (fun μ100 h => ?_)
            refine xx_aload_n C 102 rfl 1 dX1_tieThread_101 rfl rfl ?_
            refine xx_getr (fi := 0) C 105 rfl (by decide) (ceX_134 _ _ _) rfl in_X1 (by decide) rfl w_195 dX1_tieThread_102 ?_
            refine xx_getr (fi := 3) C 108 rfl (by decide) (ceX_0 _ _ _) rfl in_X2 (by decide) rfl w_96 dX1_tieThread_105 ?_
            refine xx_iload_n C 109 rfl 2 dX1_tieThread_108 rfl rfl ?_
            refine xx_iaload C 110 rfl (by decide) (fun row => ceX_4 _ _ row) (by decide) dX1_tieThread_109 h (fun v109 h => ?_)
            refine xx_iconst C 111 rfl dX1_tieThread_110 ?_
            refine xx_icmp_ne (tgt := 122) C 114 rfl dX1_tieThread_111 (by decide) h (fun h => ?_) (fun h => ?_)
            · refine xx_iload C 124 rfl 0 dX1_tieThread_122 rfl ?_
              exact xx_iret C E rfl ⟨Nat.le_of_ble_eq_true rfl, Nat.le_of_ble_eq_true rfl⟩ dX1_tieThread_124 h
            · refine xx_aload_n C 115 rfl 1 dX1_tieThread_114 rfl rfl ?_
              refine xx_getr (fi := 0) C 118 rfl (by decide) (ceX_134 _ _ _) rfl in_X1 (by decide) rfl w_195 dX1_tieThread_115 ?_
              refine xx_iload_n C 119 rfl 4 dX1_tieThread_118 rfl rfl ?_
              refine xx_cVv (As := [.int (iI a3)]) (st := []) (o := 0) C 122 rfl (by decide) (ceX_0 _ _ _) rfl rfl ca_X2_makeGreyInRound cv_X2_makeGreyInRound w_480 rfl ⟨Nat.le_of_ble_eq_true rfl, Nat.le_of_ble_eq_true rfl⟩ ⟨Nat.le_of_ble_eq_true rfl, Nat.le_of_ble_eq_true rfl⟩ (Nat.le_of_ble_eq_true rfl) dX1_tieThread_119 (fun μ119 e9 => c_X2_makeGreyInRound _ _ μ119 e9) h (fun μ119 h => ?_) rfl
              refine xx_iload C 124 rfl 0 dX1_tieThread_122 rfl ?_
              exact xx_iret C E rfl ⟨Nat.le_of_ble_eq_true rfl, Nat.le_of_ble_eq_true rfl⟩ dX1_tieThread_124 h
          · refine xx_aload_n C 66 rfl 0 dX1_tieThread_65 rfl rfl ?_
            refine xx_getr (fi := 1) C 69 rfl (by decide) (ceX_134 _ _ _) rfl in_X1 (by decide) rfl w_196 dX1_tieThread_66 ?_
            refine xx_bipush C 71 rfl dX1_tieThread_69 (by decide) ?_
            refine xx_iload_n C 72 rfl 3 dX1_tieThread_71 rfl rfl ?_
            refine xx_cVi (As := [.int (iI 7), .int (iI a3)]) (st := []) (o := 133) C 75 rfl (by decide) (ceX_133 _ _ _) rfl rfl ca_X8_refuse cv_X8_refuse w_439 rfl ⟨Nat.le_of_ble_eq_true rfl, Nat.le_of_ble_eq_true rfl⟩ ⟨Nat.le_of_ble_eq_true rfl, Nat.le_of_ble_eq_true rfl⟩ (Nat.le_of_ble_eq_true rfl) dX1_tieThread_72 (fun v72 μ72 e9 => c_X8_refuse _ _ _ v72 μ72 e9) h (fun v72 μ72 h => ?_) rfl
            exact xx_iret C E rfl ⟨Nat.le_of_ble_eq_true rfl, Nat.le_of_ble_eq_true rfl⟩ dX1_tieThread_75 h
        · refine xx_aload_n C 44 rfl 0 dX1_tieThread_43 rfl rfl ?_
          refine xx_getr (fi := 1) C 47 rfl (by decide) (ceX_134 _ _ _) rfl in_X1 (by decide) rfl w_196 dX1_tieThread_44 ?_
          refine xx_bipush C 49 rfl dX1_tieThread_47 (by decide) ?_
          refine xx_iload_n C 50 rfl 1 dX1_tieThread_49 rfl rfl ?_
          refine xx_cVi (As := [.int (iI 7), .int (iI a1)]) (st := []) (o := 133) C 53 rfl (by decide) (ceX_133 _ _ _) rfl rfl ca_X8_refuse cv_X8_refuse w_439 rfl ⟨Nat.le_of_ble_eq_true rfl, Nat.le_of_ble_eq_true rfl⟩ ⟨Nat.le_of_ble_eq_true rfl, Nat.le_of_ble_eq_true rfl⟩ (Nat.le_of_ble_eq_true rfl) dX1_tieThread_50 (fun v50 μ50 e9 => c_X8_refuse _ _ _ v50 μ50 e9) h (fun v50 μ50 h => ?_) rfl
          exact xx_iret C E rfl ⟨Nat.le_of_ble_eq_true rfl, Nat.le_of_ble_eq_true rfl⟩ dX1_tieThread_53 h
      · refine xx_bipush C 31 rfl dX1_tieThread_29 (by decide) ?_
        exact xx_iret C E rfl ⟨Nat.le_of_ble_eq_true rfl, Nat.le_of_ble_eq_true rfl⟩ dX1_tieThread_31 h

def f_X1_takeThread (μ : mu_T) (a1 : Int) (a2 : Int) : Option (Int × mu_T) :=
  bd_ (f_X2_hasUrn μ a1) (fun v5 => eq_ v5 0
      (some ((-11), μ))
      (bd_ (f_X11_isSlot μ a2) (fun v12 => eq_ v12 0
      (some ((-11), μ))
      (bd_ (f_X2_target μ a1 a2) (fun v27 => eq_ v27 (-15)
      (bp_ (f_X8_refuse μ 2 a2) (fun v43 μ43 => some (v43, μ43)))
      (wr_ μ 1 96 ((a1 * 4) + a2) (-15) (fun μ61 => some (v27, μ61))))))))
set_option maxHeartbeats 4000000 in
set_option maxRecDepth 100000 in
theorem c_X1_takeThread {G : gp_} {ad : Nat → Nat} (μ : mu_T) (a1 : Int) (a2 : Int) (a : Int) (μr : mu_T) (h : f_X1_takeThread μ a1 a2 = some (a, μr)) : mi_ yX1_takeThread cX1_takeThread 4 (some .int) ({ frames := 2, cells := 0, slots := 0, locals := 42 } : Room) G 151 ad (ceX G ad) [.ref (ad 134), .int (iI a1), .int (iI a2)] μ a μr := by
  refine mi_in (own := "UrnHeap$Hands") (lv := [(0, .ref (ad 134)), (1, .int (iI a1)), (2, .int (iI a2))]) (by decide) rfl rfl (Nat.le_of_ble_eq_true rfl) (fun X C E => ?_)
  unfold f_X1_takeThread at h
  refine xx_aload_n C 1 rfl 0 dX1_takeThread_0 rfl rfl ?_
  refine xx_getr (fi := 0) C 4 rfl (by decide) (ceX_134 _ _ _) rfl in_X1 (by decide) rfl w_195 dX1_takeThread_1 ?_
  refine xx_iload_n C 5 rfl 1 dX1_takeThread_4 rfl rfl ?_
  refine xx_cVip (As := [.int (iI a1)]) (st := []) (o := 0) C 8 rfl (by decide) (ceX_0 _ _ _) rfl rfl ca_X2_hasUrn cv_X2_hasUrn w_431 rfl ⟨Nat.le_of_ble_eq_true rfl, Nat.le_of_ble_eq_true rfl⟩ ⟨Nat.le_of_ble_eq_true rfl, Nat.le_of_ble_eq_true rfl⟩ (Nat.le_of_ble_eq_true rfl) dX1_takeThread_5 (fun v5 e9 => c_X2_hasUrn _ _ v5 e9) h (fun v5 h => ?_) rfl
  refine xx_if_eq (tgt := 18) C 11 rfl dX1_takeThread_8 (by decide) h (fun h => ?_) (fun h => ?_)
  · refine xx_bipush C 20 rfl dX1_takeThread_18 (by decide) ?_
    exact xx_iret C E rfl ⟨Nat.le_of_ble_eq_true rfl, Nat.le_of_ble_eq_true rfl⟩ dX1_takeThread_20 h
  · refine xx_iload_n C 12 rfl 2 dX1_takeThread_11 rfl rfl ?_
    refine xx_cNip (As := [.int (iI a2)]) (st := []) C 15 rfl  ca_X11_isSlot cs_X11_isSlot 4 rfl rfl ⟨Nat.le_of_ble_eq_true rfl, Nat.le_of_ble_eq_true rfl⟩ ⟨Nat.le_of_ble_eq_true rfl, Nat.le_of_ble_eq_true rfl⟩ (Nat.le_of_ble_eq_true rfl) dX1_takeThread_12 (fun v12 e9 => c_X11_isSlot _ _ v12 e9) h (fun v12 h => ?_) rfl
    refine xx_if_ne (tgt := 21) C 18 rfl dX1_takeThread_15 (by decide) h (fun h => ?_) (fun h => ?_)
    · refine xx_aload_n C 22 rfl 0 dX1_takeThread_21 rfl rfl ?_
      refine xx_getr (fi := 0) C 25 rfl (by decide) (ceX_134 _ _ _) rfl in_X1 (by decide) rfl w_195 dX1_takeThread_22 ?_
      refine xx_iload_n C 26 rfl 1 dX1_takeThread_25 rfl rfl ?_
      refine xx_iload_n C 27 rfl 2 dX1_takeThread_26 rfl rfl ?_
      refine xx_cVip (As := [.int (iI a1), .int (iI a2)]) (st := []) (o := 0) C 30 rfl (by decide) (ceX_0 _ _ _) rfl rfl ca_X2_target cv_X2_target w_472 rfl ⟨Nat.le_of_ble_eq_true rfl, Nat.le_of_ble_eq_true rfl⟩ ⟨Nat.le_of_ble_eq_true rfl, Nat.le_of_ble_eq_true rfl⟩ (Nat.le_of_ble_eq_true rfl) dX1_takeThread_27 (fun v27 e9 => c_X2_target _ _ _ v27 e9) h (fun v27 h => ?_) rfl
      refine xx_istore_n (lv1 := [(3, .int (iI v27)), (0, .ref (ad 134)), (1, .int (iI a1)), (2, .int (iI a2))]) C 31 rfl (by decide) dX1_takeThread_30 rfl rfl ?_
      refine xx_iload_n C 32 rfl 0 dX1_takeThread_31 rfl rfl ?_
      refine xx_bipush C 34 rfl dX1_takeThread_32 (by decide) ?_
      refine xx_icmp_ne (tgt := 47) C 37 rfl dX1_takeThread_34 (by decide) h (fun h => ?_) (fun h => ?_)
      · refine xx_aload_n C 48 rfl 1 dX1_takeThread_47 rfl rfl ?_
        refine xx_getr (fi := 0) C 51 rfl (by decide) (ceX_134 _ _ _) rfl in_X1 (by decide) rfl w_195 dX1_takeThread_48 ?_
        refine xx_getr (fi := 0) C 54 rfl (by decide) (ceX_0 _ _ _) rfl in_X2 (by decide) rfl w_84 dX1_takeThread_51 ?_
        refine xx_iload_n C 55 rfl 2 dX1_takeThread_54 rfl rfl ?_
        refine xx_iconst C 56 rfl dX1_takeThread_55 ?_
        refine xx_imul C 57 rfl dX1_takeThread_56 ?_
        refine xx_iload_n C 58 rfl 3 dX1_takeThread_57 rfl rfl ?_
        refine xx_iadd C 59 rfl dX1_takeThread_58 ?_
        refine xx_bipush C 61 rfl dX1_takeThread_59 (by decide) ?_
        refine xx_iastore C 62 rfl (by decide) (fun row => ceX_1 _ _ row) (by decide) dX1_takeThread_61 h (fun μ61 h => ?_)
        refine xx_iload_n C 63 rfl 0 dX1_takeThread_62 rfl rfl ?_
        exact xx_iret C E rfl ⟨Nat.le_of_ble_eq_true rfl, Nat.le_of_ble_eq_true rfl⟩ dX1_takeThread_63 h
      · refine xx_aload_n C 38 rfl 1 dX1_takeThread_37 rfl rfl ?_
        refine xx_getr (fi := 1) C 41 rfl (by decide) (ceX_134 _ _ _) rfl in_X1 (by decide) rfl w_196 dX1_takeThread_38 ?_
        refine xx_iconst C 42 rfl dX1_takeThread_41 ?_
        refine xx_iload_n C 43 rfl 3 dX1_takeThread_42 rfl rfl ?_
        refine xx_cVi (As := [.int (iI 2), .int (iI a2)]) (st := []) (o := 133) C 46 rfl (by decide) (ceX_133 _ _ _) rfl rfl ca_X8_refuse cv_X8_refuse w_439 rfl ⟨Nat.le_of_ble_eq_true rfl, Nat.le_of_ble_eq_true rfl⟩ ⟨Nat.le_of_ble_eq_true rfl, Nat.le_of_ble_eq_true rfl⟩ (Nat.le_of_ble_eq_true rfl) dX1_takeThread_43 (fun v43 μ43 e9 => c_X8_refuse _ _ _ v43 μ43 e9) h (fun v43 μ43 h => ?_) rfl
        exact xx_iret C E rfl ⟨Nat.le_of_ble_eq_true rfl, Nat.le_of_ble_eq_true rfl⟩ dX1_takeThread_46 h
    · refine xx_bipush C 20 rfl dX1_takeThread_18 (by decide) ?_
      exact xx_iret C E rfl ⟨Nat.le_of_ble_eq_true rfl, Nat.le_of_ble_eq_true rfl⟩ dX1_takeThread_20 h

def f_X1_tieWeak (μ : mu_T) (a1 : Int) (a2 : Int) : Option (Int × mu_T) :=
  bd_ (f_X2_hasUrn μ a1) (fun v5 => eq_ v5 0
      (some ((-11), μ))
      (bd_ (f_X2_hasUrn μ a2) (fun v16 => eq_ v16 0
      (some ((-11), μ))
      (bd_ (f_X2_isToBeSwept μ a1) (fun v30 => eq_ v30 0
      (bd_ (f_X2_isToBeSwept μ a2) (fun v52 => eq_ v52 0
      (rd_ μ 2 24 a1 (fun v77 => wr_ μ 2 24 a1 a2 (fun μ88 => some (v77, μ88))))
      (bp_ (f_X8_refuse μ 7 a2) (fun v65 μ65 => some (v65, μ65)))))
      (bp_ (f_X8_refuse μ 7 a1) (fun v43 μ43 => some (v43, μ43))))))))
set_option maxHeartbeats 4000000 in
set_option maxRecDepth 100000 in
theorem c_X1_tieWeak {G : gp_} {ad : Nat → Nat} (μ : mu_T) (a1 : Int) (a2 : Int) (a : Int) (μr : mu_T) (h : f_X1_tieWeak μ a1 a2 = some (a, μr)) : mi_ yX1_tieWeak cX1_tieWeak 4 (some .int) ({ frames := 2, cells := 0, slots := 0, locals := 42 } : Room) G 151 ad (ceX G ad) [.ref (ad 134), .int (iI a1), .int (iI a2)] μ a μr := by
  refine mi_in (own := "UrnHeap$Hands") (lv := [(0, .ref (ad 134)), (1, .int (iI a1)), (2, .int (iI a2))]) (by decide) rfl rfl (Nat.le_of_ble_eq_true rfl) (fun X C E => ?_)
  unfold f_X1_tieWeak at h
  refine xx_aload_n C 1 rfl 0 dX1_tieWeak_0 rfl rfl ?_
  refine xx_getr (fi := 0) C 4 rfl (by decide) (ceX_134 _ _ _) rfl in_X1 (by decide) rfl w_195 dX1_tieWeak_1 ?_
  refine xx_iload_n C 5 rfl 1 dX1_tieWeak_4 rfl rfl ?_
  refine xx_cVip (As := [.int (iI a1)]) (st := []) (o := 0) C 8 rfl (by decide) (ceX_0 _ _ _) rfl rfl ca_X2_hasUrn cv_X2_hasUrn w_431 rfl ⟨Nat.le_of_ble_eq_true rfl, Nat.le_of_ble_eq_true rfl⟩ ⟨Nat.le_of_ble_eq_true rfl, Nat.le_of_ble_eq_true rfl⟩ (Nat.le_of_ble_eq_true rfl) dX1_tieWeak_5 (fun v5 e9 => c_X2_hasUrn _ _ v5 e9) h (fun v5 h => ?_) rfl
  refine xx_if_eq (tgt := 22) C 11 rfl dX1_tieWeak_8 (by decide) h (fun h => ?_) (fun h => ?_)
  · refine xx_bipush C 24 rfl dX1_tieWeak_22 (by decide) ?_
    exact xx_iret C E rfl ⟨Nat.le_of_ble_eq_true rfl, Nat.le_of_ble_eq_true rfl⟩ dX1_tieWeak_24 h
  · refine xx_aload_n C 12 rfl 0 dX1_tieWeak_11 rfl rfl ?_
    refine xx_getr (fi := 0) C 15 rfl (by decide) (ceX_134 _ _ _) rfl in_X1 (by decide) rfl w_195 dX1_tieWeak_12 ?_
    refine xx_iload_n C 16 rfl 2 dX1_tieWeak_15 rfl rfl ?_
    refine xx_cVip (As := [.int (iI a2)]) (st := []) (o := 0) C 19 rfl (by decide) (ceX_0 _ _ _) rfl rfl ca_X2_hasUrn cv_X2_hasUrn w_431 rfl ⟨Nat.le_of_ble_eq_true rfl, Nat.le_of_ble_eq_true rfl⟩ ⟨Nat.le_of_ble_eq_true rfl, Nat.le_of_ble_eq_true rfl⟩ (Nat.le_of_ble_eq_true rfl) dX1_tieWeak_16 (fun v16 e9 => c_X2_hasUrn _ _ v16 e9) h (fun v16 h => ?_) rfl
    refine xx_if_ne (tgt := 25) C 22 rfl dX1_tieWeak_19 (by decide) h (fun h => ?_) (fun h => ?_)
    · refine xx_aload_n C 26 rfl 0 dX1_tieWeak_25 rfl rfl ?_
      refine xx_getr (fi := 0) C 29 rfl (by decide) (ceX_134 _ _ _) rfl in_X1 (by decide) rfl w_195 dX1_tieWeak_26 ?_
      refine xx_iload_n C 30 rfl 1 dX1_tieWeak_29 rfl rfl ?_
      refine xx_cVip (As := [.int (iI a1)]) (st := []) (o := 0) C 33 rfl (by decide) (ceX_0 _ _ _) rfl rfl ca_X2_isToBeSwept cv_X2_isToBeSwept w_464 rfl ⟨Nat.le_of_ble_eq_true rfl, Nat.le_of_ble_eq_true rfl⟩ ⟨Nat.le_of_ble_eq_true rfl, Nat.le_of_ble_eq_true rfl⟩ (Nat.le_of_ble_eq_true rfl) dX1_tieWeak_30 (fun v30 e9 => c_X2_isToBeSwept _ _ v30 e9) h (fun v30 h => ?_) rfl
      refine xx_if_eq (tgt := 47) C 36 rfl dX1_tieWeak_33 (by decide) h (fun h => ?_) (fun h => ?_)
      · refine xx_aload_n C 48 rfl 0 dX1_tieWeak_47 rfl rfl ?_
        refine xx_getr (fi := 0) C 51 rfl (by decide) (ceX_134 _ _ _) rfl in_X1 (by decide) rfl w_195 dX1_tieWeak_48 ?_
        refine xx_iload_n C 52 rfl 2 dX1_tieWeak_51 rfl rfl ?_
        refine xx_cVip (As := [.int (iI a2)]) (st := []) (o := 0) C 55 rfl (by decide) (ceX_0 _ _ _) rfl rfl ca_X2_isToBeSwept cv_X2_isToBeSwept w_464 rfl ⟨Nat.le_of_ble_eq_true rfl, Nat.le_of_ble_eq_true rfl⟩ ⟨Nat.le_of_ble_eq_true rfl, Nat.le_of_ble_eq_true rfl⟩ (Nat.le_of_ble_eq_true rfl) dX1_tieWeak_52 (fun v52 e9 => c_X2_isToBeSwept _ _ v52 e9) h (fun v52 h => ?_) rfl
        refine xx_if_eq (tgt := 69) C 58 rfl dX1_tieWeak_55 (by decide) h (fun h => ?_) (fun h => ?_)
        · refine xx_aload_n C 70 rfl 0 dX1_tieWeak_69 rfl rfl ?_
          refine xx_getr (fi := 0) C 73 rfl (by decide) (ceX_134 _ _ _) rfl in_X1 (by decide) rfl w_195 dX1_tieWeak_70 ?_
          refine xx_getr (fi := 1) C 76 rfl (by decide) (ceX_0 _ _ _) rfl in_X2 (by decide) rfl w_87 dX1_tieWeak_73 ?_
          refine xx_iload_n C 77 rfl 1 dX1_tieWeak_76 rfl rfl ?_
          refine xx_iaload C 78 rfl (by decide) (fun row => ceX_2 _ _ row) (by decide) dX1_tieWeak_77 h (fun v77 h => ?_)
          refine xx_istore_n (lv1 := [(3, .int (iI v77)), (0, .ref (ad 134)), (1, .int (iI a1)), (2, .int (iI a2))]) C 79 rfl (by decide) dX1_tieWeak_78 rfl rfl ?_
          refine xx_aload_n C 80 rfl 1 dX1_tieWeak_79 rfl rfl ?_
          refine xx_getr (fi := 0) C 83 rfl (by decide) (ceX_134 _ _ _) rfl in_X1 (by decide) rfl w_195 dX1_tieWeak_80 ?_
          refine xx_getr (fi := 1) C 86 rfl (by decide) (ceX_0 _ _ _) rfl in_X2 (by decide) rfl w_87 dX1_tieWeak_83 ?_
          refine xx_iload_n C 87 rfl 2 dX1_tieWeak_86 rfl rfl ?_
          refine xx_iload_n C 88 rfl 3 dX1_tieWeak_87 rfl rfl ?_
          refine xx_iastore C 89 rfl (by decide) (fun row => ceX_2 _ _ row) (by decide) dX1_tieWeak_88 h (fun μ88 h => ?_)
          refine xx_iload_n C 90 rfl 0 dX1_tieWeak_89 rfl rfl ?_
          exact xx_iret C E rfl ⟨Nat.le_of_ble_eq_true rfl, Nat.le_of_ble_eq_true rfl⟩ dX1_tieWeak_90 h
        · refine xx_aload_n C 59 rfl 0 dX1_tieWeak_58 rfl rfl ?_
          refine xx_getr (fi := 1) C 62 rfl (by decide) (ceX_134 _ _ _) rfl in_X1 (by decide) rfl w_196 dX1_tieWeak_59 ?_
          refine xx_bipush C 64 rfl dX1_tieWeak_62 (by decide) ?_
          refine xx_iload_n C 65 rfl 2 dX1_tieWeak_64 rfl rfl ?_
          refine xx_cVi (As := [.int (iI 7), .int (iI a2)]) (st := []) (o := 133) C 68 rfl (by decide) (ceX_133 _ _ _) rfl rfl ca_X8_refuse cv_X8_refuse w_439 rfl ⟨Nat.le_of_ble_eq_true rfl, Nat.le_of_ble_eq_true rfl⟩ ⟨Nat.le_of_ble_eq_true rfl, Nat.le_of_ble_eq_true rfl⟩ (Nat.le_of_ble_eq_true rfl) dX1_tieWeak_65 (fun v65 μ65 e9 => c_X8_refuse _ _ _ v65 μ65 e9) h (fun v65 μ65 h => ?_) rfl
          exact xx_iret C E rfl ⟨Nat.le_of_ble_eq_true rfl, Nat.le_of_ble_eq_true rfl⟩ dX1_tieWeak_68 h
      · refine xx_aload_n C 37 rfl 0 dX1_tieWeak_36 rfl rfl ?_
        refine xx_getr (fi := 1) C 40 rfl (by decide) (ceX_134 _ _ _) rfl in_X1 (by decide) rfl w_196 dX1_tieWeak_37 ?_
        refine xx_bipush C 42 rfl dX1_tieWeak_40 (by decide) ?_
        refine xx_iload_n C 43 rfl 1 dX1_tieWeak_42 rfl rfl ?_
        refine xx_cVi (As := [.int (iI 7), .int (iI a1)]) (st := []) (o := 133) C 46 rfl (by decide) (ceX_133 _ _ _) rfl rfl ca_X8_refuse cv_X8_refuse w_439 rfl ⟨Nat.le_of_ble_eq_true rfl, Nat.le_of_ble_eq_true rfl⟩ ⟨Nat.le_of_ble_eq_true rfl, Nat.le_of_ble_eq_true rfl⟩ (Nat.le_of_ble_eq_true rfl) dX1_tieWeak_43 (fun v43 μ43 e9 => c_X8_refuse _ _ _ v43 μ43 e9) h (fun v43 μ43 h => ?_) rfl
        exact xx_iret C E rfl ⟨Nat.le_of_ble_eq_true rfl, Nat.le_of_ble_eq_true rfl⟩ dX1_tieWeak_46 h
    · refine xx_bipush C 24 rfl dX1_tieWeak_22 (by decide) ?_
      exact xx_iret C E rfl ⟨Nat.le_of_ble_eq_true rfl, Nat.le_of_ble_eq_true rfl⟩ dX1_tieWeak_24 h

def f_X1_takeWeak (μ : mu_T) (a1 : Int) : Option (Int × mu_T) :=
  bd_ (f_X2_hasUrn μ a1) (fun v5 => eq_ v5 0
      (some ((-11), μ))
      (rd_ μ 2 24 a1 (fun v22 => eq_ v22 (-15)
      (bp_ (f_X8_refuse μ 2 4) (fun v36 μ36 => some (v36, μ36)))
      (wr_ μ 2 24 a1 (-15) (fun μ50 => some (v22, μ50))))))
set_option maxHeartbeats 4000000 in
set_option maxRecDepth 100000 in
theorem c_X1_takeWeak {G : gp_} {ad : Nat → Nat} (μ : mu_T) (a1 : Int) (a : Int) (μr : mu_T) (h : f_X1_takeWeak μ a1 = some (a, μr)) : mi_ yX1_takeWeak cX1_takeWeak 3 (some .int) ({ frames := 1, cells := 0, slots := 0, locals := 22 } : Room) G 151 ad (ceX G ad) [.ref (ad 134), .int (iI a1)] μ a μr := by
  refine mi_in (own := "UrnHeap$Hands") (lv := [(0, .ref (ad 134)), (1, .int (iI a1))]) (by decide) rfl rfl (Nat.le_of_ble_eq_true rfl) (fun X C E => ?_)
  unfold f_X1_takeWeak at h
  refine xx_aload_n C 1 rfl 0 dX1_takeWeak_0 rfl rfl ?_
  refine xx_getr (fi := 0) C 4 rfl (by decide) (ceX_134 _ _ _) rfl in_X1 (by decide) rfl w_195 dX1_takeWeak_1 ?_
  refine xx_iload_n C 5 rfl 1 dX1_takeWeak_4 rfl rfl ?_
  refine xx_cVip (As := [.int (iI a1)]) (st := []) (o := 0) C 8 rfl (by decide) (ceX_0 _ _ _) rfl rfl ca_X2_hasUrn cv_X2_hasUrn w_431 rfl ⟨Nat.le_of_ble_eq_true rfl, Nat.le_of_ble_eq_true rfl⟩ ⟨Nat.le_of_ble_eq_true rfl, Nat.le_of_ble_eq_true rfl⟩ (Nat.le_of_ble_eq_true rfl) dX1_takeWeak_5 (fun v5 e9 => c_X2_hasUrn _ _ v5 e9) h (fun v5 h => ?_) rfl
  refine xx_if_ne (tgt := 14) C 11 rfl dX1_takeWeak_8 (by decide) h (fun h => ?_) (fun h => ?_)
  · refine xx_aload_n C 15 rfl 0 dX1_takeWeak_14 rfl rfl ?_
    refine xx_getr (fi := 0) C 18 rfl (by decide) (ceX_134 _ _ _) rfl in_X1 (by decide) rfl w_195 dX1_takeWeak_15 ?_
    refine xx_getr (fi := 1) C 21 rfl (by decide) (ceX_0 _ _ _) rfl in_X2 (by decide) rfl w_87 dX1_takeWeak_18 ?_
    refine xx_iload_n C 22 rfl 1 dX1_takeWeak_21 rfl rfl ?_
    refine xx_iaload C 23 rfl (by decide) (fun row => ceX_2 _ _ row) (by decide) dX1_takeWeak_22 h (fun v22 h => ?_)
    refine xx_istore_n (lv1 := [(2, .int (iI v22)), (0, .ref (ad 134)), (1, .int (iI a1))]) C 24 rfl (by decide) dX1_takeWeak_23 rfl rfl ?_
    refine xx_iload_n C 25 rfl 0 dX1_takeWeak_24 rfl rfl ?_
    refine xx_bipush C 27 rfl dX1_takeWeak_25 (by decide) ?_
    refine xx_icmp_ne (tgt := 40) C 30 rfl dX1_takeWeak_27 (by decide) h (fun h => ?_) (fun h => ?_)
    · refine xx_aload_n C 41 rfl 1 dX1_takeWeak_40 rfl rfl ?_
      refine xx_getr (fi := 0) C 44 rfl (by decide) (ceX_134 _ _ _) rfl in_X1 (by decide) rfl w_195 dX1_takeWeak_41 ?_
      refine xx_getr (fi := 1) C 47 rfl (by decide) (ceX_0 _ _ _) rfl in_X2 (by decide) rfl w_87 dX1_takeWeak_44 ?_
      refine xx_iload_n C 48 rfl 2 dX1_takeWeak_47 rfl rfl ?_
      refine xx_bipush C 50 rfl dX1_takeWeak_48 (by decide) ?_
      refine xx_iastore C 51 rfl (by decide) (fun row => ceX_2 _ _ row) (by decide) dX1_takeWeak_50 h (fun μ50 h => ?_)
      refine xx_iload_n C 52 rfl 0 dX1_takeWeak_51 rfl rfl ?_
      exact xx_iret C E rfl ⟨Nat.le_of_ble_eq_true rfl, Nat.le_of_ble_eq_true rfl⟩ dX1_takeWeak_52 h
    · refine xx_aload_n C 31 rfl 1 dX1_takeWeak_30 rfl rfl ?_
      refine xx_getr (fi := 1) C 34 rfl (by decide) (ceX_134 _ _ _) rfl in_X1 (by decide) rfl w_196 dX1_takeWeak_31 ?_
      refine xx_iconst C 35 rfl dX1_takeWeak_34 ?_
      refine xx_iconst C 36 rfl dX1_takeWeak_35 ?_
      refine xx_cVi (As := [.int (iI 2), .int (iI 4)]) (st := []) (o := 133) C 39 rfl (by decide) (ceX_133 _ _ _) rfl rfl ca_X8_refuse cv_X8_refuse w_439 rfl ⟨Nat.le_of_ble_eq_true rfl, Nat.le_of_ble_eq_true rfl⟩ ⟨Nat.le_of_ble_eq_true rfl, Nat.le_of_ble_eq_true rfl⟩ (Nat.le_of_ble_eq_true rfl) dX1_takeWeak_36 (fun v36 μ36 e9 => c_X8_refuse _ _ _ v36 μ36 e9) h (fun v36 μ36 h => ?_) rfl
      exact xx_iret C E rfl ⟨Nat.le_of_ble_eq_true rfl, Nat.le_of_ble_eq_true rfl⟩ dX1_takeWeak_39 h
  · refine xx_bipush C 13 rfl dX1_takeWeak_11 (by decide) ?_
    exact xx_iret C E rfl ⟨Nat.le_of_ble_eq_true rfl, Nat.le_of_ble_eq_true rfl⟩ dX1_takeWeak_13 h

def f_X11_isName (μ : mu_T) (a0 : Int) : Option Int :=
  lt_ a0 0
      (some 0)
      (lt_ a0 6
      (some 1)
      (some 0))
set_option maxHeartbeats 4000000 in
set_option maxRecDepth 100000 in
theorem c_X11_isName {G : gp_} {ad : Nat → Nat} (μ : mu_T) (a0 : Int) (a : Int) (h : f_X11_isName μ a0 = some a) : mi_ yX11_isName cX11_isName 1 (some .boolean) ({ frames := 0, cells := 0, slots := 0, locals := 0 } : Room) G 151 ad (ceX G ad) [.int (iI a0)] μ a μ := by
  refine mi_in (own := "UrnHeap") (lv := [(0, .int (iI a0))]) (by decide) rfl rfl (Nat.le_of_ble_eq_true rfl) (fun X C E => ?_)
  unfold f_X11_isName at h
  refine xx_iload_n C 1 rfl 0 dX11_isName_0 rfl rfl ?_
  refine xx_if_lt (tgt := 14) C 4 rfl dX11_isName_1 (by decide) h (fun h => ?_) (fun h => ?_)
  · refine xx_iconst C 15 rfl dX11_isName_14 ?_
    exact xx_zretl C E rfl rfl ⟨Nat.le_of_ble_eq_true rfl, Nat.le_of_ble_eq_true rfl⟩ dX11_isName_15 h
  · refine xx_iload_n C 5 rfl 0 dX11_isName_4 rfl rfl ?_
    refine xx_bipush C 7 rfl dX11_isName_5 (by decide) ?_
    refine xx_icmp_ge (tgt := 14) C 10 rfl dX11_isName_7 (by decide) h (fun h => ?_) (fun h => ?_)
    · refine xx_iconst C 15 rfl dX11_isName_14 ?_
      exact xx_zretl C E rfl rfl ⟨Nat.le_of_ble_eq_true rfl, Nat.le_of_ble_eq_true rfl⟩ dX11_isName_15 h
    · refine xx_iconst C 11 rfl dX11_isName_10 ?_
      refine xx_goto C 15 dX11_isName_11 (by decide) ?_
      exact xx_zretl C E rfl rfl ⟨Nat.le_of_ble_eq_true rfl, Nat.le_of_ble_eq_true rfl⟩ dX11_isName_15 h

def f_X1_giveName (μ : mu_T) (a1 : Int) (a2 : Int) : Option (Int × mu_T) :=
  bd_ (f_X11_isName μ a1) (fun v1 => eq_ v1 0
      (some ((-11), μ))
      (bd_ (f_X2_hasUrn μ a2) (fun v12 => eq_ v12 0
      (some ((-11), μ))
      (bd_ (f_X2_isToBeSwept μ a2) (fun v26 => eq_ v26 0
      (rd_ μ 6 6 a1 (fun v51 => wr_ μ 6 6 a1 a2 (fun μ62 => bd_ (f_X2_makeGreyInRound μ62 a2) (fun μ68 => some (v51, μ68)))))
      (bp_ (f_X8_refuse μ 7 a2) (fun v39 μ39 => some (v39, μ39))))))))
set_option maxHeartbeats 4000000 in
set_option maxRecDepth 100000 in
theorem c_X1_giveName {G : gp_} {ad : Nat → Nat} (μ : mu_T) (a1 : Int) (a2 : Int) (a : Int) (μr : mu_T) (h : f_X1_giveName μ a1 a2 = some (a, μr)) : mi_ yX1_giveName cX1_giveName 4 (some .int) ({ frames := 3, cells := 0, slots := 0, locals := 63 } : Room) G 151 ad (ceX G ad) [.ref (ad 134), .int (iI a1), .int (iI a2)] μ a μr := by
  refine mi_in (own := "UrnHeap$Hands") (lv := [(0, .ref (ad 134)), (1, .int (iI a1)), (2, .int (iI a2))]) (by decide) rfl rfl (Nat.le_of_ble_eq_true rfl) (fun X C E => ?_)
  unfold f_X1_giveName at h
  refine xx_iload_n C 1 rfl 1 dX1_giveName_0 rfl rfl ?_
  refine xx_cNip (As := [.int (iI a1)]) (st := []) C 4 rfl  ca_X11_isName cs_X11_isName 7 rfl rfl ⟨Nat.le_of_ble_eq_true rfl, Nat.le_of_ble_eq_true rfl⟩ ⟨Nat.le_of_ble_eq_true rfl, Nat.le_of_ble_eq_true rfl⟩ (Nat.le_of_ble_eq_true rfl) dX1_giveName_1 (fun v1 e9 => c_X11_isName _ _ v1 e9) h (fun v1 h => ?_) rfl
  refine xx_if_eq (tgt := 18) C 7 rfl dX1_giveName_4 (by decide) h (fun h => ?_) (fun h => ?_)
  · refine xx_bipush C 20 rfl dX1_giveName_18 (by decide) ?_
    exact xx_iret C E rfl ⟨Nat.le_of_ble_eq_true rfl, Nat.le_of_ble_eq_true rfl⟩ dX1_giveName_20 h
  · refine xx_aload_n C 8 rfl 0 dX1_giveName_7 rfl rfl ?_
    refine xx_getr (fi := 0) C 11 rfl (by decide) (ceX_134 _ _ _) rfl in_X1 (by decide) rfl w_195 dX1_giveName_8 ?_
    refine xx_iload_n C 12 rfl 2 dX1_giveName_11 rfl rfl ?_
    refine xx_cVip (As := [.int (iI a2)]) (st := []) (o := 0) C 15 rfl (by decide) (ceX_0 _ _ _) rfl rfl ca_X2_hasUrn cv_X2_hasUrn w_431 rfl ⟨Nat.le_of_ble_eq_true rfl, Nat.le_of_ble_eq_true rfl⟩ ⟨Nat.le_of_ble_eq_true rfl, Nat.le_of_ble_eq_true rfl⟩ (Nat.le_of_ble_eq_true rfl) dX1_giveName_12 (fun v12 e9 => c_X2_hasUrn _ _ v12 e9) h (fun v12 h => ?_) rfl
    refine xx_if_ne (tgt := 21) C 18 rfl dX1_giveName_15 (by decide) h (fun h => ?_) (fun h => ?_)
    · refine xx_aload_n C 22 rfl 0 dX1_giveName_21 rfl rfl ?_
      refine xx_getr (fi := 0) C 25 rfl (by decide) (ceX_134 _ _ _) rfl in_X1 (by decide) rfl w_195 dX1_giveName_22 ?_
      refine xx_iload_n C 26 rfl 2 dX1_giveName_25 rfl rfl ?_
      refine xx_cVip (As := [.int (iI a2)]) (st := []) (o := 0) C 29 rfl (by decide) (ceX_0 _ _ _) rfl rfl ca_X2_isToBeSwept cv_X2_isToBeSwept w_464 rfl ⟨Nat.le_of_ble_eq_true rfl, Nat.le_of_ble_eq_true rfl⟩ ⟨Nat.le_of_ble_eq_true rfl, Nat.le_of_ble_eq_true rfl⟩ (Nat.le_of_ble_eq_true rfl) dX1_giveName_26 (fun v26 e9 => c_X2_isToBeSwept _ _ v26 e9) h (fun v26 h => ?_) rfl
      refine xx_if_eq (tgt := 43) C 32 rfl dX1_giveName_29 (by decide) h (fun h => ?_) (fun h => ?_)
      · refine xx_aload_n C 44 rfl 0 dX1_giveName_43 rfl rfl ?_
        refine xx_getr (fi := 0) C 47 rfl (by decide) (ceX_134 _ _ _) rfl in_X1 (by decide) rfl w_195 dX1_giveName_44 ?_
        refine xx_getr (fi := 5) C 50 rfl (by decide) (ceX_0 _ _ _) rfl in_X2 (by decide) rfl w_105 dX1_giveName_47 ?_
        refine xx_iload_n C 51 rfl 1 dX1_giveName_50 rfl rfl ?_
        refine xx_iaload C 52 rfl (by decide) (fun row => ceX_6 _ _ row) (by decide) dX1_giveName_51 h (fun v51 h => ?_)
        refine xx_istore_n (lv1 := [(3, .int (iI v51)), (0, .ref (ad 134)), (1, .int (iI a1)), (2, .int (iI a2))]) C 53 rfl (by decide) dX1_giveName_52 rfl rfl ?_
        refine xx_aload_n C 54 rfl 1 dX1_giveName_53 rfl rfl ?_
        refine xx_getr (fi := 0) C 57 rfl (by decide) (ceX_134 _ _ _) rfl in_X1 (by decide) rfl w_195 dX1_giveName_54 ?_
        refine xx_getr (fi := 5) C 60 rfl (by decide) (ceX_0 _ _ _) rfl in_X2 (by decide) rfl w_105 dX1_giveName_57 ?_
        refine xx_iload_n C 61 rfl 2 dX1_giveName_60 rfl rfl ?_
        refine xx_iload_n C 62 rfl 3 dX1_giveName_61 rfl rfl ?_
        refine xx_iastore C 63 rfl (by decide) (fun row => ceX_6 _ _ row) (by decide) dX1_giveName_62 h (fun μ62 h => ?_)
        refine xx_aload_n C 64 rfl 1 dX1_giveName_63 rfl rfl ?_
        refine xx_getr (fi := 0) C 67 rfl (by decide) (ceX_134 _ _ _) rfl in_X1 (by decide) rfl w_195 dX1_giveName_64 ?_
        refine xx_iload_n C 68 rfl 3 dX1_giveName_67 rfl rfl ?_
        refine xx_cVv (As := [.int (iI a2)]) (st := []) (o := 0) C 71 rfl (by decide) (ceX_0 _ _ _) rfl rfl ca_X2_makeGreyInRound cv_X2_makeGreyInRound w_480 rfl ⟨Nat.le_of_ble_eq_true rfl, Nat.le_of_ble_eq_true rfl⟩ ⟨Nat.le_of_ble_eq_true rfl, Nat.le_of_ble_eq_true rfl⟩ (Nat.le_of_ble_eq_true rfl) dX1_giveName_68 (fun μ68 e9 => c_X2_makeGreyInRound _ _ μ68 e9) h (fun μ68 h => ?_) rfl
        refine xx_iload_n C 72 rfl 0 dX1_giveName_71 rfl rfl ?_
        exact xx_iret C E rfl ⟨Nat.le_of_ble_eq_true rfl, Nat.le_of_ble_eq_true rfl⟩ dX1_giveName_72 h
      · refine xx_aload_n C 33 rfl 0 dX1_giveName_32 rfl rfl ?_
        refine xx_getr (fi := 1) C 36 rfl (by decide) (ceX_134 _ _ _) rfl in_X1 (by decide) rfl w_196 dX1_giveName_33 ?_
        refine xx_bipush C 38 rfl dX1_giveName_36 (by decide) ?_
        refine xx_iload_n C 39 rfl 2 dX1_giveName_38 rfl rfl ?_
        refine xx_cVi (As := [.int (iI 7), .int (iI a2)]) (st := []) (o := 133) C 42 rfl (by decide) (ceX_133 _ _ _) rfl rfl ca_X8_refuse cv_X8_refuse w_439 rfl ⟨Nat.le_of_ble_eq_true rfl, Nat.le_of_ble_eq_true rfl⟩ ⟨Nat.le_of_ble_eq_true rfl, Nat.le_of_ble_eq_true rfl⟩ (Nat.le_of_ble_eq_true rfl) dX1_giveName_39 (fun v39 μ39 e9 => c_X8_refuse _ _ _ v39 μ39 e9) h (fun v39 μ39 h => ?_) rfl
        exact xx_iret C E rfl ⟨Nat.le_of_ble_eq_true rfl, Nat.le_of_ble_eq_true rfl⟩ dX1_giveName_42 h
    · refine xx_bipush C 20 rfl dX1_giveName_18 (by decide) ?_
      exact xx_iret C E rfl ⟨Nat.le_of_ble_eq_true rfl, Nat.le_of_ble_eq_true rfl⟩ dX1_giveName_20 h

def f_X1_takeName (μ : mu_T) (a1 : Int) : Option (Int × mu_T) :=
  bd_ (f_X11_isName μ a1) (fun v1 => eq_ v1 0
      (some ((-11), μ))
      (rd_ μ 6 6 a1 (fun v18 => eq_ v18 (-15)
      (bp_ (f_X8_refuse μ 3 a1) (fun v32 μ32 => some (v32, μ32)))
      (wr_ μ 6 6 a1 (-15) (fun μ46 => some (v18, μ46))))))
set_option maxHeartbeats 4000000 in
set_option maxRecDepth 100000 in
theorem c_X1_takeName {G : gp_} {ad : Nat → Nat} (μ : mu_T) (a1 : Int) (a : Int) (μr : mu_T) (h : f_X1_takeName μ a1 = some (a, μr)) : mi_ yX1_takeName cX1_takeName 3 (some .int) ({ frames := 1, cells := 0, slots := 0, locals := 22 } : Room) G 151 ad (ceX G ad) [.ref (ad 134), .int (iI a1)] μ a μr := by
  refine mi_in (own := "UrnHeap$Hands") (lv := [(0, .ref (ad 134)), (1, .int (iI a1))]) (by decide) rfl rfl (Nat.le_of_ble_eq_true rfl) (fun X C E => ?_)
  unfold f_X1_takeName at h
  refine xx_iload_n C 1 rfl 1 dX1_takeName_0 rfl rfl ?_
  refine xx_cNip (As := [.int (iI a1)]) (st := []) C 4 rfl  ca_X11_isName cs_X11_isName 7 rfl rfl ⟨Nat.le_of_ble_eq_true rfl, Nat.le_of_ble_eq_true rfl⟩ ⟨Nat.le_of_ble_eq_true rfl, Nat.le_of_ble_eq_true rfl⟩ (Nat.le_of_ble_eq_true rfl) dX1_takeName_1 (fun v1 e9 => c_X11_isName _ _ v1 e9) h (fun v1 h => ?_) rfl
  refine xx_if_ne (tgt := 10) C 7 rfl dX1_takeName_4 (by decide) h (fun h => ?_) (fun h => ?_)
  · refine xx_aload_n C 11 rfl 0 dX1_takeName_10 rfl rfl ?_
    refine xx_getr (fi := 0) C 14 rfl (by decide) (ceX_134 _ _ _) rfl in_X1 (by decide) rfl w_195 dX1_takeName_11 ?_
    refine xx_getr (fi := 5) C 17 rfl (by decide) (ceX_0 _ _ _) rfl in_X2 (by decide) rfl w_105 dX1_takeName_14 ?_
    refine xx_iload_n C 18 rfl 1 dX1_takeName_17 rfl rfl ?_
    refine xx_iaload C 19 rfl (by decide) (fun row => ceX_6 _ _ row) (by decide) dX1_takeName_18 h (fun v18 h => ?_)
    refine xx_istore_n (lv1 := [(2, .int (iI v18)), (0, .ref (ad 134)), (1, .int (iI a1))]) C 20 rfl (by decide) dX1_takeName_19 rfl rfl ?_
    refine xx_iload_n C 21 rfl 0 dX1_takeName_20 rfl rfl ?_
    refine xx_bipush C 23 rfl dX1_takeName_21 (by decide) ?_
    refine xx_icmp_ne (tgt := 36) C 26 rfl dX1_takeName_23 (by decide) h (fun h => ?_) (fun h => ?_)
    · refine xx_aload_n C 37 rfl 1 dX1_takeName_36 rfl rfl ?_
      refine xx_getr (fi := 0) C 40 rfl (by decide) (ceX_134 _ _ _) rfl in_X1 (by decide) rfl w_195 dX1_takeName_37 ?_
      refine xx_getr (fi := 5) C 43 rfl (by decide) (ceX_0 _ _ _) rfl in_X2 (by decide) rfl w_105 dX1_takeName_40 ?_
      refine xx_iload_n C 44 rfl 2 dX1_takeName_43 rfl rfl ?_
      refine xx_bipush C 46 rfl dX1_takeName_44 (by decide) ?_
      refine xx_iastore C 47 rfl (by decide) (fun row => ceX_6 _ _ row) (by decide) dX1_takeName_46 h (fun μ46 h => ?_)
      refine xx_iload_n C 48 rfl 0 dX1_takeName_47 rfl rfl ?_
      exact xx_iret C E rfl ⟨Nat.le_of_ble_eq_true rfl, Nat.le_of_ble_eq_true rfl⟩ dX1_takeName_48 h
    · refine xx_aload_n C 27 rfl 1 dX1_takeName_26 rfl rfl ?_
      refine xx_getr (fi := 1) C 30 rfl (by decide) (ceX_134 _ _ _) rfl in_X1 (by decide) rfl w_196 dX1_takeName_27 ?_
      refine xx_iconst C 31 rfl dX1_takeName_30 ?_
      refine xx_iload_n C 32 rfl 2 dX1_takeName_31 rfl rfl ?_
      refine xx_cVi (As := [.int (iI 3), .int (iI a1)]) (st := []) (o := 133) C 35 rfl (by decide) (ceX_133 _ _ _) rfl rfl ca_X8_refuse cv_X8_refuse w_439 rfl ⟨Nat.le_of_ble_eq_true rfl, Nat.le_of_ble_eq_true rfl⟩ ⟨Nat.le_of_ble_eq_true rfl, Nat.le_of_ble_eq_true rfl⟩ (Nat.le_of_ble_eq_true rfl) dX1_takeName_32 (fun v32 μ32 e9 => c_X8_refuse _ _ _ v32 μ32 e9) h (fun v32 μ32 h => ?_) rfl
      exact xx_iret C E rfl ⟨Nat.le_of_ble_eq_true rfl, Nat.le_of_ble_eq_true rfl⟩ dX1_takeName_35 h
  · refine xx_bipush C 9 rfl dX1_takeName_7 (by decide) ?_
    exact xx_iret C E rfl ⟨Nat.le_of_ble_eq_true rfl, Nat.le_of_ble_eq_true rfl⟩ dX1_takeName_9 h

def f_X2_urnsOf_L4 (a1 : Int) (μ : mu_T) : Nat → Int → Int → Option Int
  | 0, _, _ => none
  | fu4 + 1, x2_4, x3_4 => lt_ x3_4 24
      (rd_ μ 4 24 x3_4 (fun v15 => jn_ (φ := Int → Option Int) (fun x2_23 => nm_ (x3_4 + 1) (fun n23 => (f_X2_urnsOf_L4 a1 μ fu4) x2_23 n23))
      (fun J23 => eq_ v15 a1
      (nm_ (x2_4 + 1) (fun n20 => J23 n20))
      (J23 x2_4))))
      (some x2_4)
def f_X2_urnsOf (μ : mu_T) (a1 : Int) : Option Int :=
  f_X2_urnsOf_L4 a1 μ 20000 0 0
set_option maxHeartbeats 4000000 in
set_option maxRecDepth 100000 in
theorem c_X2_urnsOf {G : gp_} {ad : Nat → Nat} (μ : mu_T) (a1 : Int) (a : Int) (h : f_X2_urnsOf μ a1 = some a) : mi_ yX2_urnsOf cX2_urnsOf 4 (some .int) ({ frames := 0, cells := 0, slots := 0, locals := 0 } : Room) G 151 ad (ceX G ad) [.ref (ad 0), .int (iI a1)] μ a μ := by
  refine mi_in (own := "UrnHeap$Heap") (lv := [(0, .ref (ad 0)), (1, .int (iI a1))]) (by decide) rfl rfl (Nat.le_of_ble_eq_true rfl) (fun X C E => ?_)
  unfold f_X2_urnsOf at h
  refine xx_iconst C 1 rfl dX2_urnsOf_0 ?_
  refine xx_istore_n (lv1 := [(2, .int (iI 0)), (0, .ref (ad 0)), (1, .int (iI a1))]) C 2 rfl (by decide) dX2_urnsOf_1 rfl rfl ?_
  refine xx_iconst C 3 rfl dX2_urnsOf_2 ?_
  refine xx_istore_n (lv1 := [(3, .int (iI 0)), (2, .int (iI 0)), (0, .ref (ad 0)), (1, .int (iI a1))]) C 4 rfl (by decide) dX2_urnsOf_3 rfl rfl ?_
  have L4 : ∀ (fu4 : Nat) (x2_4 : Int) (x3_4 : Int), f_X2_urnsOf_L4 a1 μ fu4 x2_4 x3_4 = some a → wx_ G X 151 ad (ceX G ad) μ 0 0 4 [(0, .ref (ad 0)), (1, .int (iI a1)), (2, .int (iI x2_4)), (3, .int (iI x3_4))] [] := by
    intro fu4
    induction fu4 with
    | zero => intro x2_4 x3_4 h; exact nn_ h
    | succ fu4 K4 =>
      intro x2_4 x3_4 h
      rw [f_X2_urnsOf_L4] at h
      generalize f_X2_urnsOf_L4 a1 μ fu4 = R4 at K4 h
      refine xx_iload_n C 5 rfl 3 dX2_urnsOf_4 rfl rfl ?_
      refine xx_bipush C 7 rfl dX2_urnsOf_5 (by decide) ?_
      refine xx_icmp_ge (tgt := 29) C 10 rfl dX2_urnsOf_7 (by decide) h (fun h => ?_) (fun h => ?_)
      · refine xx_iload_n C 30 rfl 2 dX2_urnsOf_29 rfl rfl ?_
        exact xx_iretp C E rfl ⟨Nat.le_of_ble_eq_true rfl, Nat.le_of_ble_eq_true rfl⟩ dX2_urnsOf_30 h
      · refine xx_aload_n C 11 rfl 0 dX2_urnsOf_10 rfl rfl ?_
        refine xx_getr (fi := 3) C 14 rfl (by decide) (ceX_0 _ _ _) rfl in_X2 (by decide) rfl w_95 dX2_urnsOf_11 ?_
        refine xx_iload_n C 15 rfl 3 dX2_urnsOf_14 rfl rfl ?_
        refine xx_iaload C 16 rfl (by decide) (fun row => ceX_4 _ _ row) (by decide) dX2_urnsOf_15 h (fun v15 h => ?_)
        refine xx_iload_n C 17 rfl 1 dX2_urnsOf_16 rfl rfl ?_
        refine jn_r (fun J => ∀ (x2_23 : Int), J x2_23 = some a → wx_ G X 151 ad (ceX G ad) μ 0 0 23 [(0, .ref (ad 0)), (1, .int (iI a1)), (2, .int (iI x2_23)), (3, .int (iI x3_4))] []) h (fun x2_23 h => ?_) (fun J23 K23 h => ?_)
        · refine xx_iincn C 26 rfl 3 (by decide) dX2_urnsOf_23 rfl h (fun n23 h => ?_)
          refine xx_lv (lv1 := [(3, .int (iI n23)), (0, .ref (ad 0)), (1, .int (iI a1)), (2, .int (iI x2_23))]) rfl ?_
          refine xx_goto C 4 dX2_urnsOf_26 (by decide) ?_
          refine xx_sub [1, 2, 3, 0] rfl ?_
          exact K4 x2_23 n23 h
        · refine xx_icmp_ne (tgt := 23) C 20 rfl dX2_urnsOf_17 (by decide) h (fun h => ?_) (fun h => ?_)
          · exact K23 x2_4 h
          · refine xx_iincn C 23 rfl 2 (by decide) dX2_urnsOf_20 rfl h (fun n20 h => ?_)
            refine xx_lv (lv1 := [(2, .int (iI n20)), (0, .ref (ad 0)), (1, .int (iI a1)), (3, .int (iI x3_4))]) rfl ?_
            refine xx_sub [1, 2, 0, 3] rfl ?_
            exact K23 n20 h
  refine xx_sub [2, 3, 1, 0] rfl ?_
  exact L4 _ _ _ h

def f_X2_urns (μ : mu_T)  : Option Int :=
  bd_ (f_X2_urnsOf μ (-1)) (fun v4 => some (24 - v4))
set_option maxHeartbeats 4000000 in
set_option maxRecDepth 100000 in
theorem c_X2_urns {G : gp_} {ad : Nat → Nat} (μ : mu_T)  (a : Int) (h : f_X2_urns μ  = some a) : mi_ yX2_urns cX2_urns 1 (some .int) ({ frames := 1, cells := 0, slots := 0, locals := 23 } : Room) G 151 ad (ceX G ad) [.ref (ad 0)] μ a μ := by
  refine mi_in (own := "UrnHeap$Heap") (lv := [(0, .ref (ad 0))]) (by decide) rfl rfl (Nat.le_of_ble_eq_true rfl) (fun X C E => ?_)
  unfold f_X2_urns at h
  refine xx_bipush C 2 rfl dX2_urns_0 (by decide) ?_
  refine xx_aload_n C 3 rfl 0 dX2_urns_2 rfl rfl ?_
  refine xx_iconst C 4 rfl dX2_urns_3 ?_
  refine xx_cVip (As := [.int (iI (-1))]) (st := [.int (iI 24)]) (o := 0) C 7 rfl (by decide) (ceX_0 _ _ _) rfl rfl ca_X2_urnsOf cv_X2_urnsOf w_373 rfl ⟨Nat.le_of_ble_eq_true rfl, Nat.le_of_ble_eq_true rfl⟩ ⟨Nat.le_of_ble_eq_true rfl, Nat.le_of_ble_eq_true rfl⟩ (Nat.le_of_ble_eq_true rfl) dX2_urns_4 (fun v4 e9 => c_X2_urnsOf _ _ v4 e9) h (fun v4 h => ?_) rfl
  refine xx_isub C 8 rfl dX2_urns_7 ?_
  exact xx_iretp C E rfl ⟨Nat.le_of_ble_eq_true rfl, Nat.le_of_ble_eq_true rfl⟩ dX2_urns_8 h

def f_X2_namesInUse_L4 (μ : mu_T) : Nat → Int → Int → Option Int
  | 0, _, _ => none
  | fu4 + 1, x1_4, x2_4 => lt_ x2_4 6
      (rd_ μ 6 6 x2_4 (fun v15 => jn_ (φ := Int → Option Int) (fun x1_24 => nm_ (x2_4 + 1) (fun n24 => (f_X2_namesInUse_L4 μ fu4) x1_24 n24))
      (fun J24 => eq_ v15 (-15)
      (J24 x1_4)
      (nm_ (x1_4 + 1) (fun n21 => J24 n21)))))
      (some x1_4)
def f_X2_namesInUse (μ : mu_T)  : Option Int :=
  f_X2_namesInUse_L4 μ 20000 0 0
set_option maxHeartbeats 4000000 in
set_option maxRecDepth 100000 in
theorem c_X2_namesInUse {G : gp_} {ad : Nat → Nat} (μ : mu_T)  (a : Int) (h : f_X2_namesInUse μ  = some a) : mi_ yX2_namesInUse cX2_namesInUse 3 (some .int) ({ frames := 0, cells := 0, slots := 0, locals := 0 } : Room) G 151 ad (ceX G ad) [.ref (ad 0)] μ a μ := by
  refine mi_in (own := "UrnHeap$Heap") (lv := [(0, .ref (ad 0))]) (by decide) rfl rfl (Nat.le_of_ble_eq_true rfl) (fun X C E => ?_)
  unfold f_X2_namesInUse at h
  refine xx_iconst C 1 rfl dX2_namesInUse_0 ?_
  refine xx_istore_n (lv1 := [(1, .int (iI 0)), (0, .ref (ad 0))]) C 2 rfl (by decide) dX2_namesInUse_1 rfl rfl ?_
  refine xx_iconst C 3 rfl dX2_namesInUse_2 ?_
  refine xx_istore_n (lv1 := [(2, .int (iI 0)), (1, .int (iI 0)), (0, .ref (ad 0))]) C 4 rfl (by decide) dX2_namesInUse_3 rfl rfl ?_
  have L4 : ∀ (fu4 : Nat) (x1_4 : Int) (x2_4 : Int), f_X2_namesInUse_L4 μ fu4 x1_4 x2_4 = some a → wx_ G X 151 ad (ceX G ad) μ 0 0 4 [(0, .ref (ad 0)), (1, .int (iI x1_4)), (2, .int (iI x2_4))] [] := by
    intro fu4
    induction fu4 with
    | zero => intro x1_4 x2_4 h; exact nn_ h
    | succ fu4 K4 =>
      intro x1_4 x2_4 h
      rw [f_X2_namesInUse_L4] at h
      generalize f_X2_namesInUse_L4 μ fu4 = R4 at K4 h
      refine xx_iload_n C 5 rfl 2 dX2_namesInUse_4 rfl rfl ?_
      refine xx_bipush C 7 rfl dX2_namesInUse_5 (by decide) ?_
      refine xx_icmp_ge (tgt := 30) C 10 rfl dX2_namesInUse_7 (by decide) h (fun h => ?_) (fun h => ?_)
      · refine xx_iload_n C 31 rfl 1 dX2_namesInUse_30 rfl rfl ?_
        exact xx_iretp C E rfl ⟨Nat.le_of_ble_eq_true rfl, Nat.le_of_ble_eq_true rfl⟩ dX2_namesInUse_31 h
      · refine xx_aload_n C 11 rfl 0 dX2_namesInUse_10 rfl rfl ?_
        refine xx_getr (fi := 5) C 14 rfl (by decide) (ceX_0 _ _ _) rfl in_X2 (by decide) rfl w_102 dX2_namesInUse_11 ?_
        refine xx_iload_n C 15 rfl 2 dX2_namesInUse_14 rfl rfl ?_
        refine xx_iaload C 16 rfl (by decide) (fun row => ceX_6 _ _ row) (by decide) dX2_namesInUse_15 h (fun v15 h => ?_)
        refine xx_bipush C 18 rfl dX2_namesInUse_16 (by decide) ?_
        refine jn_r (fun J => ∀ (x1_24 : Int), J x1_24 = some a → wx_ G X 151 ad (ceX G ad) μ 0 0 24 [(0, .ref (ad 0)), (1, .int (iI x1_24)), (2, .int (iI x2_4))] []) h (fun x1_24 h => ?_) (fun J24 K24 h => ?_)
        · refine xx_iincn C 27 rfl 2 (by decide) dX2_namesInUse_24 rfl h (fun n24 h => ?_)
          refine xx_lv (lv1 := [(2, .int (iI n24)), (0, .ref (ad 0)), (1, .int (iI x1_24))]) rfl ?_
          refine xx_goto C 4 dX2_namesInUse_27 (by decide) ?_
          refine xx_sub [1, 2, 0] rfl ?_
          exact K4 x1_24 n24 h
        · refine xx_icmp_eq (tgt := 24) C 21 rfl dX2_namesInUse_18 (by decide) h (fun h => ?_) (fun h => ?_)
          · exact K24 x1_4 h
          · refine xx_iincn C 24 rfl 1 (by decide) dX2_namesInUse_21 rfl h (fun n21 h => ?_)
            refine xx_lv (lv1 := [(1, .int (iI n21)), (0, .ref (ad 0)), (2, .int (iI x2_4))]) rfl ?_
            refine xx_sub [1, 0, 2] rfl ?_
            exact K24 n21 h
  refine xx_sub [2, 1, 0] rfl ?_
  exact L4 _ _ _ h

