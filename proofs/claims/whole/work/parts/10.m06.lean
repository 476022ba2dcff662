theorem dX12_isThere_0 : decode cX12_isThere 0 = .ok (.iload_n 1, 1) := by decide +kernel
theorem dX12_isThere_1 : decode cX12_isThere 1 = .ok (.bipush (-15), 2) := by decide +kernel
theorem dX12_isThere_3 : decode cX12_isThere 3 = .ok (.if_icmp .eq 11, 3) := by decide +kernel
theorem dX12_isThere_6 : decode cX12_isThere 6 = .ok (.aload_n 0, 1) := by decide +kernel
theorem dX12_isThere_7 : decode cX12_isThere 7 = .ok (.iload_n 1, 1) := by decide +kernel
theorem dX12_isThere_8 : decode cX12_isThere 8 = .ok (.invokevirtual 97, 3) := by decide +kernel
theorem dX12_isThere_11 : decode cX12_isThere 11 = .ok (.ifCond .eq 7, 3) := by decide +kernel
theorem dX12_isThere_14 : decode cX12_isThere 14 = .ok (.iconst 1, 1) := by decide +kernel
theorem dX12_isThere_15 : decode cX12_isThere 15 = .ok (.goto 4, 3) := by decide +kernel
theorem dX12_isThere_18 : decode cX12_isThere 18 = .ok (.iconst 0, 1) := by decide +kernel
theorem dX12_isThere_19 : decode cX12_isThere 19 = .ok (.ireturn, 1) := by decide +kernel
theorem dX12_isFit_0 : decode cX12_isFit 0 = .ok (.aload_n 0, 1) := by decide +kernel
theorem dX12_isFit_1 : decode cX12_isFit 1 = .ok (.aload_n 0, 1) := by decide +kernel
theorem dX12_isFit_2 : decode cX12_isFit 2 = .ok (.getfield 7, 3) := by decide +kernel
theorem dX12_isFit_5 : decode cX12_isFit 5 = .ok (.bipush 113, 2) := by decide +kernel
theorem dX12_isFit_7 : decode cX12_isFit 7 = .ok (.iload_n 1, 1) := by decide +kernel
theorem dX12_isFit_8 : decode cX12_isFit 8 = .ok (.iadd, 1) := by decide +kernel
theorem dX12_isFit_9 : decode cX12_isFit 9 = .ok (.iaload, 1) := by decide +kernel
theorem dX12_isFit_10 : decode cX12_isFit 10 = .ok (.invokevirtual 265, 3) := by decide +kernel
theorem dX12_isFit_13 : decode cX12_isFit 13 = .ok (.istore_n 2, 1) := by decide +kernel
theorem dX12_isFit_14 : decode cX12_isFit 14 = .ok (.iconst 0, 1) := by decide +kernel
theorem dX12_isFit_15 : decode cX12_isFit 15 = .ok (.istore_n 3, 1) := by decide +kernel
theorem dX12_isFit_16 : decode cX12_isFit 16 = .ok (.iload_n 3, 1) := by decide +kernel
theorem dX12_isFit_17 : decode cX12_isFit 17 = .ok (.iconst 4, 1) := by decide +kernel
theorem dX12_isFit_18 : decode cX12_isFit 18 = .ok (.if_icmp .ge 83, 3) := by decide +kernel
theorem dX12_isFit_21 : decode cX12_isFit 21 = .ok (.aload_n 0, 1) := by decide +kernel
theorem dX12_isFit_22 : decode cX12_isFit 22 = .ok (.getfield 7, 3) := by decide +kernel
theorem dX12_isFit_25 : decode cX12_isFit 25 = .ok (.iload_n 1, 1) := by decide +kernel
theorem dX12_isFit_26 : decode cX12_isFit 26 = .ok (.iload_n 3, 1) := by decide +kernel
theorem dX12_isFit_27 : decode cX12_isFit 27 = .ok (.invokestatic 62, 3) := by decide +kernel
theorem dX12_isFit_30 : decode cX12_isFit 30 = .ok (.iaload, 1) := by decide +kernel
theorem dX12_isFit_31 : decode cX12_isFit 31 = .ok (.istore 4, 2) := by decide +kernel
theorem dX12_isFit_33 : decode cX12_isFit 33 = .ok (.iload_n 2, 1) := by decide +kernel
theorem dX12_isFit_34 : decode cX12_isFit 34 = .ok (.ifCond .eq 59, 3) := by decide +kernel
theorem dX12_isFit_37 : decode cX12_isFit 37 = .ok (.aload_n 0, 1) := by decide +kernel
theorem dX12_isFit_38 : decode cX12_isFit 38 = .ok (.iload 4, 2) := by decide +kernel
theorem dX12_isFit_40 : decode cX12_isFit 40 = .ok (.invokevirtual 265, 3) := by decide +kernel
theorem dX12_isFit_43 : decode cX12_isFit 43 = .ok (.ifCond .eq 50, 3) := by decide +kernel
theorem dX12_isFit_46 : decode cX12_isFit 46 = .ok (.iload 4, 2) := by decide +kernel
theorem dX12_isFit_48 : decode cX12_isFit 48 = .ok (.bipush (-15), 2) := by decide +kernel
theorem dX12_isFit_50 : decode cX12_isFit 50 = .ok (.if_icmp .eq 39, 3) := by decide +kernel
theorem dX12_isFit_53 : decode cX12_isFit 53 = .ok (.aload_n 0, 1) := by decide +kernel
theorem dX12_isFit_54 : decode cX12_isFit 54 = .ok (.getfield 7, 3) := by decide +kernel
theorem dX12_isFit_57 : decode cX12_isFit 57 = .ok (.iconst 0, 1) := by decide +kernel
theorem dX12_isFit_58 : decode cX12_isFit 58 = .ok (.iaload, 1) := by decide +kernel
theorem dX12_isFit_59 : decode cX12_isFit 59 = .ok (.iconst 1, 1) := by decide +kernel
theorem dX12_isFit_60 : decode cX12_isFit 60 = .ok (.if_icmp .ne 29, 3) := by decide +kernel
theorem dX12_isFit_63 : decode cX12_isFit 63 = .ok (.aload_n 0, 1) := by decide +kernel
theorem dX12_isFit_64 : decode cX12_isFit 64 = .ok (.getfield 7, 3) := by decide +kernel
theorem dX12_isFit_67 : decode cX12_isFit 67 = .ok (.bipush 41, 2) := by decide +kernel
theorem dX12_isFit_69 : decode cX12_isFit 69 = .ok (.iload_n 1, 1) := by decide +kernel
theorem dX12_isFit_70 : decode cX12_isFit 70 = .ok (.iadd, 1) := by decide +kernel
theorem dX12_isFit_71 : decode cX12_isFit 71 = .ok (.iaload, 1) := by decide +kernel
theorem dX12_isFit_72 : decode cX12_isFit 72 = .ok (.iconst 2, 1) := by decide +kernel
theorem dX12_isFit_73 : decode cX12_isFit 73 = .ok (.if_icmp .ne 16, 3) := by decide +kernel
theorem dX12_isFit_76 : decode cX12_isFit 76 = .ok (.aload_n 0, 1) := by decide +kernel
theorem dX12_isFit_77 : decode cX12_isFit 77 = .ok (.getfield 7, 3) := by decide +kernel
theorem dX12_isFit_80 : decode cX12_isFit 80 = .ok (.bipush 41, 2) := by decide +kernel
theorem dX12_isFit_82 : decode cX12_isFit 82 = .ok (.iload 4, 2) := by decide +kernel
theorem dX12_isFit_84 : decode cX12_isFit 84 = .ok (.iadd, 1) := by decide +kernel
theorem dX12_isFit_85 : decode cX12_isFit 85 = .ok (.iaload, 1) := by decide +kernel
theorem dX12_isFit_86 : decode cX12_isFit 86 = .ok (.ifCond .eq 7, 3) := by decide +kernel
theorem dX12_isFit_89 : decode cX12_isFit 89 = .ok (.iconst 1, 1) := by decide +kernel
theorem dX12_isFit_90 : decode cX12_isFit 90 = .ok (.goto 4, 3) := by decide +kernel
theorem dX12_isFit_93 : decode cX12_isFit 93 = .ok (.iconst 0, 1) := by decide +kernel
theorem dX12_isFit_94 : decode cX12_isFit 94 = .ok (.istore_n 2, 1) := by decide +kernel
theorem dX12_isFit_95 : decode cX12_isFit 95 = .ok (.iinc 3 1, 3) := by decide +kernel
theorem dX12_isFit_98 : decode cX12_isFit 98 = .ok (.goto (-82), 3) := by decide +kernel
theorem dX12_isFit_101 : decode cX12_isFit 101 = .ok (.iload_n 2, 1) := by decide +kernel
theorem dX12_isFit_102 : decode cX12_isFit 102 = .ok (.ireturn, 1) := by decide +kernel
theorem dX12_isBalanced_0 : decode cX12_isBalanced 0 = .ok (.aload_n 0, 1) := by decide +kernel
theorem dX12_isBalanced_1 : decode cX12_isBalanced 1 = .ok (.getfield 7, 3) := by decide +kernel
theorem dX12_isBalanced_4 : decode cX12_isBalanced 4 = .ok (.iconst 3, 1) := by decide +kernel
theorem dX12_isBalanced_5 : decode cX12_isBalanced 5 = .ok (.iaload, 1) := by decide +kernel
theorem dX12_isBalanced_6 : decode cX12_isBalanced 6 = .ok (.aload_n 0, 1) := by decide +kernel
theorem dX12_isBalanced_7 : decode cX12_isBalanced 7 = .ok (.invokevirtual 259, 3) := by decide +kernel
theorem dX12_isBalanced_10 : decode cX12_isBalanced 10 = .ok (.aload_n 0, 1) := by decide +kernel
theorem dX12_isBalanced_11 : decode cX12_isBalanced 11 = .ok (.getfield 7, 3) := by decide +kernel
theorem dX12_isBalanced_14 : decode cX12_isBalanced 14 = .ok (.iconst 4, 1) := by decide +kernel
theorem dX12_isBalanced_15 : decode cX12_isBalanced 15 = .ok (.iaload, 1) := by decide +kernel
theorem dX12_isBalanced_16 : decode cX12_isBalanced 16 = .ok (.iadd, 1) := by decide +kernel
theorem dX12_isBalanced_17 : decode cX12_isBalanced 17 = .ok (.if_icmp .ne 7, 3) := by decide +kernel
theorem dX12_isBalanced_20 : decode cX12_isBalanced 20 = .ok (.iconst 1, 1) := by decide +kernel
theorem dX12_isBalanced_21 : decode cX12_isBalanced 21 = .ok (.goto 4, 3) := by decide +kernel
theorem dX12_isBalanced_24 : decode cX12_isBalanced 24 = .ok (.iconst 0, 1) := by decide +kernel
theorem dX12_isBalanced_25 : decode cX12_isBalanced 25 = .ok (.istore_n 1, 1) := by decide +kernel
theorem dX12_isBalanced_26 : decode cX12_isBalanced 26 = .ok (.iconst 0, 1) := by decide +kernel
theorem dX12_isBalanced_27 : decode cX12_isBalanced 27 = .ok (.istore_n 2, 1) := by decide +kernel
theorem dX12_isBalanced_28 : decode cX12_isBalanced 28 = .ok (.iload_n 2, 1) := by decide +kernel
theorem dX12_isBalanced_29 : decode cX12_isBalanced 29 = .ok (.bipush 24, 2) := by decide +kernel
theorem dX12_isBalanced_31 : decode cX12_isBalanced 31 = .ok (.if_icmp .ge 27, 3) := by decide +kernel
theorem dX12_isBalanced_34 : decode cX12_isBalanced 34 = .ok (.iload_n 1, 1) := by decide +kernel
theorem dX12_isBalanced_35 : decode cX12_isBalanced 35 = .ok (.ifCond .eq 15, 3) := by decide +kernel
theorem dX12_isBalanced_38 : decode cX12_isBalanced 38 = .ok (.aload_n 0, 1) := by decide +kernel
theorem dX12_isBalanced_39 : decode cX12_isBalanced 39 = .ok (.iload_n 2, 1) := by decide +kernel
theorem dX12_isBalanced_40 : decode cX12_isBalanced 40 = .ok (.invokevirtual 268, 3) := by decide +kernel
theorem dX12_isBalanced_43 : decode cX12_isBalanced 43 = .ok (.ifCond .eq 7, 3) := by decide +kernel
theorem dX12_isBalanced_46 : decode cX12_isBalanced 46 = .ok (.iconst 1, 1) := by decide +kernel
theorem dX12_isBalanced_47 : decode cX12_isBalanced 47 = .ok (.goto 4, 3) := by decide +kernel
theorem dX12_isBalanced_50 : decode cX12_isBalanced 50 = .ok (.iconst 0, 1) := by decide +kernel
theorem dX12_isBalanced_51 : decode cX12_isBalanced 51 = .ok (.istore_n 1, 1) := by decide +kernel
theorem dX12_isBalanced_52 : decode cX12_isBalanced 52 = .ok (.iinc 2 1, 3) := by decide +kernel
theorem dX12_isBalanced_55 : decode cX12_isBalanced 55 = .ok (.goto (-27), 3) := by decide +kernel
theorem dX12_isBalanced_58 : decode cX12_isBalanced 58 = .ok (.iconst 0, 1) := by decide +kernel
theorem dX12_isBalanced_59 : decode cX12_isBalanced 59 = .ok (.istore_n 2, 1) := by decide +kernel
theorem dX12_isBalanced_60 : decode cX12_isBalanced 60 = .ok (.iload_n 2, 1) := by decide +kernel
theorem dX12_isBalanced_61 : decode cX12_isBalanced 61 = .ok (.bipush 6, 2) := by decide +kernel
theorem dX12_isBalanced_63 : decode cX12_isBalanced 63 = .ok (.if_icmp .ge 35, 3) := by decide +kernel
theorem dX12_isBalanced_66 : decode cX12_isBalanced 66 = .ok (.iload_n 1, 1) := by decide +kernel
theorem dX12_isBalanced_67 : decode cX12_isBalanced 67 = .ok (.ifCond .eq 23, 3) := by decide +kernel
theorem dX12_isBalanced_70 : decode cX12_isBalanced 70 = .ok (.aload_n 0, 1) := by decide +kernel
theorem dX12_isBalanced_71 : decode cX12_isBalanced 71 = .ok (.aload_n 0, 1) := by decide +kernel
theorem dX12_isBalanced_72 : decode cX12_isBalanced 72 = .ok (.getfield 7, 3) := by decide +kernel
theorem dX12_isBalanced_75 : decode cX12_isBalanced 75 = .ok (.bipush 11, 2) := by decide +kernel
theorem dX12_isBalanced_77 : decode cX12_isBalanced 77 = .ok (.iload_n 2, 1) := by decide +kernel
theorem dX12_isBalanced_78 : decode cX12_isBalanced 78 = .ok (.iadd, 1) := by decide +kernel
theorem dX12_isBalanced_79 : decode cX12_isBalanced 79 = .ok (.iaload, 1) := by decide +kernel
theorem dX12_isBalanced_80 : decode cX12_isBalanced 80 = .ok (.invokevirtual 265, 3) := by decide +kernel
theorem dX12_isBalanced_83 : decode cX12_isBalanced 83 = .ok (.ifCond .eq 7, 3) := by decide +kernel
theorem dX12_isBalanced_86 : decode cX12_isBalanced 86 = .ok (.iconst 1, 1) := by decide +kernel
theorem dX12_isBalanced_87 : decode cX12_isBalanced 87 = .ok (.goto 4, 3) := by decide +kernel
theorem dX12_isBalanced_90 : decode cX12_isBalanced 90 = .ok (.iconst 0, 1) := by decide +kernel
theorem dX12_isBalanced_91 : decode cX12_isBalanced 91 = .ok (.istore_n 1, 1) := by decide +kernel
theorem dX12_isBalanced_92 : decode cX12_isBalanced 92 = .ok (.iinc 2 1, 3) := by decide +kernel
theorem dX12_isBalanced_95 : decode cX12_isBalanced 95 = .ok (.goto (-35), 3) := by decide +kernel
theorem dX12_isBalanced_98 : decode cX12_isBalanced 98 = .ok (.iload_n 1, 1) := by decide +kernel
theorem dX12_isBalanced_99 : decode cX12_isBalanced 99 = .ok (.ifCond .eq 7, 3) := by decide +kernel
theorem dX12_isBalanced_102 : decode cX12_isBalanced 102 = .ok (.iconst 1, 1) := by decide +kernel
theorem dX12_isBalanced_103 : decode cX12_isBalanced 103 = .ok (.goto 4, 3) := by decide +kernel
theorem dX12_isBalanced_106 : decode cX12_isBalanced 106 = .ok (.iconst 0, 1) := by decide +kernel
theorem dX12_isBalanced_107 : decode cX12_isBalanced 107 = .ok (.ireturn, 1) := by decide +kernel
theorem dX12_meanHeld_0 : decode cX12_meanHeld 0 = .ok (.aload_n 0, 1) := by decide +kernel
theorem dX12_meanHeld_1 : decode cX12_meanHeld 1 = .ok (.invokevirtual 259, 3) := by decide +kernel
theorem dX12_meanHeld_4 : decode cX12_meanHeld 4 = .ok (.istore_n 1, 1) := by decide +kernel
theorem dX12_meanHeld_5 : decode cX12_meanHeld 5 = .ok (.iconst 0, 1) := by decide +kernel
theorem dX12_meanHeld_6 : decode cX12_meanHeld 6 = .ok (.istore_n 2, 1) := by decide +kernel
theorem dX12_meanHeld_7 : decode cX12_meanHeld 7 = .ok (.iconst 0, 1) := by decide +kernel
theorem dX12_meanHeld_8 : decode cX12_meanHeld 8 = .ok (.istore_n 3, 1) := by decide +kernel
theorem dX12_meanHeld_9 : decode cX12_meanHeld 9 = .ok (.iload_n 3, 1) := by decide +kernel
theorem dX12_meanHeld_10 : decode cX12_meanHeld 10 = .ok (.bipush 24, 2) := by decide +kernel
theorem dX12_meanHeld_12 : decode cX12_meanHeld 12 = .ok (.if_icmp .ge 34, 3) := by decide +kernel
theorem dX12_meanHeld_15 : decode cX12_meanHeld 15 = .ok (.iload_n 2, 1) := by decide +kernel
theorem dX12_meanHeld_16 : decode cX12_meanHeld 16 = .ok (.aload_n 0, 1) := by decide +kernel
theorem dX12_meanHeld_17 : decode cX12_meanHeld 17 = .ok (.getfield 7, 3) := by decide +kernel
theorem dX12_meanHeld_20 : decode cX12_meanHeld 20 = .ok (.bipush 17, 2) := by decide +kernel
theorem dX12_meanHeld_22 : decode cX12_meanHeld 22 = .ok (.iload_n 3, 1) := by decide +kernel
theorem dX12_meanHeld_23 : decode cX12_meanHeld 23 = .ok (.iadd, 1) := by decide +kernel
theorem dX12_meanHeld_24 : decode cX12_meanHeld 24 = .ok (.iaload, 1) := by decide +kernel
theorem dX12_meanHeld_25 : decode cX12_meanHeld 25 = .ok (.iconst 1, 1) := by decide +kernel
theorem dX12_meanHeld_26 : decode cX12_meanHeld 26 = .ok (.if_icmp .ne 11, 3) := by decide +kernel
theorem dX12_meanHeld_29 : decode cX12_meanHeld 29 = .ok (.aload_n 0, 1) := by decide +kernel
theorem dX12_meanHeld_30 : decode cX12_meanHeld 30 = .ok (.iload_n 3, 1) := by decide +kernel
theorem dX12_meanHeld_31 : decode cX12_meanHeld 31 = .ok (.invokevirtual 140, 3) := by decide +kernel
theorem dX12_meanHeld_34 : decode cX12_meanHeld 34 = .ok (.goto 4, 3) := by decide +kernel
theorem dX12_meanHeld_37 : decode cX12_meanHeld 37 = .ok (.iconst 0, 1) := by decide +kernel
theorem dX12_meanHeld_38 : decode cX12_meanHeld 38 = .ok (.iadd, 1) := by decide +kernel
theorem dX12_meanHeld_39 : decode cX12_meanHeld 39 = .ok (.istore_n 2, 1) := by decide +kernel
theorem dX12_meanHeld_40 : decode cX12_meanHeld 40 = .ok (.iinc 3 1, 3) := by decide +kernel
theorem dX12_meanHeld_43 : decode cX12_meanHeld 43 = .ok (.goto (-34), 3) := by decide +kernel
theorem dX12_meanHeld_46 : decode cX12_meanHeld 46 = .ok (.iload_n 1, 1) := by decide +kernel
theorem dX12_meanHeld_47 : decode cX12_meanHeld 47 = .ok (.ifCond .ne 7, 3) := by decide +kernel
theorem dX12_meanHeld_50 : decode cX12_meanHeld 50 = .ok (.dconst 0, 1) := by decide +kernel
theorem dX12_meanHeld_51 : decode cX12_meanHeld 51 = .ok (.goto 8, 3) := by decide +kernel
theorem dX12_meanHeld_54 : decode cX12_meanHeld 54 = .ok (.iload_n 2, 1) := by decide +kernel
theorem dX12_meanHeld_55 : decode cX12_meanHeld 55 = .ok (.i2d, 1) := by decide +kernel
theorem dX12_meanHeld_56 : decode cX12_meanHeld 56 = .ok (.iload_n 1, 1) := by decide +kernel
theorem dX12_meanHeld_57 : decode cX12_meanHeld 57 = .ok (.i2d, 1) := by decide +kernel
theorem dX12_meanHeld_58 : decode cX12_meanHeld 58 = .ok (.ddiv, 1) := by decide +kernel
theorem dX12_meanHeld_59 : decode cX12_meanHeld 59 = .ok (.dreturn, 1) := by decide +kernel
theorem dX12_liveShare_0 : decode cX12_liveShare 0 = .ok (.aload_n 0, 1) := by decide +kernel
theorem dX12_liveShare_1 : decode cX12_liveShare 1 = .ok (.invokevirtual 259, 3) := by decide +kernel
theorem dX12_liveShare_4 : decode cX12_liveShare 4 = .ok (.istore_n 1, 1) := by decide +kernel
theorem dX12_liveShare_5 : decode cX12_liveShare 5 = .ok (.aload_n 0, 1) := by decide +kernel
theorem dX12_liveShare_6 : decode cX12_liveShare 6 = .ok (.invokevirtual 163, 3) := by decide +kernel
theorem dX12_liveShare_9 : decode cX12_liveShare 9 = .ok (.istore_n 2, 1) := by decide +kernel
theorem dX12_liveShare_10 : decode cX12_liveShare 10 = .ok (.iconst 0, 1) := by decide +kernel
theorem dX12_liveShare_11 : decode cX12_liveShare 11 = .ok (.istore_n 3, 1) := by decide +kernel
theorem dX12_liveShare_12 : decode cX12_liveShare 12 = .ok (.iconst 0, 1) := by decide +kernel
theorem dX12_liveShare_13 : decode cX12_liveShare 13 = .ok (.istore 4, 2) := by decide +kernel
theorem dX12_liveShare_15 : decode cX12_liveShare 15 = .ok (.iload 4, 2) := by decide +kernel
theorem dX12_liveShare_17 : decode cX12_liveShare 17 = .ok (.bipush 24, 2) := by decide +kernel
theorem dX12_liveShare_19 : decode cX12_liveShare 19 = .ok (.if_icmp .ge 18, 3) := by decide +kernel
theorem dX12_liveShare_22 : decode cX12_liveShare 22 = .ok (.iload_n 3, 1) := by decide +kernel
theorem dX12_liveShare_23 : decode cX12_liveShare 23 = .ok (.iload_n 2, 1) := by decide +kernel
theorem dX12_liveShare_24 : decode cX12_liveShare 24 = .ok (.iload 4, 2) := by decide +kernel
theorem dX12_liveShare_26 : decode cX12_liveShare 26 = .ok (.ishr, 1) := by decide +kernel
theorem dX12_liveShare_27 : decode cX12_liveShare 27 = .ok (.iconst 1, 1) := by decide +kernel
theorem dX12_liveShare_28 : decode cX12_liveShare 28 = .ok (.iand, 1) := by decide +kernel
theorem dX12_liveShare_29 : decode cX12_liveShare 29 = .ok (.iadd, 1) := by decide +kernel
theorem dX12_liveShare_30 : decode cX12_liveShare 30 = .ok (.istore_n 3, 1) := by decide +kernel
theorem dX12_liveShare_31 : decode cX12_liveShare 31 = .ok (.iinc 4 1, 3) := by decide +kernel
theorem dX12_liveShare_34 : decode cX12_liveShare 34 = .ok (.goto (-19), 3) := by decide +kernel
theorem dX12_liveShare_37 : decode cX12_liveShare 37 = .ok (.iload_n 1, 1) := by decide +kernel
theorem dX12_liveShare_38 : decode cX12_liveShare 38 = .ok (.ifCond .ne 7, 3) := by decide +kernel
theorem dX12_liveShare_41 : decode cX12_liveShare 41 = .ok (.fconst 0, 1) := by decide +kernel
theorem dX12_liveShare_42 : decode cX12_liveShare 42 = .ok (.goto 8, 3) := by decide +kernel
theorem dX12_liveShare_45 : decode cX12_liveShare 45 = .ok (.iload_n 3, 1) := by decide +kernel
theorem dX12_liveShare_46 : decode cX12_liveShare 46 = .ok (.i2f, 1) := by decide +kernel
theorem dX12_liveShare_47 : decode cX12_liveShare 47 = .ok (.iload_n 1, 1) := by decide +kernel
theorem dX12_liveShare_48 : decode cX12_liveShare 48 = .ok (.i2f, 1) := by decide +kernel
theorem dX12_liveShare_49 : decode cX12_liveShare 49 = .ok (.fdiv, 1) := by decide +kernel
theorem dX12_liveShare_50 : decode cX12_liveShare 50 = .ok (.freturn, 1) := by decide +kernel
theorem dX12_undo_0 : decode cX12_undo 0 = .ok (.aload_n 0, 1) := by decide +kernel
theorem dX12_undo_1 : decode cX12_undo 1 = .ok (.getfield 38, 3) := by decide +kernel
theorem dX12_undo_4 : decode cX12_undo 4 = .ok (.ifCond .ne 6, 3) := by decide +kernel
theorem dX12_undo_7 : decode cX12_undo 7 = .ok (.bipush (-15), 2) := by decide +kernel
theorem dX12_undo_9 : decode cX12_undo 9 = .ok (.ireturn, 1) := by decide +kernel
theorem dX12_undo_10 : decode cX12_undo 10 = .ok (.aload_n 0, 1) := by decide +kernel
theorem dX12_undo_11 : decode cX12_undo 11 = .ok (.dup, 1) := by decide +kernel
theorem dX12_undo_12 : decode cX12_undo 12 = .ok (.getfield 38, 3) := by decide +kernel
theorem dX12_undo_15 : decode cX12_undo 15 = .ok (.iconst 1, 1) := by decide +kernel
theorem dX12_undo_16 : decode cX12_undo 16 = .ok (.isub, 1) := by decide +kernel
theorem dX12_undo_17 : decode cX12_undo 17 = .ok (.putfield 38, 3) := by decide +kernel
theorem dX12_undo_20 : decode cX12_undo 20 = .ok (.iconst 0, 1) := by decide +kernel
theorem dX12_undo_21 : decode cX12_undo 21 = .ok (.istore_n 1, 1) := by decide +kernel
theorem dX12_undo_22 : decode cX12_undo 22 = .ok (.iload_n 1, 1) := by decide +kernel
theorem dX12_undo_23 : decode cX12_undo 23 = .ok (.sipush 293, 3) := by decide +kernel
theorem dX12_undo_26 : decode cX12_undo 26 = .ok (.if_icmp .ge 30, 3) := by decide +kernel
theorem dX12_undo_29 : decode cX12_undo 29 = .ok (.aload_n 0, 1) := by decide +kernel
theorem dX12_undo_30 : decode cX12_undo 30 = .ok (.getfield 7, 3) := by decide +kernel
theorem dX12_undo_33 : decode cX12_undo 33 = .ok (.iload_n 1, 1) := by decide +kernel
theorem dX12_undo_34 : decode cX12_undo 34 = .ok (.aload_n 0, 1) := by decide +kernel
theorem dX12_undo_35 : decode cX12_undo 35 = .ok (.getfield 19, 3) := by decide +kernel
theorem dX12_undo_38 : decode cX12_undo 38 = .ok (.sipush 293, 3) := by decide +kernel
theorem dX12_undo_41 : decode cX12_undo 41 = .ok (.aload_n 0, 1) := by decide +kernel
theorem dX12_undo_42 : decode cX12_undo 42 = .ok (.getfield 38, 3) := by decide +kernel
theorem dX12_undo_45 : decode cX12_undo 45 = .ok (.imul, 1) := by decide +kernel
theorem dX12_undo_46 : decode cX12_undo 46 = .ok (.iload_n 1, 1) := by decide +kernel
theorem dX12_undo_47 : decode cX12_undo 47 = .ok (.iadd, 1) := by decide +kernel
theorem dX12_undo_48 : decode cX12_undo 48 = .ok (.iaload, 1) := by decide +kernel
theorem dX12_undo_49 : decode cX12_undo 49 = .ok (.iastore, 1) := by decide +kernel
theorem dX12_undo_50 : decode cX12_undo 50 = .ok (.iinc 1 1, 3) := by decide +kernel
theorem dX12_undo_53 : decode cX12_undo 53 = .ok (.goto (-31), 3) := by decide +kernel
theorem dX12_undo_56 : decode cX12_undo 56 = .ok (.aload_n 0, 1) := by decide +kernel
theorem dX12_undo_57 : decode cX12_undo 57 = .ok (.getfield 38, 3) := by decide +kernel
theorem dX12_undo_60 : decode cX12_undo 60 = .ok (.ireturn, 1) := by decide +kernel
theorem dX12_save_0 : decode cX12_save 0 = .ok (.iconst 0, 1) := by decide +kernel
theorem dX12_save_1 : decode cX12_save 1 = .ok (.istore_n 1, 1) := by decide +kernel
theorem dX12_save_2 : decode cX12_save 2 = .ok (.iload_n 1, 1) := by decide +kernel
theorem dX12_save_3 : decode cX12_save 3 = .ok (.sipush 293, 3) := by decide +kernel
theorem dX12_save_6 : decode cX12_save 6 = .ok (.if_icmp .ge 21, 3) := by decide +kernel
theorem dX12_save_9 : decode cX12_save 9 = .ok (.aload_n 0, 1) := by decide +kernel
theorem dX12_save_10 : decode cX12_save 10 = .ok (.getfield 16, 3) := by decide +kernel
theorem dX12_save_13 : decode cX12_save 13 = .ok (.iload_n 1, 1) := by decide +kernel
theorem dX12_save_14 : decode cX12_save 14 = .ok (.aload_n 0, 1) := by decide +kernel
theorem dX12_save_15 : decode cX12_save 15 = .ok (.getfield 7, 3) := by decide +kernel
theorem dX12_save_18 : decode cX12_save 18 = .ok (.iload_n 1, 1) := by decide +kernel
theorem dX12_save_19 : decode cX12_save 19 = .ok (.iaload, 1) := by decide +kernel
theorem dX12_save_20 : decode cX12_save 20 = .ok (.iastore, 1) := by decide +kernel
theorem dX12_save_21 : decode cX12_save 21 = .ok (.iinc 1 1, 3) := by decide +kernel
theorem dX12_save_24 : decode cX12_save 24 = .ok (.goto (-22), 3) := by decide +kernel
theorem dX12_save_27 : decode cX12_save 27 = .ok (.aload_n 0, 1) := by decide +kernel
theorem dX12_save_28 : decode cX12_save 28 = .ok (.iconst 1, 1) := by decide +kernel
theorem dX12_save_29 : decode cX12_save 29 = .ok (.putfield 271, 3) := by decide +kernel
theorem dX12_save_32 : decode cX12_save 32 = .ok (.aload_n 0, 1) := by decide +kernel
theorem dX12_save_33 : decode cX12_save 33 = .ok (.invokevirtual 259, 3) := by decide +kernel
theorem dX12_save_36 : decode cX12_save 36 = .ok (.ireturn, 1) := by decide +kernel
theorem dX12_restore_0 : decode cX12_restore 0 = .ok (.aload_n 0, 1) := by decide +kernel
theorem dX12_restore_1 : decode cX12_restore 1 = .ok (.getfield 271, 3) := by decide +kernel
theorem dX12_restore_4 : decode cX12_restore 4 = .ok (.ifCond .ne 6, 3) := by decide +kernel
theorem dX12_restore_7 : decode cX12_restore 7 = .ok (.bipush (-15), 2) := by decide +kernel
theorem dX12_restore_9 : decode cX12_restore 9 = .ok (.ireturn, 1) := by decide +kernel
theorem dX12_restore_10 : decode cX12_restore 10 = .ok (.iconst 0, 1) := by decide +kernel
theorem dX12_restore_11 : decode cX12_restore 11 = .ok (.istore_n 1, 1) := by decide +kernel
theorem dX12_restore_12 : decode cX12_restore 12 = .ok (.iload_n 1, 1) := by decide +kernel
theorem dX12_restore_13 : decode cX12_restore 13 = .ok (.sipush 293, 3) := by decide +kernel
theorem dX12_restore_16 : decode cX12_restore 16 = .ok (.if_icmp .ge 21, 3) := by decide +kernel
theorem dX12_restore_19 : decode cX12_restore 19 = .ok (.aload_n 0, 1) := by decide +kernel
theorem dX12_restore_20 : decode cX12_restore 20 = .ok (.getfield 7, 3) := by decide +kernel
theorem dX12_restore_23 : decode cX12_restore 23 = .ok (.iload_n 1, 1) := by decide +kernel
theorem dX12_restore_24 : decode cX12_restore 24 = .ok (.aload_n 0, 1) := by decide +kernel
theorem dX12_restore_25 : decode cX12_restore 25 = .ok (.getfield 16, 3) := by decide +kernel
theorem dX12_restore_28 : decode cX12_restore 28 = .ok (.iload_n 1, 1) := by decide +kernel
theorem dX12_restore_29 : decode cX12_restore 29 = .ok (.iaload, 1) := by decide +kernel
theorem dX12_restore_30 : decode cX12_restore 30 = .ok (.iastore, 1) := by decide +kernel
theorem dX12_restore_31 : decode cX12_restore 31 = .ok (.iinc 1 1, 3) := by decide +kernel
theorem dX12_restore_34 : decode cX12_restore 34 = .ok (.goto (-22), 3) := by decide +kernel
theorem dX12_restore_37 : decode cX12_restore 37 = .ok (.aload_n 0, 1) := by decide +kernel
theorem dX12_restore_38 : decode cX12_restore 38 = .ok (.iconst 0, 1) := by decide +kernel
theorem dX12_restore_39 : decode cX12_restore 39 = .ok (.putfield 38, 3) := by decide +kernel
theorem dX12_restore_42 : decode cX12_restore 42 = .ok (.aload_n 0, 1) := by decide +kernel
theorem dX12_restore_43 : decode cX12_restore 43 = .ok (.invokevirtual 259, 3) := by decide +kernel
theorem dX12_restore_46 : decode cX12_restore 46 = .ok (.ireturn, 1) := by decide +kernel
def f_X12_isThere (μ : mu_T) (a1 : Int) : Option Int :=
  eq_ a1 (-15)
      (some 1)
      (bd_ (f_X12_isUrn μ a1) (fun v8 => eq_ v8 0
      (some 0)
      (some 1)))
set_option maxHeartbeats 4000000 in
set_option maxRecDepth 100000 in
theorem c_X12_isThere {G : gp_} {ad : Nat → Nat} (μ : mu_T) (a1 : Int) (a : Int) (h : f_X12_isThere μ a1 = some a) : mi_ yX12_isThere cX12_isThere 2 (some .boolean) ({ frames := 2, cells := 0, slots := 0, locals := 43 } : Room) G 9 ad (ceM G ad) [.ref (ad 0), .int (iI a1)] μ a μ := by
  refine mi_in (own := "UrnHeapModel") (lv := [(0, .ref (ad 0)), (1, .int (iI a1))]) (by decide) rfl rfl (Nat.le_of_ble_eq_true rfl) (fun X C E => ?_)
  unfold f_X12_isThere at h
  refine xx_iload_n C 1 rfl 1 dX12_isThere_0 rfl rfl ?_
  refine xx_bipush C 3 rfl dX12_isThere_1 (by decide) ?_
  refine xx_icmp_eq (tgt := 14) C 6 rfl dX12_isThere_3 (by decide) h (fun h => ?_) (fun h => ?_)
  · refine xx_iconst C 15 rfl dX12_isThere_14 ?_
    refine xx_goto C 19 dX12_isThere_15 (by decide) ?_
    exact xx_zretl C E rfl rfl ⟨Nat.le_of_ble_eq_true rfl, Nat.le_of_ble_eq_true rfl⟩ dX12_isThere_19 h
  · refine xx_aload_n C 7 rfl 0 dX12_isThere_6 rfl rfl ?_
    refine xx_iload_n C 8 rfl 1 dX12_isThere_7 rfl rfl ?_
    refine xx_cVip (As := [.int (iI a1)]) (st := []) (o := 0) C 11 rfl (by decide) (ceM_0 _ _ _) rfl rfl ca_X12_isUrn cv_X12_isUrn w_1276 rfl ⟨Nat.le_of_ble_eq_true rfl, Nat.le_of_ble_eq_true rfl⟩ ⟨Nat.le_of_ble_eq_true rfl, Nat.le_of_ble_eq_true rfl⟩ (Nat.le_of_ble_eq_true rfl) dX12_isThere_8 (fun v8 e9 => c_X12_isUrn _ _ v8 e9) h (fun v8 h => ?_) rfl
    refine xx_if_eq (tgt := 18) C 14 rfl dX12_isThere_11 (by decide) h (fun h => ?_) (fun h => ?_)
    · refine xx_iconst C 19 rfl dX12_isThere_18 ?_
      exact xx_zretl C E rfl rfl ⟨Nat.le_of_ble_eq_true rfl, Nat.le_of_ble_eq_true rfl⟩ dX12_isThere_19 h
    · refine xx_iconst C 15 rfl dX12_isThere_14 ?_
      refine xx_goto C 19 dX12_isThere_15 (by decide) ?_
      exact xx_zretl C E rfl rfl ⟨Nat.le_of_ble_eq_true rfl, Nat.le_of_ble_eq_true rfl⟩ dX12_isThere_19 h

def f_X12_isFit_L16 (a1 : Int) (μ : mu_T) : Nat → Int → Int → Option Int
  | 0, _, _ => none
  | fu16 + 1, x2_16, x3_16 => lt_ x3_16 4
      (bd_ (f_X12_at μ a1 x3_16) (fun v27 => rd_ μ 1 293 v27 (fun v30 => jn_ (φ := Int → Option Int) (fun s0_94 => nm_ (x3_16 + 1) (fun n95 => (f_X12_isFit_L16 a1 μ fu16) s0_94 n95))
      (fun J94 => jn_ (φ := Unit → Option Int) (fun _ => J94 0)
      (fun J93 => eq_ x2_16 0
      (J93 ())
      (bd_ (f_X12_isThere μ v30) (fun v40 => eq_ v40 0
      (J93 ())
      (jn_ (φ := Unit → Option Int) (fun _ => J94 1)
      (fun J89 => eq_ v30 (-15)
      (J89 ())
      (rd_ μ 1 293 0 (fun v58 => eq_ v58 1
      (rd_ μ 1 293 (41 + a1) (fun v71 => eq_ v71 2
      (rd_ μ 1 293 (41 + v30) (fun v85 => eq_ v85 0
      (J93 ())
      (J89 ())))
      (J89 ())))
      (J89 ()))))))))))))
      (ry_ x2_16)
def f_X12_isFit (μ : mu_T) (a1 : Int) : Option Int :=
  rd_ μ 1 293 (113 + a1) (fun v9 => bd_ (f_X12_isThere μ v9) (fun v10 => f_X12_isFit_L16 a1 μ 20000 v10 0))
set_option maxHeartbeats 4000000 in
set_option maxRecDepth 100000 in
theorem c_X12_isFit {G : gp_} {ad : Nat → Nat} (μ : mu_T) (a1 : Int) (a : Int) (h : f_X12_isFit μ a1 = some a) : mi_ yX12_isFit cX12_isFit 5 (some .boolean) ({ frames := 3, cells := 0, slots := 0, locals := 64 } : Room) G 9 ad (ceM G ad) [.ref (ad 0), .int (iI a1)] μ a μ := by
  refine mi_in (own := "UrnHeapModel") (lv := [(0, .ref (ad 0)), (1, .int (iI a1))]) (by decide) rfl rfl (Nat.le_of_ble_eq_true rfl) (fun X C E => ?_)
  unfold f_X12_isFit at h
  refine xx_aload_n C 1 rfl 0 dX12_isFit_0 rfl rfl ?_
  refine xx_aload_n C 2 rfl 0 dX12_isFit_1 rfl rfl ?_
  refine xx_getr (fi := 0) C 5 rfl (by decide) (ceM_0 _ _ _) rfl in_X12 (by decide) rfl w_1179 dX12_isFit_2 ?_
  refine xx_bipush C 7 rfl dX12_isFit_5 (by decide) ?_
  refine xx_iload_n C 8 rfl 1 dX12_isFit_7 rfl rfl ?_
  refine xx_iadd C 9 rfl dX12_isFit_8 ?_
  refine xx_iaload C 10 rfl (by decide) (fun _ => rfl) (by decide) dX12_isFit_9 h (fun v9 h => ?_)
  refine xx_cVip (As := [.int (iI v9)]) (st := []) (o := 0) C 13 rfl (by decide) (ceM_0 _ _ _) rfl rfl ca_X12_isThere cv_X12_isThere w_1577 rfl ⟨Nat.le_of_ble_eq_true rfl, Nat.le_of_ble_eq_true rfl⟩ ⟨Nat.le_of_ble_eq_true rfl, Nat.le_of_ble_eq_true rfl⟩ (Nat.le_of_ble_eq_true rfl) dX12_isFit_10 (fun v10 e9 => c_X12_isThere _ _ v10 e9) h (fun v10 h => ?_) rfl
  refine xx_istore_n (lv1 := [(2, .int (iI v10)), (0, .ref (ad 0)), (1, .int (iI a1))]) C 14 rfl (by decide) dX12_isFit_13 rfl rfl ?_
  refine xx_iconst C 15 rfl dX12_isFit_14 ?_
  refine xx_istore_n (lv1 := [(3, .int (iI 0)), (2, .int (iI v10)), (0, .ref (ad 0)), (1, .int (iI a1))]) C 16 rfl (by decide) dX12_isFit_15 rfl rfl ?_
  have L16 : ∀ (fu16 : Nat) (x2_16 : Int) (x3_16 : Int), f_X12_isFit_L16 a1 μ fu16 x2_16 x3_16 = some a → wx_ G X 9 ad (ceM G ad) μ 0 0 16 [(0, .ref (ad 0)), (1, .int (iI a1)), (2, .int (iI x2_16)), (3, .int (iI x3_16))] [] := by
    intro fu16
    induction fu16 with
    | zero => intro x2_16 x3_16 h; exact nn_ h
    | succ fu16 K16 =>
      intro x2_16 x3_16 h
      rw [f_X12_isFit_L16] at h
      generalize f_X12_isFit_L16 a1 μ fu16 = R16 at K16 h
      refine xx_iload_n C 17 rfl 3 dX12_isFit_16 rfl rfl ?_
      refine xx_iconst C 18 rfl dX12_isFit_17 ?_
      refine xx_icmp_ge (tgt := 101) C 21 rfl dX12_isFit_18 (by decide) h (fun h => ?_) (fun h => ?_)
      · refine xx_iload_n C 102 rfl 2 dX12_isFit_101 rfl rfl ?_
        exact xx_zretp C E rfl ⟨Nat.le_of_ble_eq_true rfl, Nat.le_of_ble_eq_true rfl⟩ dX12_isFit_102 h
      · refine xx_aload_n C 22 rfl 0 dX12_isFit_21 rfl rfl ?_
        refine xx_getr (fi := 0) C 25 rfl (by decide) (ceM_0 _ _ _) rfl in_X12 (by decide) rfl w_1179 dX12_isFit_22 ?_
        refine xx_iload_n C 26 rfl 1 dX12_isFit_25 rfl rfl ?_
        refine xx_iload_n C 27 rfl 3 dX12_isFit_26 rfl rfl ?_
        refine xx_cSip (As := [.int (iI a1), .int (iI x3_16)]) (st := [.ref (ad 1)]) C 30 rfl  ca_X12_at cs_X12_at w_1176 rfl ⟨Nat.le_of_ble_eq_true rfl, Nat.le_of_ble_eq_true rfl⟩ ⟨Nat.le_of_ble_eq_true rfl, Nat.le_of_ble_eq_true rfl⟩ (Nat.le_of_ble_eq_true rfl) dX12_isFit_27 (fun v27 e9 => c_X12_at _ _ _ v27 e9) h (fun v27 h => ?_) rfl
        refine xx_iaload C 31 rfl (by decide) (fun _ => rfl) (by decide) dX12_isFit_30 h (fun v30 h => ?_)
        refine xx_istore (lv1 := [(4, .int (iI v30)), (0, .ref (ad 0)), (1, .int (iI a1)), (2, .int (iI x2_16)), (3, .int (iI x3_16))]) C 33 rfl (by decide) dX12_isFit_31 rfl ?_
        refine xx_iload_n C 34 rfl 3 dX12_isFit_33 rfl rfl ?_
        refine jn_r (fun J => ∀ (s0_94 : Int), J s0_94 = some a → wx_ G X 9 ad (ceM G ad) μ 0 0 94 [(0, .ref (ad 0)), (1, .int (iI a1)), (3, .int (iI x3_16))] [.int (iI s0_94)]) h (fun s0_94 h => ?_) (fun J94 K94 h => ?_)
        · refine xx_istore_n (lv1 := [(2, .int (iI s0_94)), (0, .ref (ad 0)), (1, .int (iI a1)), (3, .int (iI x3_16))]) C 95 rfl (by decide) dX12_isFit_94 rfl rfl ?_
          refine xx_iincn C 98 rfl 3 (by decide) dX12_isFit_95 rfl h (fun n95 h => ?_)
          refine xx_lv (lv1 := [(3, .int (iI n95)), (2, .int (iI s0_94)), (0, .ref (ad 0)), (1, .int (iI a1))]) rfl ?_
          refine xx_goto C 16 dX12_isFit_98 (by decide) ?_
          refine xx_sub [2, 3, 1, 0] rfl ?_
          exact K16 s0_94 n95 h
        · refine jn_r (fun J => ∀ (_u : Unit), J _u = some a → wx_ G X 9 ad (ceM G ad) μ 0 0 93 [(0, .ref (ad 0)), (1, .int (iI a1)), (3, .int (iI x3_16))] []) h (fun _ h => ?_) (fun J93 K93 h => ?_)
          · refine xx_iconst C 94 rfl dX12_isFit_93 ?_
            exact K94 0 h
          · refine xx_if_eq (tgt := 93) C 37 rfl dX12_isFit_34 (by decide) h (fun h => ?_) (fun h => ?_)
            · refine xx_sub [1, 2, 4] rfl ?_
              exact K93 () h
            · refine xx_aload_n C 38 rfl 1 dX12_isFit_37 rfl rfl ?_
              refine xx_iload C 40 rfl 0 dX12_isFit_38 rfl ?_
              refine xx_cVip (As := [.int (iI v30)]) (st := []) (o := 0) C 43 rfl (by decide) (ceM_0 _ _ _) rfl rfl ca_X12_isThere cv_X12_isThere w_1577 rfl ⟨Nat.le_of_ble_eq_true rfl, Nat.le_of_ble_eq_true rfl⟩ ⟨Nat.le_of_ble_eq_true rfl, Nat.le_of_ble_eq_true rfl⟩ (Nat.le_of_ble_eq_true rfl) dX12_isFit_40 (fun v40 e9 => c_X12_isThere _ _ v40 e9) h (fun v40 h => ?_) rfl
              refine xx_if_eq (tgt := 93) C 46 rfl dX12_isFit_43 (by decide) h (fun h => ?_) (fun h => ?_)
              · refine xx_sub [1, 2, 4] rfl ?_
                exact K93 () h
              · refine xx_iload C 48 rfl 0 dX12_isFit_46 rfl ?_
                refine xx_bipush C 50 rfl dX12_isFit_48 (by decide) ?_
                refine jn_r (fun J => ∀ (_u : Unit), J _u = some a → wx_ G X 9 ad (ceM G ad) μ 0 0 89 [(0, .ref (ad 0)), (1, .int (iI a1)), (3, .int (iI x3_16))] []) h (fun _ h => ?_) (fun J89 K89 h => ?_)
                · refine xx_iconst C 90 rfl dX12_isFit_89 ?_
                  refine xx_goto C 94 dX12_isFit_90 (by decide) ?_
                  exact K94 1 h
                · refine xx_icmp_eq (tgt := 89) C 53 rfl dX12_isFit_50 (by decide) h (fun h => ?_) (fun h => ?_)
                  · refine xx_sub [1, 2, 4] rfl ?_
                    exact K89 () h
                  · refine xx_aload_n C 54 rfl 1 dX12_isFit_53 rfl rfl ?_
                    refine xx_getr (fi := 0) C 57 rfl (by decide) (ceM_0 _ _ _) rfl in_X12 (by decide) rfl w_1179 dX12_isFit_54 ?_
                    refine xx_iconst C 58 rfl dX12_isFit_57 ?_
                    refine xx_iaload C 59 rfl (by decide) (fun _ => rfl) (by decide) dX12_isFit_58 h (fun v58 h => ?_)
                    refine xx_iconst C 60 rfl dX12_isFit_59 ?_
                    refine xx_icmp_ne (tgt := 89) C 63 rfl dX12_isFit_60 (by decide) h (fun h => ?_) (fun h => ?_)
                    · refine xx_sub [1, 2, 4] rfl ?_
                      exact K89 () h
                    · refine xx_aload_n C 64 rfl 1 dX12_isFit_63 rfl rfl ?_
                      refine xx_getr (fi := 0) C 67 rfl (by decide) (ceM_0 _ _ _) rfl in_X12 (by decide) rfl w_1179 dX12_isFit_64 ?_
                      refine xx_bipush C 69 rfl dX12_isFit_67 (by decide) ?_
                      refine xx_iload_n C 70 rfl 2 dX12_isFit_69 rfl rfl ?_
                      refine xx_iadd C 71 rfl dX12_isFit_70 ?_
                      refine xx_iaload C 72 rfl (by decide) (fun _ => rfl) (by decide) dX12_isFit_71 h (fun v71 h => ?_)
                      refine xx_iconst C 73 rfl dX12_isFit_72 ?_
                      refine xx_icmp_ne (tgt := 89) C 76 rfl dX12_isFit_73 (by decide) h (fun h => ?_) (fun h => ?_)
                      · refine xx_sub [1, 2, 4] rfl ?_
                        exact K89 () h
                      · refine xx_aload_n C 77 rfl 1 dX12_isFit_76 rfl rfl ?_
                        refine xx_getr (fi := 0) C 80 rfl (by decide) (ceM_0 _ _ _) rfl in_X12 (by decide) rfl w_1179 dX12_isFit_77 ?_
                        refine xx_bipush C 82 rfl dX12_isFit_80 (by decide) ?_
                        refine xx_iload C 84 rfl 0 dX12_isFit_82 rfl ?_
                        refine xx_iadd C 85 rfl dX12_isFit_84 ?_
                        refine xx_iaload C 86 rfl (by decide) (fun _ => rfl) (by decide) dX12_isFit_85 h (fun v85 h => ?_)
                        refine xx_if_eq (tgt := 93) C 89 rfl dX12_isFit_86 (by decide) h (fun h => ?_) (fun h => ?_)
                        · refine xx_sub [1, 2, 4] rfl ?_
                          exact K93 () h
                        · refine xx_sub [1, 2, 4] rfl ?_
                          exact K89 () h
  refine xx_sub [2, 3, 1, 0] rfl ?_
  exact L16 _ _ _ h

def f_X12_isBalanced_L60 (J98 : Int → Option Int) (μ : mu_T) : Nat → Int → Int → Option Int
  | 0, _, _ => none
  | fu60 + 1, x1_60, x2_60 => lt_ x2_60 6
      (jn_ (φ := Int → Option Int) (fun s0_91 => nm_ (x2_60 + 1) (fun n92 => (f_X12_isBalanced_L60 J98 μ fu60) s0_91 n92))
      (fun J91 => jn_ (φ := Unit → Option Int) (fun _ => J91 0)
      (fun J90 => eq_ x1_60 0
      (J90 ())
      (rd_ μ 1 293 (11 + x2_60) (fun v79 => bd_ (f_X12_isThere μ v79) (fun v80 => eq_ v80 0
      (J90 ())
      (J91 1)))))))
      (J98 x1_60)
def f_X12_isBalanced_L28 (J58 : Int → Option Int) (μ : mu_T) : Nat → Int → Int → Option Int
  | 0, _, _ => none
  | fu28 + 1, x1_28, x2_28 => lt_ x2_28 24
      (jn_ (φ := Int → Option Int) (fun s0_51 => nm_ (x2_28 + 1) (fun n52 => (f_X12_isBalanced_L28 J58 μ fu28) s0_51 n52))
      (fun J51 => jn_ (φ := Unit → Option Int) (fun _ => J51 0)
      (fun J50 => eq_ x1_28 0
      (J50 ())
      (bd_ (f_X12_isFit μ x2_28) (fun v40 => eq_ v40 0
      (J50 ())
      (J51 1))))))
      (J58 x1_28)
def f_X12_isBalanced (μ : mu_T)  : Option Int :=
  rd_ μ 1 293 3 (fun v5 => bd_ (f_X12_manyUrns μ) (fun v7 => rd_ μ 1 293 4 (fun v15 => jn_ (φ := Int → Option Int) (fun s0_25 => jn_ (φ := Int → Option Int) (fun x1_58 => jn_ (φ := Int → Option Int) (fun x1_98 => eq_ x1_98 0
      (some 0)
      (some 1))
      (fun J98 => f_X12_isBalanced_L60 J98 μ 20000 x1_58 0))
      (fun J58 => f_X12_isBalanced_L28 J58 μ 20000 s0_25 0))
      (fun J25 => eq_ v5 (v7 + v15)
      (J25 1)
      (J25 0)))))
set_option maxHeartbeats 4000000 in
set_option maxRecDepth 100000 in
theorem c_X12_isBalanced {G : gp_} {ad : Nat → Nat} (μ : mu_T)  (a : Int) (h : f_X12_isBalanced μ  = some a) : mi_ yX12_isBalanced cX12_isBalanced 3 (some .int) ({ frames := 4, cells := 0, slots := 0, locals := 88 } : Room) G 9 ad (ceM G ad) [.ref (ad 0)] μ a μ := by
  refine mi_in (own := "UrnHeapModel") (lv := [(0, .ref (ad 0))]) (by decide) rfl rfl (Nat.le_of_ble_eq_true rfl) (fun X C E => ?_)
  unfold f_X12_isBalanced at h
  refine xx_aload_n C 1 rfl 0 dX12_isBalanced_0 rfl rfl ?_
  refine xx_getr (fi := 0) C 4 rfl (by decide) (ceM_0 _ _ _) rfl in_X12 (by decide) rfl w_1179 dX12_isBalanced_1 ?_
  refine xx_iconst C 5 rfl dX12_isBalanced_4 ?_
  refine xx_iaload C 6 rfl (by decide) (fun _ => rfl) (by decide) dX12_isBalanced_5 h (fun v5 h => ?_)
  refine xx_aload_n C 7 rfl 0 dX12_isBalanced_6 rfl rfl ?_
  refine xx_cVip (As := []) (st := [.int (iI v5)]) (o := 0) C 10 rfl (by decide) (ceM_0 _ _ _) rfl rfl ca_X12_manyUrns cv_X12_manyUrns w_1561 rfl ⟨Nat.le_of_ble_eq_true rfl, Nat.le_of_ble_eq_true rfl⟩ ⟨Nat.le_of_ble_eq_true rfl, Nat.le_of_ble_eq_true rfl⟩ (Nat.le_of_ble_eq_true rfl) dX12_isBalanced_7 (fun v7 e9 => c_X12_manyUrns _ v7 e9) h (fun v7 h => ?_) rfl
  refine xx_aload_n C 11 rfl 0 dX12_isBalanced_10 rfl rfl ?_
  refine xx_getr (fi := 0) C 14 rfl (by decide) (ceM_0 _ _ _) rfl in_X12 (by decide) rfl w_1179 dX12_isBalanced_11 ?_
  refine xx_iconst C 15 rfl dX12_isBalanced_14 ?_
  refine xx_iaload C 16 rfl (by decide) (fun _ => rfl) (by decide) dX12_isBalanced_15 h (fun v15 h => ?_)
  refine xx_iadd C 17 rfl dX12_isBalanced_16 ?_
  refine jn_r (fun J => ∀ (s0_25 : Int), J s0_25 = some a → wx_ G X 9 ad (ceM G ad) μ 0 0 25 [(0, .ref (ad 0))] [.int (iI s0_25)]) h (fun s0_25 h => ?_) (fun J25 K25 h => ?_)
  · refine xx_istore_n (lv1 := [(1, .int (iI s0_25)), (0, .ref (ad 0))]) C 26 rfl (by decide) dX12_isBalanced_25 rfl rfl ?_
    refine xx_iconst C 27 rfl dX12_isBalanced_26 ?_
    refine xx_istore_n (lv1 := [(2, .int (iI 0)), (1, .int (iI s0_25)), (0, .ref (ad 0))]) C 28 rfl (by decide) dX12_isBalanced_27 rfl rfl ?_
    refine jn_r (fun J => ∀ (x1_58 : Int), J x1_58 = some a → wx_ G X 9 ad (ceM G ad) μ 0 0 58 [(0, .ref (ad 0)), (1, .int (iI x1_58))] []) h (fun x1_58 h => ?_) (fun J58 K58 h => ?_)
    · refine xx_iconst C 59 rfl dX12_isBalanced_58 ?_
      refine xx_istore_n (lv1 := [(2, .int (iI 0)), (0, .ref (ad 0)), (1, .int (iI x1_58))]) C 60 rfl (by decide) dX12_isBalanced_59 rfl rfl ?_
      refine jn_r (fun J => ∀ (x1_98 : Int), J x1_98 = some a → wx_ G X 9 ad (ceM G ad) μ 0 0 98 [(1, .int (iI x1_98))] []) h (fun x1_98 h => ?_) (fun J98 K98 h => ?_)
      · refine xx_iload_n C 99 rfl 0 dX12_isBalanced_98 rfl rfl ?_
        refine xx_if_eq (tgt := 106) C 102 rfl dX12_isBalanced_99 (by decide) h (fun h => ?_) (fun h => ?_)
        · refine xx_iconst C 107 rfl dX12_isBalanced_106 ?_
          exact xx_iretp C E rfl ⟨Nat.le_of_ble_eq_true rfl, Nat.le_of_ble_eq_true rfl⟩ dX12_isBalanced_107 h
        · refine xx_iconst C 103 rfl dX12_isBalanced_102 ?_
          refine xx_goto C 107 dX12_isBalanced_103 (by decide) ?_
          exact xx_iretp C E rfl ⟨Nat.le_of_ble_eq_true rfl, Nat.le_of_ble_eq_true rfl⟩ dX12_isBalanced_107 h
      · have L60 : ∀ (fu60 : Nat) (x1_60 : Int) (x2_60 : Int), f_X12_isBalanced_L60 J98 μ fu60 x1_60 x2_60 = some a → wx_ G X 9 ad (ceM G ad) μ 0 0 60 [(0, .ref (ad 0)), (1, .int (iI x1_60)), (2, .int (iI x2_60))] [] := by
          intro fu60
          induction fu60 with
          | zero => intro x1_60 x2_60 h; exact nn_ h
          | succ fu60 K60 =>
            intro x1_60 x2_60 h
            rw [f_X12_isBalanced_L60] at h
            generalize f_X12_isBalanced_L60 J98 μ fu60 = R60 at K60 h
            refine xx_iload_n C 61 rfl 2 dX12_isBalanced_60 rfl rfl ?_
            refine xx_bipush C 63 rfl dX12_isBalanced_61 (by decide) ?_
            refine xx_icmp_ge (tgt := 98) C 66 rfl dX12_isBalanced_63 (by decide) h (fun h => ?_) (fun h => ?_)
            · refine xx_sub [1] rfl ?_
              exact K98 x1_60 h
            · refine xx_iload_n C 67 rfl 1 dX12_isBalanced_66 rfl rfl ?_
              refine jn_r (fun J => ∀ (s0_91 : Int), J s0_91 = some a → wx_ G X 9 ad (ceM G ad) μ 0 0 91 [(0, .ref (ad 0)), (2, .int (iI x2_60))] [.int (iI s0_91)]) h (fun s0_91 h => ?_) (fun J91 K91 h => ?_)
              · refine xx_istore_n (lv1 := [(1, .int (iI s0_91)), (0, .ref (ad 0)), (2, .int (iI x2_60))]) C 92 rfl (by decide) dX12_isBalanced_91 rfl rfl ?_
                refine xx_iincn C 95 rfl 2 (by decide) dX12_isBalanced_92 rfl h (fun n92 h => ?_)
                refine xx_lv (lv1 := [(2, .int (iI n92)), (1, .int (iI s0_91)), (0, .ref (ad 0))]) rfl ?_
                refine xx_goto C 60 dX12_isBalanced_95 (by decide) ?_
                refine xx_sub [2, 1, 0] rfl ?_
                exact K60 s0_91 n92 h
              · refine jn_r (fun J => ∀ (_u : Unit), J _u = some a → wx_ G X 9 ad (ceM G ad) μ 0 0 90 [(0, .ref (ad 0)), (2, .int (iI x2_60))] []) h (fun _ h => ?_) (fun J90 K90 h => ?_)
                · refine xx_iconst C 91 rfl dX12_isBalanced_90 ?_
                  exact K91 0 h
                · refine xx_if_eq (tgt := 90) C 70 rfl dX12_isBalanced_67 (by decide) h (fun h => ?_) (fun h => ?_)
                  · refine xx_sub [0, 2] rfl ?_
                    exact K90 () h
                  · refine xx_aload_n C 71 rfl 0 dX12_isBalanced_70 rfl rfl ?_
                    refine xx_aload_n C 72 rfl 0 dX12_isBalanced_71 rfl rfl ?_
                    refine xx_getr (fi := 0) C 75 rfl (by decide) (ceM_0 _ _ _) rfl in_X12 (by decide) rfl w_1179 dX12_isBalanced_72 ?_
                    refine xx_bipush C 77 rfl dX12_isBalanced_75 (by decide) ?_
                    refine xx_iload_n C 78 rfl 2 dX12_isBalanced_77 rfl rfl ?_
                    refine xx_iadd C 79 rfl dX12_isBalanced_78 ?_
                    refine xx_iaload C 80 rfl (by decide) (fun _ => rfl) (by decide) dX12_isBalanced_79 h (fun v79 h => ?_)
                    refine xx_cVip (As := [.int (iI v79)]) (st := []) (o := 0) C 83 rfl (by decide) (ceM_0 _ _ _) rfl rfl ca_X12_isThere cv_X12_isThere w_1577 rfl ⟨Nat.le_of_ble_eq_true rfl, Nat.le_of_ble_eq_true rfl⟩ ⟨Nat.le_of_ble_eq_true rfl, Nat.le_of_ble_eq_true rfl⟩ (Nat.le_of_ble_eq_true rfl) dX12_isBalanced_80 (fun v80 e9 => c_X12_isThere _ _ v80 e9) h (fun v80 h => ?_) rfl
                    refine xx_if_eq (tgt := 90) C 86 rfl dX12_isBalanced_83 (by decide) h (fun h => ?_) (fun h => ?_)
                    · refine xx_sub [0, 2] rfl ?_
                      exact K90 () h
                    · refine xx_iconst C 87 rfl dX12_isBalanced_86 ?_
                      refine xx_goto C 91 dX12_isBalanced_87 (by decide) ?_
                      refine xx_sub [0, 2] rfl ?_
                      exact K91 1 h
        refine xx_sub [1, 2, 0] rfl ?_
        exact L60 _ _ _ h
    · have L28 : ∀ (fu28 : Nat) (x1_28 : Int) (x2_28 : Int), f_X12_isBalanced_L28 J58 μ fu28 x1_28 x2_28 = some a → wx_ G X 9 ad (ceM G ad) μ 0 0 28 [(0, .ref (ad 0)), (1, .int (iI x1_28)), (2, .int (iI x2_28))] [] := by
        intro fu28
        induction fu28 with
        | zero => intro x1_28 x2_28 h; exact nn_ h
        | succ fu28 K28 =>
          intro x1_28 x2_28 h
          rw [f_X12_isBalanced_L28] at h
          generalize f_X12_isBalanced_L28 J58 μ fu28 = R28 at K28 h
          refine xx_iload_n C 29 rfl 2 dX12_isBalanced_28 rfl rfl ?_
          refine xx_bipush C 31 rfl dX12_isBalanced_29 (by decide) ?_
          refine xx_icmp_ge (tgt := 58) C 34 rfl dX12_isBalanced_31 (by decide) h (fun h => ?_) (fun h => ?_)
          · refine xx_sub [0, 1] rfl ?_
            exact K58 x1_28 h
          · refine xx_iload_n C 35 rfl 1 dX12_isBalanced_34 rfl rfl ?_
            refine jn_r (fun J => ∀ (s0_51 : Int), J s0_51 = some a → wx_ G X 9 ad (ceM G ad) μ 0 0 51 [(0, .ref (ad 0)), (2, .int (iI x2_28))] [.int (iI s0_51)]) h (fun s0_51 h => ?_) (fun J51 K51 h => ?_)
            · refine xx_istore_n (lv1 := [(1, .int (iI s0_51)), (0, .ref (ad 0)), (2, .int (iI x2_28))]) C 52 rfl (by decide) dX12_isBalanced_51 rfl rfl ?_
              refine xx_iincn C 55 rfl 2 (by decide) dX12_isBalanced_52 rfl h (fun n52 h => ?_)
              refine xx_lv (lv1 := [(2, .int (iI n52)), (1, .int (iI s0_51)), (0, .ref (ad 0))]) rfl ?_
              refine xx_goto C 28 dX12_isBalanced_55 (by decide) ?_
              refine xx_sub [2, 1, 0] rfl ?_
              exact K28 s0_51 n52 h
            · refine jn_r (fun J => ∀ (_u : Unit), J _u = some a → wx_ G X 9 ad (ceM G ad) μ 0 0 50 [(0, .ref (ad 0)), (2, .int (iI x2_28))] []) h (fun _ h => ?_) (fun J50 K50 h => ?_)
              · refine xx_iconst C 51 rfl dX12_isBalanced_50 ?_
                exact K51 0 h
              · refine xx_if_eq (tgt := 50) C 38 rfl dX12_isBalanced_35 (by decide) h (fun h => ?_) (fun h => ?_)
                · refine xx_sub [0, 2] rfl ?_
                  exact K50 () h
                · refine xx_aload_n C 39 rfl 0 dX12_isBalanced_38 rfl rfl ?_
                  refine xx_iload_n C 40 rfl 2 dX12_isBalanced_39 rfl rfl ?_
                  refine xx_cVip (As := [.int (iI x2_28)]) (st := []) (o := 0) C 43 rfl (by decide) (ceM_0 _ _ _) rfl rfl ca_X12_isFit cv_X12_isFit w_1573 rfl ⟨Nat.le_of_ble_eq_true rfl, Nat.le_of_ble_eq_true rfl⟩ ⟨Nat.le_of_ble_eq_true rfl, Nat.le_of_ble_eq_true rfl⟩ (Nat.le_of_ble_eq_true rfl) dX12_isBalanced_40 (fun v40 e9 => c_X12_isFit _ _ v40 e9) h (fun v40 h => ?_) rfl
                  refine xx_if_eq (tgt := 50) C 46 rfl dX12_isBalanced_43 (by decide) h (fun h => ?_) (fun h => ?_)
                  · refine xx_sub [0, 2] rfl ?_
                    exact K50 () h
                  · refine xx_iconst C 47 rfl dX12_isBalanced_46 ?_
                    refine xx_goto C 51 dX12_isBalanced_47 (by decide) ?_
                    refine xx_sub [0, 2] rfl ?_
                    exact K51 1 h
      refine xx_sub [2, 1, 0] rfl ?_
      exact L28 _ _ _ h
  · refine xx_icmp_ne (tgt := 24) C 20 rfl dX12_isBalanced_17 (by decide) h (fun h => ?_) (fun h => ?_)
    · refine xx_iconst C 25 rfl dX12_isBalanced_24 ?_
      exact K25 0 h
    · refine xx_iconst C 21 rfl dX12_isBalanced_20 ?_
      refine xx_goto C 25 dX12_isBalanced_21 (by decide) ?_
      exact K25 1 h

def f_X12_meanHeld_L9 (J46 : Int → Option UInt64) (μ : mu_T) : Nat → Int → Int → Option UInt64
  | 0, _, _ => none
  | fu9 + 1, x2_9, x3_9 => lt_ x3_9 24
      (rd_ μ 1 293 (17 + x3_9) (fun v24 => jn_ (φ := Int → Option UInt64) (fun s0_38 => nm_ ((x2_9 + s0_38)) (fun n39 => nm_ (x3_9 + 1) (fun n40 => (f_X12_meanHeld_L9 J46 μ fu9) n39 n40)))
      (fun J38 => eq_ v24 1
      (bd_ (f_X12_held μ x3_9) (fun v31 => J38 v31))
      (J38 0))))
      (J46 x2_9)
def f_X12_meanHeld (μ : mu_T)  : Option UInt64 :=
  bd_ (f_X12_manyUrns μ) (fun v1 => jn_ (φ := Int → Option UInt64) (fun x2_46 => eq_ v1 0
      (some (FP.dconst0))
      (dd_ (FP.i2d (iI x2_46)) (FP.i2d (iI v1)) (fun v58 => some v58)))
      (fun J46 => f_X12_meanHeld_L9 J46 μ 20000 0 0))
set_option maxHeartbeats 4000000 in
set_option maxRecDepth 100000 in
theorem c_X12_meanHeld {G : gp_} {ad : Nat → Nat} (μ : mu_T)  (a : UInt64) (h : f_X12_meanHeld μ  = some a) : md_ yX12_meanHeld cX12_meanHeld 4 (some .double) ({ frames := 1, cells := 0, slots := 0, locals := 23 } : Room) G 9 ad (ceM G ad) [.ref (ad 0)] μ a μ := by
  refine md_in (own := "UrnHeapModel") (lv := [(0, .ref (ad 0))]) (by decide) rfl rfl (Nat.le_of_ble_eq_true rfl) (fun X C E => ?_)
  unfold f_X12_meanHeld at h
  refine xx_aload_n C 1 rfl 0 dX12_meanHeld_0 rfl rfl ?_
  refine xx_cVip (As := []) (st := []) (o := 0) C 4 rfl (by decide) (ceM_0 _ _ _) rfl rfl ca_X12_manyUrns cv_X12_manyUrns w_1561 rfl ⟨Nat.le_of_ble_eq_true rfl, Nat.le_of_ble_eq_true rfl⟩ ⟨Nat.le_of_ble_eq_true rfl, Nat.le_of_ble_eq_true rfl⟩ (Nat.le_of_ble_eq_true rfl) dX12_meanHeld_1 (fun v1 e9 => c_X12_manyUrns _ v1 e9) h (fun v1 h => ?_) rfl
  refine xx_istore_n (lv1 := [(1, .int (iI v1)), (0, .ref (ad 0))]) C 5 rfl (by decide) dX12_meanHeld_4 rfl rfl ?_
  refine xx_iconst C 6 rfl dX12_meanHeld_5 ?_
  refine xx_istore_n (lv1 := [(2, .int (iI 0)), (1, .int (iI v1)), (0, .ref (ad 0))]) C 7 rfl (by decide) dX12_meanHeld_6 rfl rfl ?_
  refine xx_iconst C 8 rfl dX12_meanHeld_7 ?_
  refine xx_istore_n (lv1 := [(3, .int (iI 0)), (2, .int (iI 0)), (1, .int (iI v1)), (0, .ref (ad 0))]) C 9 rfl (by decide) dX12_meanHeld_8 rfl rfl ?_
  refine jn_r (fun J => ∀ (x2_46 : Int), J x2_46 = some a → wx_ G X 9 ad (ceM G ad) μ 0 0 46 [(1, .int (iI v1)), (2, .int (iI x2_46))] []) h (fun x2_46 h => ?_) (fun J46 K46 h => ?_)
  · refine xx_iload_n C 47 rfl 0 dX12_meanHeld_46 rfl rfl ?_
    refine xx_if_ne (tgt := 54) C 50 rfl dX12_meanHeld_47 (by decide) h (fun h => ?_) (fun h => ?_)
    · refine xx_iload_n C 55 rfl 1 dX12_meanHeld_54 rfl rfl ?_
      refine xx_i2d C 56 rfl dX12_meanHeld_55 ?_
      refine xx_iload_n C 57 rfl 0 dX12_meanHeld_56 rfl rfl ?_
      refine xx_i2d C 58 rfl dX12_meanHeld_57 ?_
      refine xx_ddiv C 59 rfl dX12_meanHeld_58 h (fun v58 h => ?_)
      exact xx_dret C E rfl ⟨Nat.le_of_ble_eq_true rfl, Nat.le_of_ble_eq_true rfl⟩ dX12_meanHeld_59 h
    · refine xx_dconst0 C 51 rfl dX12_meanHeld_50 ?_
      refine xx_goto C 59 dX12_meanHeld_51 (by decide) ?_
      exact xx_dret C E rfl ⟨Nat.le_of_ble_eq_true rfl, Nat.le_of_ble_eq_true rfl⟩ dX12_meanHeld_59 h
  · have L9 : ∀ (fu9 : Nat) (x2_9 : Int) (x3_9 : Int), f_X12_meanHeld_L9 J46 μ fu9 x2_9 x3_9 = some a → wx_ G X 9 ad (ceM G ad) μ 0 0 9 [(0, .ref (ad 0)), (1, .int (iI v1)), (2, .int (iI x2_9)), (3, .int (iI x3_9))] [] := by
      intro fu9
      induction fu9 with
      | zero => intro x2_9 x3_9 h; exact nn_ h
      | succ fu9 K9 =>
        intro x2_9 x3_9 h
        rw [f_X12_meanHeld_L9] at h
        generalize f_X12_meanHeld_L9 J46 μ fu9 = R9 at K9 h
        refine xx_iload_n C 10 rfl 3 dX12_meanHeld_9 rfl rfl ?_
        refine xx_bipush C 12 rfl dX12_meanHeld_10 (by decide) ?_
        refine xx_icmp_ge (tgt := 46) C 15 rfl dX12_meanHeld_12 (by decide) h (fun h => ?_) (fun h => ?_)
        · refine xx_sub [1, 2] rfl ?_
          exact K46 x2_9 h
        · refine xx_iload_n C 16 rfl 2 dX12_meanHeld_15 rfl rfl ?_
          refine xx_aload_n C 17 rfl 0 dX12_meanHeld_16 rfl rfl ?_
          refine xx_getr (fi := 0) C 20 rfl (by decide) (ceM_0 _ _ _) rfl in_X12 (by decide) rfl w_1179 dX12_meanHeld_17 ?_
          refine xx_bipush C 22 rfl dX12_meanHeld_20 (by decide) ?_
          refine xx_iload_n C 23 rfl 3 dX12_meanHeld_22 rfl rfl ?_
          refine xx_iadd C 24 rfl dX12_meanHeld_23 ?_
          refine xx_iaload C 25 rfl (by decide) (fun _ => rfl) (by decide) dX12_meanHeld_24 h (fun v24 h => ?_)
          refine xx_iconst C 26 rfl dX12_meanHeld_25 ?_
          refine jn_r (fun J => ∀ (s0_38 : Int), J s0_38 = some a → wx_ G X 9 ad (ceM G ad) μ 0 0 38 [(0, .ref (ad 0)), (1, .int (iI v1)), (3, .int (iI x3_9))] [.int (iI s0_38), .int (iI x2_9)]) h (fun s0_38 h => ?_) (fun J38 K38 h => ?_)
          · refine xx_iadd C 39 rfl dX12_meanHeld_38 ?_
            refine xx_nm C h (fun n39 h => ?_)
            refine xx_istore_n (lv1 := [(2, .int (iI n39)), (0, .ref (ad 0)), (1, .int (iI v1)), (3, .int (iI x3_9))]) C 40 rfl (by decide) dX12_meanHeld_39 rfl rfl ?_
            refine xx_iincn C 43 rfl 3 (by decide) dX12_meanHeld_40 rfl h (fun n40 h => ?_)
            refine xx_lv (lv1 := [(3, .int (iI n40)), (2, .int (iI n39)), (0, .ref (ad 0)), (1, .int (iI v1))]) rfl ?_
            refine xx_goto C 9 dX12_meanHeld_43 (by decide) ?_
            refine xx_sub [2, 3, 1, 0] rfl ?_
            exact K9 n39 n40 h
          · refine xx_icmp_ne (tgt := 37) C 29 rfl dX12_meanHeld_26 (by decide) h (fun h => ?_) (fun h => ?_)
            · refine xx_iconst C 38 rfl dX12_meanHeld_37 ?_
              refine xx_sub [0, 1, 3] rfl ?_
              exact K38 0 h
            · refine xx_aload_n C 30 rfl 0 dX12_meanHeld_29 rfl rfl ?_
              refine xx_iload_n C 31 rfl 3 dX12_meanHeld_30 rfl rfl ?_
              refine xx_cVip (As := [.int (iI x3_9)]) (st := [.int (iI x2_9)]) (o := 0) C 34 rfl (by decide) (ceM_0 _ _ _) rfl rfl ca_X12_held cv_X12_held w_1339 rfl ⟨Nat.le_of_ble_eq_true rfl, Nat.le_of_ble_eq_true rfl⟩ ⟨Nat.le_of_ble_eq_true rfl, Nat.le_of_ble_eq_true rfl⟩ (Nat.le_of_ble_eq_true rfl) dX12_meanHeld_31 (fun v31 e9 => c_X12_held _ _ v31 e9) h (fun v31 h => ?_) rfl
              refine xx_goto C 38 dX12_meanHeld_34 (by decide) ?_
              refine xx_sub [0, 1, 3] rfl ?_
              exact K38 v31 h
    refine xx_sub [3, 2, 1, 0] rfl ?_
    exact L9 _ _ _ h

def f_X12_liveShare_L15 (J37 : Int → Option (UInt32 × mu_T)) (v6 : Int) : Nat → Int → Int → Option (UInt32 × mu_T)
  | 0, _, _ => none
  | fu15 + 1, x3_15, x4_15 => lt_ x4_15 24
      (nm_ ((x3_15 + (an_ (sr_ v6 x4_15) 1))) (fun n30 => nm_ (x4_15 + 1) (fun n31 => (f_X12_liveShare_L15 J37 v6 fu15) n30 n31)))
      (J37 x3_15)
def f_X12_liveShare (μ : mu_T)  : Option (UInt32 × mu_T) :=
  bd_ (f_X12_manyUrns μ) (fun v1 => bp_ (f_X12_live μ) (fun v6 μ6 => jn_ (φ := Int → Option (UInt32 × mu_T)) (fun x3_37 => eq_ v1 0
      (some (FP.fconst0, μ6))
      (fd_ (FP.i2f (iI x3_37)) (FP.i2f (iI v1)) (fun v49 => some (v49, μ6))))
      (fun J37 => f_X12_liveShare_L15 J37 v6 20000 0 0)))
set_option maxHeartbeats 4000000 in
set_option maxRecDepth 100000 in
theorem c_X12_liveShare {G : gp_} {ad : Nat → Nat} (μ : mu_T)  (a : UInt32) (μr : mu_T) (h : f_X12_liveShare μ  = some (a, μr)) : mf_ yX12_liveShare cX12_liveShare 5 (some .float) ({ frames := 3, cells := 0, slots := 0, locals := 67 } : Room) G 9 ad (ceM G ad) [.ref (ad 0)] μ a μr := by
  refine mf_in (own := "UrnHeapModel") (lv := [(0, .ref (ad 0))]) (by decide) rfl rfl (Nat.le_of_ble_eq_true rfl) (fun X C E => ?_)
  unfold f_X12_liveShare at h
  refine xx_aload_n C 1 rfl 0 dX12_liveShare_0 rfl rfl ?_
  refine xx_cVip (As := []) (st := []) (o := 0) C 4 rfl (by decide) (ceM_0 _ _ _) rfl rfl ca_X12_manyUrns cv_X12_manyUrns w_1561 rfl ⟨Nat.le_of_ble_eq_true rfl, Nat.le_of_ble_eq_true rfl⟩ ⟨Nat.le_of_ble_eq_true rfl, Nat.le_of_ble_eq_true rfl⟩ (Nat.le_of_ble_eq_true rfl) dX12_liveShare_1 (fun v1 e9 => c_X12_manyUrns _ v1 e9) h (fun v1 h => ?_) rfl
  refine xx_istore_n (lv1 := [(1, .int (iI v1)), (0, .ref (ad 0))]) C 5 rfl (by decide) dX12_liveShare_4 rfl rfl ?_
  refine xx_aload_n C 6 rfl 1 dX12_liveShare_5 rfl rfl ?_
  refine xx_cVi (As := []) (st := []) (o := 0) C 9 rfl (by decide) (ceM_0 _ _ _) rfl rfl ca_X12_live cv_X12_live w_1443 rfl ⟨Nat.le_of_ble_eq_true rfl, Nat.le_of_ble_eq_true rfl⟩ ⟨Nat.le_of_ble_eq_true rfl, Nat.le_of_ble_eq_true rfl⟩ (Nat.le_of_ble_eq_true rfl) dX12_liveShare_6 (fun v6 μ6 e9 => c_X12_live _ v6 μ6 e9) h (fun v6 μ6 h => ?_) rfl
  refine xx_istore_n (lv1 := [(2, .int (iI v6)), (1, .int (iI v1)), (0, .ref (ad 0))]) C 10 rfl (by decide) dX12_liveShare_9 rfl rfl ?_
  refine xx_iconst C 11 rfl dX12_liveShare_10 ?_
  refine xx_istore_n (lv1 := [(3, .int (iI 0)), (2, .int (iI v6)), (1, .int (iI v1)), (0, .ref (ad 0))]) C 12 rfl (by decide) dX12_liveShare_11 rfl rfl ?_
  refine xx_iconst C 13 rfl dX12_liveShare_12 ?_
  refine xx_istore (lv1 := [(4, .int (iI 0)), (3, .int (iI 0)), (2, .int (iI v6)), (1, .int (iI v1)), (0, .ref (ad 0))]) C 15 rfl (by decide) dX12_liveShare_13 rfl ?_
  refine jn_r (fun J => ∀ (x3_37 : Int), J x3_37 = some (a, μr) → wx_ G X 9 ad (ceM G ad) μ6 0 0 37 [(1, .int (iI v1)), (3, .int (iI x3_37))] []) h (fun x3_37 h => ?_) (fun J37 K37 h => ?_)
  · refine xx_iload_n C 38 rfl 0 dX12_liveShare_37 rfl rfl ?_
    refine xx_if_ne (tgt := 45) C 41 rfl dX12_liveShare_38 (by decide) h (fun h => ?_) (fun h => ?_)
    · refine xx_iload_n C 46 rfl 1 dX12_liveShare_45 rfl rfl ?_
      refine xx_i2f C 47 rfl dX12_liveShare_46 ?_
      refine xx_iload_n C 48 rfl 0 dX12_liveShare_47 rfl rfl ?_
      refine xx_i2f C 49 rfl dX12_liveShare_48 ?_
      refine xx_fdiv C 50 rfl dX12_liveShare_49 h (fun v49 h => ?_)
      exact xx_fretm C E rfl ⟨Nat.le_of_ble_eq_true rfl, Nat.le_of_ble_eq_true rfl⟩ dX12_liveShare_50 h
    · refine xx_fconst0 C 42 rfl dX12_liveShare_41 ?_
      refine xx_goto C 50 dX12_liveShare_42 (by decide) ?_
      exact xx_fretm C E rfl ⟨Nat.le_of_ble_eq_true rfl, Nat.le_of_ble_eq_true rfl⟩ dX12_liveShare_50 h
  · have L15 : ∀ (fu15 : Nat) (x3_15 : Int) (x4_15 : Int), f_X12_liveShare_L15 J37 v6 fu15 x3_15 x4_15 = some (a, μr) → wx_ G X 9 ad (ceM G ad) μ6 0 0 15 [(1, .int (iI v1)), (2, .int (iI v6)), (3, .int (iI x3_15)), (4, .int (iI x4_15))] [] := by
      intro fu15
      induction fu15 with
      | zero => intro x3_15 x4_15 h; exact nn_ h
      | succ fu15 K15 =>
        intro x3_15 x4_15 h
        rw [f_X12_liveShare_L15] at h
        generalize f_X12_liveShare_L15 J37 v6 fu15 = R15 at K15 h
        refine xx_iload C 17 rfl 3 dX12_liveShare_15 rfl ?_
        refine xx_bipush C 19 rfl dX12_liveShare_17 (by decide) ?_
        refine xx_icmp_ge (tgt := 37) C 22 rfl dX12_liveShare_19 (by decide) h (fun h => ?_) (fun h => ?_)
        · refine xx_sub [0, 2] rfl ?_
          exact K37 x3_15 h
        · refine xx_iload_n C 23 rfl 2 dX12_liveShare_22 rfl rfl ?_
          refine xx_iload_n C 24 rfl 1 dX12_liveShare_23 rfl rfl ?_
          refine xx_iload C 26 rfl 3 dX12_liveShare_24 rfl ?_
          refine xx_ishr C 27 rfl dX12_liveShare_26 ?_
          refine xx_iconst C 28 rfl dX12_liveShare_27 ?_
          refine xx_iand C 29 rfl dX12_liveShare_28 ?_
          refine xx_iadd C 30 rfl dX12_liveShare_29 ?_
          refine xx_nm C h (fun n30 h => ?_)
          refine xx_istore_n (lv1 := [(3, .int (iI n30)), (1, .int (iI v1)), (2, .int (iI v6)), (4, .int (iI x4_15))]) C 31 rfl (by decide) dX12_liveShare_30 rfl rfl ?_
          refine xx_iincn C 34 rfl 3 (by decide) dX12_liveShare_31 rfl h (fun n31 h => ?_)
          refine xx_lv (lv1 := [(4, .int (iI n31)), (3, .int (iI n30)), (1, .int (iI v1)), (2, .int (iI v6))]) rfl ?_
          refine xx_goto C 15 dX12_liveShare_34 (by decide) ?_
          refine xx_sub [2, 3, 1, 0] rfl ?_
          exact K15 n30 n31 h
    refine xx_sub [3, 2, 1, 0] rfl ?_
    exact L15 _ _ _ h

def f_X12_undo_L22  : Nat → Int → mu_T → Option (Int × mu_T)
  | 0, _, _ => none
  | fu22 + 1, x1_22, μ22 => lt_ x1_22 293
      (nm_ (μ22 0 4) (fun v42 => rd_ μ22 4 2344 ((293 * v42) + x1_22) (fun v48 => wr_ μ22 1 293 x1_22 v48 (fun μ49 => nm_ (x1_22 + 1) (fun n50 => (f_X12_undo_L22 fu22) n50 μ49)))))
      (nm_ (μ22 0 4) (fun v57 => some (v57, μ22)))
def f_X12_undo (μ : mu_T)  : Option (Int × mu_T) :=
  nm_ (μ 0 4) (fun v1 => eq_ v1 0
      (some ((-15), μ))
      (nm_ (μ 0 4) (fun v12 => wf_ μ 0 4 (v12 - 1) (fun μ17 => f_X12_undo_L22 20000 0 μ17))))
set_option maxHeartbeats 4000000 in
set_option maxRecDepth 100000 in
theorem c_X12_undo {G : gp_} {ad : Nat → Nat} (μ : mu_T)  (a : Int) (μr : mu_T) (h : f_X12_undo μ  = some (a, μr)) : mi_ yX12_undo cX12_undo 2 (some .int) ({ frames := 0, cells := 0, slots := 0, locals := 0 } : Room) G 9 ad (ceM G ad) [.ref (ad 0)] μ a μr := by
  refine mi_in (own := "UrnHeapModel") (lv := [(0, .ref (ad 0))]) (by decide) rfl rfl (Nat.le_of_ble_eq_true rfl) (fun X C E => ?_)
  unfold f_X12_undo at h
  refine xx_aload_n C 1 rfl 0 dX12_undo_0 rfl rfl ?_
  refine xx_geti (fi := 4) (j := 4) C 4 rfl (by decide) (ceM_0 _ _ _) rfl in_X12 (by decide) rfl w_1183 dX12_undo_1 h (fun v1 h => ?_)
  refine xx_if_ne (tgt := 10) C 7 rfl dX12_undo_4 (by decide) h (fun h => ?_) (fun h => ?_)
  · refine xx_aload_n C 11 rfl 0 dX12_undo_10 rfl rfl ?_
    refine xx_dup C 12 rfl dX12_undo_11 rfl ?_
    refine xx_geti (fi := 4) (j := 4) C 15 rfl (by decide) (ceM_0 _ _ _) rfl in_X12 (by decide) rfl w_1183 dX12_undo_12 h (fun v12 h => ?_)
    refine xx_iconst C 16 rfl dX12_undo_15 ?_
    refine xx_isub C 17 rfl dX12_undo_16 ?_
    refine xx_puti (fi := 4) (j := 4) C 20 rfl (by decide) (ceM_0 _ _ _) (puM_4 _ _ _ _) rfl in_X12 tyX12 tyX12_ok nmX12 (by decide) (Nat.le_of_ble_eq_true rfl) ⟨rfl, rfl⟩ w_1183 dX12_undo_17 h (fun μ17 h => ?_)
    refine xx_iconst C 21 rfl dX12_undo_20 ?_
    refine xx_istore_n (lv1 := [(1, .int (iI 0)), (0, .ref (ad 0))]) C 22 rfl (by decide) dX12_undo_21 rfl rfl ?_
    have L22 : ∀ (fu22 : Nat) (x1_22 : Int) (μ22 : mu_T), f_X12_undo_L22 fu22 x1_22 μ22 = some (a, μr) → wx_ G X 9 ad (ceM G ad) μ22 0 0 22 [(0, .ref (ad 0)), (1, .int (iI x1_22))] [] := by
      intro fu22
      induction fu22 with
      | zero => intro x1_22 μ22 h; exact nn_ h
      | succ fu22 K22 =>
        intro x1_22 μ22 h
        rw [f_X12_undo_L22] at h
        generalize f_X12_undo_L22 fu22 = R22 at K22 h
        refine xx_iload_n C 23 rfl 1 dX12_undo_22 rfl rfl ?_
        refine xx_sipush C 26 rfl dX12_undo_23 (by decide) ?_
        refine xx_icmp_ge (tgt := 56) C 29 rfl dX12_undo_26 (by decide) h (fun h => ?_) (fun h => ?_)
        · refine xx_aload_n C 57 rfl 0 dX12_undo_56 rfl rfl ?_
          refine xx_geti (fi := 4) (j := 4) C 60 rfl (by decide) (ceM_0 _ _ _) rfl in_X12 (by decide) rfl w_1183 dX12_undo_57 h (fun v57 h => ?_)
          exact xx_iret C E rfl ⟨Nat.le_of_ble_eq_true rfl, Nat.le_of_ble_eq_true rfl⟩ dX12_undo_60 h
        · refine xx_aload_n C 30 rfl 0 dX12_undo_29 rfl rfl ?_
          refine xx_getr (fi := 0) C 33 rfl (by decide) (ceM_0 _ _ _) rfl in_X12 (by decide) rfl w_1179 dX12_undo_30 ?_
          refine xx_iload_n C 34 rfl 1 dX12_undo_33 rfl rfl ?_
          refine xx_aload_n C 35 rfl 0 dX12_undo_34 rfl rfl ?_
          refine xx_getr (fi := 3) C 38 rfl (by decide) (ceM_0 _ _ _) rfl in_X12 (by decide) rfl w_1182 dX12_undo_35 ?_
          refine xx_sipush C 41 rfl dX12_undo_38 (by decide) ?_
          refine xx_aload_n C 42 rfl 0 dX12_undo_41 rfl rfl ?_
          refine xx_geti (fi := 4) (j := 4) C 45 rfl (by decide) (ceM_0 _ _ _) rfl in_X12 (by decide) rfl w_1183 dX12_undo_42 h (fun v42 h => ?_)
          refine xx_imul C 46 rfl dX12_undo_45 ?_
          refine xx_iload_n C 47 rfl 1 dX12_undo_46 rfl rfl ?_
          refine xx_iadd C 48 rfl dX12_undo_47 ?_
          refine xx_iaload C 49 rfl (by decide) (fun _ => rfl) (by decide) dX12_undo_48 h (fun v48 h => ?_)
          refine xx_iastore C 50 rfl (by decide) (fun _ => rfl) (by decide) dX12_undo_49 h (fun μ49 h => ?_)
          refine xx_iincn C 53 rfl 1 (by decide) dX12_undo_50 rfl h (fun n50 h => ?_)
          refine xx_lv (lv1 := [(1, .int (iI n50)), (0, .ref (ad 0))]) rfl ?_
          refine xx_goto C 22 dX12_undo_53 (by decide) ?_
          refine xx_sub [1, 0] rfl ?_
          exact K22 n50 μ49 h
    refine xx_sub [1, 0] rfl ?_
    exact L22 _ _ _ h
  · refine xx_bipush C 9 rfl dX12_undo_7 (by decide) ?_
    exact xx_iret C E rfl ⟨Nat.le_of_ble_eq_true rfl, Nat.le_of_ble_eq_true rfl⟩ dX12_undo_9 h

def f_X12_save_L2 (J27 : mu_T → Option (Int × mu_T)) : Nat → Int → mu_T → Option (Int × mu_T)
  | 0, _, _ => none
  | fu2 + 1, x1_2, μ2 => lt_ x1_2 293
      (rd_ μ2 1 293 x1_2 (fun v19 => wr_ μ2 3 293 x1_2 v19 (fun μ20 => nm_ (x1_2 + 1) (fun n21 => (f_X12_save_L2 J27 fu2) n21 μ20))))
      (J27 μ2)
def f_X12_save (μ : mu_T)  : Option (Int × mu_T) :=
  jn_ (φ := mu_T → Option (Int × mu_T)) (fun μ27 => wz_ μ27 0 5 1 (fun μ29 => bd_ (f_X12_manyUrns μ29) (fun v33 => some (v33, μ29))))
      (fun J27 => f_X12_save_L2 J27 20000 0 μ)
set_option maxHeartbeats 4000000 in
set_option maxRecDepth 100000 in
theorem c_X12_save {G : gp_} {ad : Nat → Nat} (μ : mu_T)  (a : Int) (μr : mu_T) (h : f_X12_save μ  = some (a, μr)) : mi_ yX12_save cX12_save 2 (some .int) ({ frames := 1, cells := 0, slots := 0, locals := 22 } : Room) G 9 ad (ceM G ad) [.ref (ad 0)] μ a μr := by
  refine mi_in (own := "UrnHeapModel") (lv := [(0, .ref (ad 0))]) (by decide) rfl rfl (Nat.le_of_ble_eq_true rfl) (fun X C E => ?_)
  unfold f_X12_save at h
  refine xx_iconst C 1 rfl dX12_save_0 ?_
  refine xx_istore_n (lv1 := [(1, .int (iI 0)), (0, .ref (ad 0))]) C 2 rfl (by decide) dX12_save_1 rfl rfl ?_
  refine jn_r (fun J => ∀ (μ27 : mu_T), J μ27 = some (a, μr) → wx_ G X 9 ad (ceM G ad) μ27 0 0 27 [(0, .ref (ad 0))] []) h (fun μ27 h => ?_) (fun J27 K27 h => ?_)
  · refine xx_aload_n C 28 rfl 0 dX12_save_27 rfl rfl ?_
    refine xx_iconst C 29 rfl dX12_save_28 ?_
    refine xx_putz (fi := 5) (j := 5) C 32 rfl (by decide) (ceM_0 _ _ _) (puM_5 _ _ _ _) rfl in_X12 tyX12 tyX12_ok nmX12 (by decide) (Nat.le_of_ble_eq_true rfl) ⟨rfl, rfl⟩ w_1184 dX12_save_29 h (fun μ29 h => ?_)
    refine xx_aload_n C 33 rfl 0 dX12_save_32 rfl rfl ?_
    refine xx_cVip (As := []) (st := []) (o := 0) C 36 rfl (by decide) (ceM_0 _ _ _) rfl rfl ca_X12_manyUrns cv_X12_manyUrns w_1561 rfl ⟨Nat.le_of_ble_eq_true rfl, Nat.le_of_ble_eq_true rfl⟩ ⟨Nat.le_of_ble_eq_true rfl, Nat.le_of_ble_eq_true rfl⟩ (Nat.le_of_ble_eq_true rfl) dX12_save_33 (fun v33 e9 => c_X12_manyUrns _ v33 e9) h (fun v33 h => ?_) rfl
    exact xx_iret C E rfl ⟨Nat.le_of_ble_eq_true rfl, Nat.le_of_ble_eq_true rfl⟩ dX12_save_36 h
  · have L2 : ∀ (fu2 : Nat) (x1_2 : Int) (μ2 : mu_T), f_X12_save_L2 J27 fu2 x1_2 μ2 = some (a, μr) → wx_ G X 9 ad (ceM G ad) μ2 0 0 2 [(0, .ref (ad 0)), (1, .int (iI x1_2))] [] := by
      intro fu2
      induction fu2 with
      | zero => intro x1_2 μ2 h; exact nn_ h
      | succ fu2 K2 =>
        intro x1_2 μ2 h
        rw [f_X12_save_L2] at h
        generalize f_X12_save_L2 J27 fu2 = R2 at K2 h
        refine xx_iload_n C 3 rfl 1 dX12_save_2 rfl rfl ?_
        refine xx_sipush C 6 rfl dX12_save_3 (by decide) ?_
        refine xx_icmp_ge (tgt := 27) C 9 rfl dX12_save_6 (by decide) h (fun h => ?_) (fun h => ?_)
        · refine xx_sub [0] rfl ?_
          exact K27 μ2 h
        · refine xx_aload_n C 10 rfl 0 dX12_save_9 rfl rfl ?_
          refine xx_getr (fi := 2) C 13 rfl (by decide) (ceM_0 _ _ _) rfl in_X12 (by decide) rfl w_1181 dX12_save_10 ?_
          refine xx_iload_n C 14 rfl 1 dX12_save_13 rfl rfl ?_
          refine xx_aload_n C 15 rfl 0 dX12_save_14 rfl rfl ?_
          refine xx_getr (fi := 0) C 18 rfl (by decide) (ceM_0 _ _ _) rfl in_X12 (by decide) rfl w_1179 dX12_save_15 ?_
          refine xx_iload_n C 19 rfl 1 dX12_save_18 rfl rfl ?_
          refine xx_iaload C 20 rfl (by decide) (fun _ => rfl) (by decide) dX12_save_19 h (fun v19 h => ?_)
          refine xx_iastore C 21 rfl (by decide) (fun _ => rfl) (by decide) dX12_save_20 h (fun μ20 h => ?_)
          refine xx_iincn C 24 rfl 1 (by decide) dX12_save_21 rfl h (fun n21 h => ?_)
          refine xx_lv (lv1 := [(1, .int (iI n21)), (0, .ref (ad 0))]) rfl ?_
          refine xx_goto C 2 dX12_save_24 (by decide) ?_
          refine xx_sub [1, 0] rfl ?_
          exact K2 n21 μ20 h
    refine xx_sub [1, 0] rfl ?_
    exact L2 _ _ _ h

def f_X12_restore_L12 (J37 : mu_T → Option (Int × mu_T)) : Nat → Int → mu_T → Option (Int × mu_T)
  | 0, _, _ => none
  | fu12 + 1, x1_12, μ12 => lt_ x1_12 293
      (rd_ μ12 3 293 x1_12 (fun v29 => wr_ μ12 1 293 x1_12 v29 (fun μ30 => nm_ (x1_12 + 1) (fun n31 => (f_X12_restore_L12 J37 fu12) n31 μ30))))
      (J37 μ12)
def f_X12_restore (μ : mu_T)  : Option (Int × mu_T) :=
  nm_ (μ 0 5) (fun v1 => eq_ v1 0
      (some ((-15), μ))
      (jn_ (φ := mu_T → Option (Int × mu_T)) (fun μ37 => wf_ μ37 0 4 0 (fun μ39 => bd_ (f_X12_manyUrns μ39) (fun v43 => some (v43, μ39))))
      (fun J37 => f_X12_restore_L12 J37 20000 0 μ)))
set_option maxHeartbeats 4000000 in
set_option maxRecDepth 100000 in
theorem c_X12_restore {G : gp_} {ad : Nat → Nat} (μ : mu_T)  (a : Int) (μr : mu_T) (h : f_X12_restore μ  = some (a, μr)) : mi_ yX12_restore cX12_restore 2 (some .int) ({ frames := 1, cells := 0, slots := 0, locals := 22 } : Room) G 9 ad (ceM G ad) [.ref (ad 0)] μ a μr := by
  refine mi_in (own := "UrnHeapModel") (lv := [(0, .ref (ad 0))]) (by decide) rfl rfl (Nat.le_of_ble_eq_true rfl) (fun X C E => ?_)
  unfold f_X12_restore at h
  refine xx_aload_n C 1 rfl 0 dX12_restore_0 rfl rfl ?_
  refine xx_geti (fi := 5) (j := 5) C 4 rfl (by decide) (ceM_0 _ _ _) rfl in_X12 (by decide) rfl w_1184 dX12_restore_1 h (fun v1 h => ?_)
  refine xx_if_ne (tgt := 10) C 7 rfl dX12_restore_4 (by decide) h (fun h => ?_) (fun h => ?_)
  · refine xx_iconst C 11 rfl dX12_restore_10 ?_
    refine xx_istore_n (lv1 := [(1, .int (iI 0)), (0, .ref (ad 0))]) C 12 rfl (by decide) dX12_restore_11 rfl rfl ?_
    refine jn_r (fun J => ∀ (μ37 : mu_T), J μ37 = some (a, μr) → wx_ G X 9 ad (ceM G ad) μ37 0 0 37 [(0, .ref (ad 0))] []) h (fun μ37 h => ?_) (fun J37 K37 h => ?_)
    · refine xx_aload_n C 38 rfl 0 dX12_restore_37 rfl rfl ?_
      refine xx_iconst C 39 rfl dX12_restore_38 ?_
      refine xx_puti (fi := 4) (j := 4) C 42 rfl (by decide) (ceM_0 _ _ _) (puM_4 _ _ _ _) rfl in_X12 tyX12 tyX12_ok nmX12 (by decide) (Nat.le_of_ble_eq_true rfl) ⟨rfl, rfl⟩ w_1183 dX12_restore_39 h (fun μ39 h => ?_)
      refine xx_aload_n C 43 rfl 0 dX12_restore_42 rfl rfl ?_
      refine xx_cVip (As := []) (st := []) (o := 0) C 46 rfl (by decide) (ceM_0 _ _ _) rfl rfl ca_X12_manyUrns cv_X12_manyUrns w_1561 rfl ⟨Nat.le_of_ble_eq_true rfl, Nat.le_of_ble_eq_true rfl⟩ ⟨Nat.le_of_ble_eq_true rfl, Nat.le_of_ble_eq_true rfl⟩ (Nat.le_of_ble_eq_true rfl) dX12_restore_43 (fun v43 e9 => c_X12_manyUrns _ v43 e9) h (fun v43 h => ?_) rfl
      exact xx_iret C E rfl ⟨Nat.le_of_ble_eq_true rfl, Nat.le_of_ble_eq_true rfl⟩ dX12_restore_46 h
    · have L12 : ∀ (fu12 : Nat) (x1_12 : Int) (μ12 : mu_T), f_X12_restore_L12 J37 fu12 x1_12 μ12 = some (a, μr) → wx_ G X 9 ad (ceM G ad) μ12 0 0 12 [(0, .ref (ad 0)), (1, .int (iI x1_12))] [] := by
        intro fu12
        induction fu12 with
        | zero => intro x1_12 μ12 h; exact nn_ h
        | succ fu12 K12 =>
          intro x1_12 μ12 h
          rw [f_X12_restore_L12] at h
          generalize f_X12_restore_L12 J37 fu12 = R12 at K12 h
          refine xx_iload_n C 13 rfl 1 dX12_restore_12 rfl rfl ?_
          refine xx_sipush C 16 rfl dX12_restore_13 (by decide) ?_
          refine xx_icmp_ge (tgt := 37) C 19 rfl dX12_restore_16 (by decide) h (fun h => ?_) (fun h => ?_)
          · refine xx_sub [0] rfl ?_
            exact K37 μ12 h
          · refine xx_aload_n C 20 rfl 0 dX12_restore_19 rfl rfl ?_
            refine xx_getr (fi := 0) C 23 rfl (by decide) (ceM_0 _ _ _) rfl in_X12 (by decide) rfl w_1179 dX12_restore_20 ?_
            refine xx_iload_n C 24 rfl 1 dX12_restore_23 rfl rfl ?_
            refine xx_aload_n C 25 rfl 0 dX12_restore_24 rfl rfl ?_
            refine xx_getr (fi := 2) C 28 rfl (by decide) (ceM_0 _ _ _) rfl in_X12 (by decide) rfl w_1181 dX12_restore_25 ?_
            refine xx_iload_n C 29 rfl 1 dX12_restore_28 rfl rfl ?_
            refine xx_iaload C 30 rfl (by decide) (fun _ => rfl) (by decide) dX12_restore_29 h (fun v29 h => ?_)
            refine xx_iastore C 31 rfl (by decide) (fun _ => rfl) (by decide) dX12_restore_30 h (fun μ30 h => ?_)
            refine xx_iincn C 34 rfl 1 (by decide) dX12_restore_31 rfl h (fun n31 h => ?_)
            refine xx_lv (lv1 := [(1, .int (iI n31)), (0, .ref (ad 0))]) rfl ?_
            refine xx_goto C 12 dX12_restore_34 (by decide) ?_
            refine xx_sub [1, 0] rfl ?_
            exact K12 n31 μ30 h
      refine xx_sub [1, 0] rfl ?_
      exact L12 _ _ _ h
  · refine xx_bipush C 9 rfl dX12_restore_7 (by decide) ?_
    exact xx_iret C E rfl ⟨Nat.le_of_ble_eq_true rfl, Nat.le_of_ble_eq_true rfl⟩ dX12_restore_9 h

