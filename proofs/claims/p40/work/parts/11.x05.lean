theorem dX11_tie_0 : decode cX11_tie 0 = .ok (.aload_n 0, 1) := by decide +kernel
theorem dX11_tie_1 : decode cX11_tie 1 = .ok (.getfield 51, 3) := by decide +kernel
theorem dX11_tie_4 : decode cX11_tie 4 = .ok (.invokevirtual 69, 3) := by decide +kernel
theorem dX11_tie_7 : decode cX11_tie 7 = .ok (.aload_n 0, 1) := by decide +kernel
theorem dX11_tie_8 : decode cX11_tie 8 = .ok (.getfield 51, 3) := by decide +kernel
theorem dX11_tie_11 : decode cX11_tie 11 = .ok (.aload_n 0, 1) := by decide +kernel
theorem dX11_tie_12 : decode cX11_tie 12 = .ok (.getfield 28, 3) := by decide +kernel
theorem dX11_tie_15 : decode cX11_tie 15 = .ok (.iload_n 1, 1) := by decide +kernel
theorem dX11_tie_16 : decode cX11_tie 16 = .ok (.iload_n 2, 1) := by decide +kernel
theorem dX11_tie_17 : decode cX11_tie 17 = .ok (.iload_n 3, 1) := by decide +kernel
theorem dX11_tie_18 : decode cX11_tie 18 = .ok (.invokevirtual 80, 3) := by decide +kernel
theorem dX11_tie_21 : decode cX11_tie 21 = .ok (.invokevirtual 76, 3) := by decide +kernel
theorem dX11_tie_24 : decode cX11_tie 24 = .ok (.ireturn, 1) := by decide +kernel
theorem dX11_untie_0 : decode cX11_untie 0 = .ok (.aload_n 0, 1) := by decide +kernel
theorem dX11_untie_1 : decode cX11_untie 1 = .ok (.getfield 51, 3) := by decide +kernel
theorem dX11_untie_4 : decode cX11_untie 4 = .ok (.invokevirtual 69, 3) := by decide +kernel
theorem dX11_untie_7 : decode cX11_untie 7 = .ok (.aload_n 0, 1) := by decide +kernel
theorem dX11_untie_8 : decode cX11_untie 8 = .ok (.getfield 51, 3) := by decide +kernel
theorem dX11_untie_11 : decode cX11_untie 11 = .ok (.aload_n 0, 1) := by decide +kernel
theorem dX11_untie_12 : decode cX11_untie 12 = .ok (.getfield 28, 3) := by decide +kernel
theorem dX11_untie_15 : decode cX11_untie 15 = .ok (.iload_n 1, 1) := by decide +kernel
theorem dX11_untie_16 : decode cX11_untie 16 = .ok (.iload_n 2, 1) := by decide +kernel
theorem dX11_untie_17 : decode cX11_untie 17 = .ok (.invokevirtual 84, 3) := by decide +kernel
theorem dX11_untie_20 : decode cX11_untie 20 = .ok (.invokevirtual 76, 3) := by decide +kernel
theorem dX11_untie_23 : decode cX11_untie 23 = .ok (.ireturn, 1) := by decide +kernel
theorem dX11_weak_0 : decode cX11_weak 0 = .ok (.aload_n 0, 1) := by decide +kernel
theorem dX11_weak_1 : decode cX11_weak 1 = .ok (.getfield 51, 3) := by decide +kernel
theorem dX11_weak_4 : decode cX11_weak 4 = .ok (.invokevirtual 69, 3) := by decide +kernel
theorem dX11_weak_7 : decode cX11_weak 7 = .ok (.aload_n 0, 1) := by decide +kernel
theorem dX11_weak_8 : decode cX11_weak 8 = .ok (.getfield 51, 3) := by decide +kernel
theorem dX11_weak_11 : decode cX11_weak 11 = .ok (.aload_n 0, 1) := by decide +kernel
theorem dX11_weak_12 : decode cX11_weak 12 = .ok (.getfield 28, 3) := by decide +kernel
theorem dX11_weak_15 : decode cX11_weak 15 = .ok (.iload_n 1, 1) := by decide +kernel
theorem dX11_weak_16 : decode cX11_weak 16 = .ok (.iload_n 2, 1) := by decide +kernel
theorem dX11_weak_17 : decode cX11_weak 17 = .ok (.invokevirtual 88, 3) := by decide +kernel
theorem dX11_weak_20 : decode cX11_weak 20 = .ok (.invokevirtual 76, 3) := by decide +kernel
theorem dX11_weak_23 : decode cX11_weak 23 = .ok (.ireturn, 1) := by decide +kernel
theorem dX11_unweak_0 : decode cX11_unweak 0 = .ok (.aload_n 0, 1) := by decide +kernel
theorem dX11_unweak_1 : decode cX11_unweak 1 = .ok (.getfield 51, 3) := by decide +kernel
theorem dX11_unweak_4 : decode cX11_unweak 4 = .ok (.invokevirtual 69, 3) := by decide +kernel
theorem dX11_unweak_7 : decode cX11_unweak 7 = .ok (.aload_n 0, 1) := by decide +kernel
theorem dX11_unweak_8 : decode cX11_unweak 8 = .ok (.getfield 51, 3) := by decide +kernel
theorem dX11_unweak_11 : decode cX11_unweak 11 = .ok (.aload_n 0, 1) := by decide +kernel
theorem dX11_unweak_12 : decode cX11_unweak 12 = .ok (.getfield 28, 3) := by decide +kernel
theorem dX11_unweak_15 : decode cX11_unweak 15 = .ok (.iload_n 1, 1) := by decide +kernel
theorem dX11_unweak_16 : decode cX11_unweak 16 = .ok (.invokevirtual 91, 3) := by decide +kernel
theorem dX11_unweak_19 : decode cX11_unweak 19 = .ok (.invokevirtual 76, 3) := by decide +kernel
theorem dX11_unweak_22 : decode cX11_unweak 22 = .ok (.ireturn, 1) := by decide +kernel
theorem dX11_name_0 : decode cX11_name 0 = .ok (.aload_n 0, 1) := by decide +kernel
theorem dX11_name_1 : decode cX11_name 1 = .ok (.getfield 51, 3) := by decide +kernel
theorem dX11_name_4 : decode cX11_name 4 = .ok (.invokevirtual 69, 3) := by decide +kernel
theorem dX11_name_7 : decode cX11_name 7 = .ok (.aload_n 0, 1) := by decide +kernel
theorem dX11_name_8 : decode cX11_name 8 = .ok (.getfield 51, 3) := by decide +kernel
theorem dX11_name_11 : decode cX11_name 11 = .ok (.aload_n 0, 1) := by decide +kernel
theorem dX11_name_12 : decode cX11_name 12 = .ok (.getfield 28, 3) := by decide +kernel
theorem dX11_name_15 : decode cX11_name 15 = .ok (.iload_n 1, 1) := by decide +kernel
theorem dX11_name_16 : decode cX11_name 16 = .ok (.iload_n 2, 1) := by decide +kernel
theorem dX11_name_17 : decode cX11_name 17 = .ok (.invokevirtual 94, 3) := by decide +kernel
theorem dX11_name_20 : decode cX11_name 20 = .ok (.invokevirtual 76, 3) := by decide +kernel
theorem dX11_name_23 : decode cX11_name 23 = .ok (.ireturn, 1) := by decide +kernel
theorem dX11_drop_0 : decode cX11_drop 0 = .ok (.aload_n 0, 1) := by decide +kernel
theorem dX11_drop_1 : decode cX11_drop 1 = .ok (.getfield 51, 3) := by decide +kernel
theorem dX11_drop_4 : decode cX11_drop 4 = .ok (.invokevirtual 69, 3) := by decide +kernel
theorem dX11_drop_7 : decode cX11_drop 7 = .ok (.aload_n 0, 1) := by decide +kernel
theorem dX11_drop_8 : decode cX11_drop 8 = .ok (.getfield 51, 3) := by decide +kernel
theorem dX11_drop_11 : decode cX11_drop 11 = .ok (.aload_n 0, 1) := by decide +kernel
theorem dX11_drop_12 : decode cX11_drop 12 = .ok (.getfield 28, 3) := by decide +kernel
theorem dX11_drop_15 : decode cX11_drop 15 = .ok (.iload_n 1, 1) := by decide +kernel
theorem dX11_drop_16 : decode cX11_drop 16 = .ok (.invokevirtual 97, 3) := by decide +kernel
theorem dX11_drop_19 : decode cX11_drop 19 = .ok (.invokevirtual 76, 3) := by decide +kernel
theorem dX11_drop_22 : decode cX11_drop 22 = .ok (.ireturn, 1) := by decide +kernel
theorem dX11_urnOf_0 : decode cX11_urnOf 0 = .ok (.aload_n 0, 1) := by decide +kernel
theorem dX11_urnOf_1 : decode cX11_urnOf 1 = .ok (.getfield 13, 3) := by decide +kernel
theorem dX11_urnOf_4 : decode cX11_urnOf 4 = .ok (.iload_n 1, 1) := by decide +kernel
theorem dX11_urnOf_5 : decode cX11_urnOf 5 = .ok (.invokevirtual 100, 3) := by decide +kernel
theorem dX11_urnOf_8 : decode cX11_urnOf 8 = .ok (.ifCond .ne 6, 3) := by decide +kernel
theorem dX11_urnOf_11 : decode cX11_urnOf 11 = .ok (.bipush (-11), 2) := by decide +kernel
theorem dX11_urnOf_13 : decode cX11_urnOf 13 = .ok (.ireturn, 1) := by decide +kernel
theorem dX11_urnOf_14 : decode cX11_urnOf 14 = .ok (.iload_n 2, 1) := by decide +kernel
theorem dX11_urnOf_15 : decode cX11_urnOf 15 = .ok (.tableswitch 95 0 5 #[37, 47, 57, 66, 75, 85], 37) := by decide +kernel
theorem dX11_urnOf_52 : decode cX11_urnOf 52 = .ok (.aload_n 0, 1) := by decide +kernel
theorem dX11_urnOf_53 : decode cX11_urnOf 53 = .ok (.getfield 13, 3) := by decide +kernel
theorem dX11_urnOf_56 : decode cX11_urnOf 56 = .ok (.getfield 104, 3) := by decide +kernel
theorem dX11_urnOf_59 : decode cX11_urnOf 59 = .ok (.iload_n 1, 1) := by decide +kernel
theorem dX11_urnOf_60 : decode cX11_urnOf 60 = .ok (.iaload, 1) := by decide +kernel
theorem dX11_urnOf_61 : decode cX11_urnOf 61 = .ok (.ireturn, 1) := by decide +kernel
theorem dX11_urnOf_62 : decode cX11_urnOf 62 = .ok (.aload_n 0, 1) := by decide +kernel
theorem dX11_urnOf_63 : decode cX11_urnOf 63 = .ok (.getfield 13, 3) := by decide +kernel
theorem dX11_urnOf_66 : decode cX11_urnOf 66 = .ok (.getfield 108, 3) := by decide +kernel
theorem dX11_urnOf_69 : decode cX11_urnOf 69 = .ok (.iload_n 1, 1) := by decide +kernel
theorem dX11_urnOf_70 : decode cX11_urnOf 70 = .ok (.iaload, 1) := by decide +kernel
theorem dX11_urnOf_71 : decode cX11_urnOf 71 = .ok (.ireturn, 1) := by decide +kernel
theorem dX11_urnOf_72 : decode cX11_urnOf 72 = .ok (.aload_n 0, 1) := by decide +kernel
theorem dX11_urnOf_73 : decode cX11_urnOf 73 = .ok (.getfield 13, 3) := by decide +kernel
theorem dX11_urnOf_76 : decode cX11_urnOf 76 = .ok (.iload_n 1, 1) := by decide +kernel
theorem dX11_urnOf_77 : decode cX11_urnOf 77 = .ok (.invokevirtual 111, 3) := by decide +kernel
theorem dX11_urnOf_80 : decode cX11_urnOf 80 = .ok (.ireturn, 1) := by decide +kernel
theorem dX11_urnOf_81 : decode cX11_urnOf 81 = .ok (.aload_n 0, 1) := by decide +kernel
theorem dX11_urnOf_82 : decode cX11_urnOf 82 = .ok (.getfield 13, 3) := by decide +kernel
theorem dX11_urnOf_85 : decode cX11_urnOf 85 = .ok (.iload_n 1, 1) := by decide +kernel
theorem dX11_urnOf_86 : decode cX11_urnOf 86 = .ok (.invokevirtual 114, 3) := by decide +kernel
theorem dX11_urnOf_89 : decode cX11_urnOf 89 = .ok (.ireturn, 1) := by decide +kernel
theorem dX11_urnOf_90 : decode cX11_urnOf 90 = .ok (.aload_n 0, 1) := by decide +kernel
theorem dX11_urnOf_91 : decode cX11_urnOf 91 = .ok (.getfield 13, 3) := by decide +kernel
theorem dX11_urnOf_94 : decode cX11_urnOf 94 = .ok (.getfield 117, 3) := by decide +kernel
theorem dX11_urnOf_97 : decode cX11_urnOf 97 = .ok (.iload_n 1, 1) := by decide +kernel
theorem dX11_urnOf_98 : decode cX11_urnOf 98 = .ok (.iaload, 1) := by decide +kernel
theorem dX11_urnOf_99 : decode cX11_urnOf 99 = .ok (.ireturn, 1) := by decide +kernel
theorem dX11_urnOf_100 : decode cX11_urnOf 100 = .ok (.aload_n 0, 1) := by decide +kernel
theorem dX11_urnOf_101 : decode cX11_urnOf 101 = .ok (.getfield 13, 3) := by decide +kernel
theorem dX11_urnOf_104 : decode cX11_urnOf 104 = .ok (.getfield 120, 3) := by decide +kernel
theorem dX11_urnOf_107 : decode cX11_urnOf 107 = .ok (.iload_n 1, 1) := by decide +kernel
theorem dX11_urnOf_108 : decode cX11_urnOf 108 = .ok (.iaload, 1) := by decide +kernel
theorem dX11_urnOf_109 : decode cX11_urnOf 109 = .ok (.ireturn, 1) := by decide +kernel
theorem dX11_urnOf_110 : decode cX11_urnOf 110 = .ok (.bipush (-12), 2) := by decide +kernel
theorem dX11_urnOf_112 : decode cX11_urnOf 112 = .ok (.ireturn, 1) := by decide +kernel
theorem dX11_threadOf_0 : decode cX11_threadOf 0 = .ok (.aload_n 0, 1) := by decide +kernel
theorem dX11_threadOf_1 : decode cX11_threadOf 1 = .ok (.getfield 13, 3) := by decide +kernel
theorem dX11_threadOf_4 : decode cX11_threadOf 4 = .ok (.iload_n 1, 1) := by decide +kernel
theorem dX11_threadOf_5 : decode cX11_threadOf 5 = .ok (.invokevirtual 100, 3) := by decide +kernel
theorem dX11_threadOf_8 : decode cX11_threadOf 8 = .ok (.ifCond .eq 10, 3) := by decide +kernel
theorem dX11_threadOf_11 : decode cX11_threadOf 11 = .ok (.iload_n 2, 1) := by decide +kernel
theorem dX11_threadOf_12 : decode cX11_threadOf 12 = .ok (.invokestatic 123, 3) := by decide +kernel
theorem dX11_threadOf_15 : decode cX11_threadOf 15 = .ok (.ifCond .ne 6, 3) := by decide +kernel
theorem dX11_threadOf_18 : decode cX11_threadOf 18 = .ok (.bipush (-11), 2) := by decide +kernel
theorem dX11_threadOf_20 : decode cX11_threadOf 20 = .ok (.ireturn, 1) := by decide +kernel
theorem dX11_threadOf_21 : decode cX11_threadOf 21 = .ok (.aload_n 0, 1) := by decide +kernel
theorem dX11_threadOf_22 : decode cX11_threadOf 22 = .ok (.getfield 13, 3) := by decide +kernel
theorem dX11_threadOf_25 : decode cX11_threadOf 25 = .ok (.iload_n 1, 1) := by decide +kernel
theorem dX11_threadOf_26 : decode cX11_threadOf 26 = .ok (.iload_n 2, 1) := by decide +kernel
theorem dX11_threadOf_27 : decode cX11_threadOf 27 = .ok (.invokevirtual 126, 3) := by decide +kernel
theorem dX11_threadOf_30 : decode cX11_threadOf 30 = .ok (.ireturn, 1) := by decide +kernel
theorem dX11_named_0 : decode cX11_named 0 = .ok (.iload_n 1, 1) := by decide +kernel
theorem dX11_named_1 : decode cX11_named 1 = .ok (.invokestatic 129, 3) := by decide +kernel
theorem dX11_named_4 : decode cX11_named 4 = .ok (.ifCond .eq 15, 3) := by decide +kernel
theorem dX11_named_7 : decode cX11_named 7 = .ok (.aload_n 0, 1) := by decide +kernel
theorem dX11_named_8 : decode cX11_named 8 = .ok (.getfield 13, 3) := by decide +kernel
theorem dX11_named_11 : decode cX11_named 11 = .ok (.getfield 132, 3) := by decide +kernel
theorem dX11_named_14 : decode cX11_named 14 = .ok (.iload_n 1, 1) := by decide +kernel
theorem dX11_named_15 : decode cX11_named 15 = .ok (.iaload, 1) := by decide +kernel
theorem dX11_named_16 : decode cX11_named 16 = .ok (.goto 5, 3) := by decide +kernel
theorem dX11_named_19 : decode cX11_named 19 = .ok (.bipush (-11), 2) := by decide +kernel
theorem dX11_named_21 : decode cX11_named 21 = .ok (.ireturn, 1) := by decide +kernel
theorem dX11_begin_0 : decode cX11_begin 0 = .ok (.aload_n 0, 1) := by decide +kernel
theorem dX11_begin_1 : decode cX11_begin 1 = .ok (.getfield 51, 3) := by decide +kernel
theorem dX11_begin_4 : decode cX11_begin 4 = .ok (.invokevirtual 69, 3) := by decide +kernel
theorem dX11_begin_7 : decode cX11_begin 7 = .ok (.aload_n 0, 1) := by decide +kernel
theorem dX11_begin_8 : decode cX11_begin 8 = .ok (.getfield 51, 3) := by decide +kernel
theorem dX11_begin_11 : decode cX11_begin 11 = .ok (.aload_n 0, 1) := by decide +kernel
theorem dX11_begin_12 : decode cX11_begin 12 = .ok (.getfield 35, 3) := by decide +kernel
theorem dX11_begin_15 : decode cX11_begin 15 = .ok (.invokevirtual 135, 3) := by decide +kernel
theorem dX11_begin_18 : decode cX11_begin 18 = .ok (.invokevirtual 76, 3) := by decide +kernel
theorem dX11_begin_21 : decode cX11_begin 21 = .ok (.ireturn, 1) := by decide +kernel
theorem dX11_step_0 : decode cX11_step 0 = .ok (.aload_n 0, 1) := by decide +kernel
theorem dX11_step_1 : decode cX11_step 1 = .ok (.getfield 51, 3) := by decide +kernel
theorem dX11_step_4 : decode cX11_step 4 = .ok (.invokevirtual 69, 3) := by decide +kernel
theorem dX11_step_7 : decode cX11_step 7 = .ok (.aload_n 0, 1) := by decide +kernel
theorem dX11_step_8 : decode cX11_step 8 = .ok (.getfield 51, 3) := by decide +kernel
theorem dX11_step_11 : decode cX11_step 11 = .ok (.aload_n 0, 1) := by decide +kernel
theorem dX11_step_12 : decode cX11_step 12 = .ok (.getfield 35, 3) := by decide +kernel
theorem dX11_step_15 : decode cX11_step 15 = .ok (.iload_n 1, 1) := by decide +kernel
theorem dX11_step_16 : decode cX11_step 16 = .ok (.invokevirtual 139, 3) := by decide +kernel
theorem dX11_step_19 : decode cX11_step 19 = .ok (.invokevirtual 76, 3) := by decide +kernel
theorem dX11_step_22 : decode cX11_step 22 = .ok (.ireturn, 1) := by decide +kernel
theorem dX11_round_0 : decode cX11_round 0 = .ok (.aload_n 0, 1) := by decide +kernel
theorem dX11_round_1 : decode cX11_round 1 = .ok (.getfield 51, 3) := by decide +kernel
theorem dX11_round_4 : decode cX11_round 4 = .ok (.invokevirtual 69, 3) := by decide +kernel
theorem dX11_round_7 : decode cX11_round 7 = .ok (.aload_n 0, 1) := by decide +kernel
theorem dX11_round_8 : decode cX11_round 8 = .ok (.getfield 51, 3) := by decide +kernel
theorem dX11_round_11 : decode cX11_round 11 = .ok (.aload_n 0, 1) := by decide +kernel
theorem dX11_round_12 : decode cX11_round 12 = .ok (.getfield 35, 3) := by decide +kernel
theorem dX11_round_15 : decode cX11_round 15 = .ok (.invokevirtual 142, 3) := by decide +kernel
theorem dX11_round_18 : decode cX11_round 18 = .ok (.invokevirtual 76, 3) := by decide +kernel
theorem dX11_round_21 : decode cX11_round 21 = .ok (.ireturn, 1) := by decide +kernel
theorem dX11_rite_0 : decode cX11_rite 0 = .ok (.aload_n 0, 1) := by decide +kernel
theorem dX11_rite_1 : decode cX11_rite 1 = .ok (.getfield 51, 3) := by decide +kernel
theorem dX11_rite_4 : decode cX11_rite 4 = .ok (.invokevirtual 69, 3) := by decide +kernel
theorem dX11_rite_7 : decode cX11_rite 7 = .ok (.aload_n 0, 1) := by decide +kernel
theorem dX11_rite_8 : decode cX11_rite 8 = .ok (.getfield 51, 3) := by decide +kernel
theorem dX11_rite_11 : decode cX11_rite 11 = .ok (.aload_n 0, 1) := by decide +kernel
theorem dX11_rite_12 : decode cX11_rite 12 = .ok (.getfield 35, 3) := by decide +kernel
theorem dX11_rite_15 : decode cX11_rite 15 = .ok (.invokevirtual 145, 3) := by decide +kernel
theorem dX11_rite_18 : decode cX11_rite 18 = .ok (.invokevirtual 76, 3) := by decide +kernel
theorem dX11_rite_21 : decode cX11_rite 21 = .ok (.ireturn, 1) := by decide +kernel
theorem dX11_due_0 : decode cX11_due 0 = .ok (.aload_n 0, 1) := by decide +kernel
theorem dX11_due_1 : decode cX11_due 1 = .ok (.getfield 13, 3) := by decide +kernel
theorem dX11_due_4 : decode cX11_due 4 = .ok (.getfield 148, 3) := by decide +kernel
theorem dX11_due_7 : decode cX11_due 7 = .ok (.iload_n 1, 1) := by decide +kernel
theorem dX11_due_8 : decode cX11_due 8 = .ok (.invokevirtual 152, 3) := by decide +kernel
theorem dX11_due_11 : decode cX11_due 11 = .ok (.ireturn, 1) := by decide +kernel
theorem dX11_grey_0 : decode cX11_grey 0 = .ok (.aload_n 0, 1) := by decide +kernel
theorem dX11_grey_1 : decode cX11_grey 1 = .ok (.getfield 13, 3) := by decide +kernel
theorem dX11_grey_4 : decode cX11_grey 4 = .ok (.getfield 157, 3) := by decide +kernel
theorem dX11_grey_7 : decode cX11_grey 7 = .ok (.iload_n 1, 1) := by decide +kernel
theorem dX11_grey_8 : decode cX11_grey 8 = .ok (.invokevirtual 152, 3) := by decide +kernel
theorem dX11_grey_11 : decode cX11_grey 11 = .ok (.ireturn, 1) := by decide +kernel
theorem dX11_freed_0 : decode cX11_freed 0 = .ok (.aload_n 0, 1) := by decide +kernel
theorem dX11_freed_1 : decode cX11_freed 1 = .ok (.getfield 13, 3) := by decide +kernel
theorem dX11_freed_4 : decode cX11_freed 4 = .ok (.iload_n 1, 1) := by decide +kernel
theorem dX11_freed_5 : decode cX11_freed 5 = .ok (.invokevirtual 160, 3) := by decide +kernel
theorem dX11_freed_8 : decode cX11_freed 8 = .ok (.ireturn, 1) := by decide +kernel
theorem dX11_live_0 : decode cX11_live 0 = .ok (.aload_n 0, 1) := by decide +kernel
theorem dX11_live_1 : decode cX11_live 1 = .ok (.getfield 44, 3) := by decide +kernel
theorem dX11_live_4 : decode cX11_live 4 = .ok (.invokevirtual 163, 3) := by decide +kernel
theorem dX11_live_7 : decode cX11_live 7 = .ok (.ireturn, 1) := by decide +kernel
theorem dX11_liveAgain_0 : decode cX11_liveAgain 0 = .ok (.aload_n 0, 1) := by decide +kernel
theorem dX11_liveAgain_1 : decode cX11_liveAgain 1 = .ok (.getfield 44, 3) := by decide +kernel
theorem dX11_liveAgain_4 : decode cX11_liveAgain 4 = .ok (.invokevirtual 166, 3) := by decide +kernel
theorem dX11_liveAgain_7 : decode cX11_liveAgain 7 = .ok (.ireturn, 1) := by decide +kernel
theorem dX11_depth_0 : decode cX11_depth 0 = .ok (.aload_n 0, 1) := by decide +kernel
theorem dX11_depth_1 : decode cX11_depth 1 = .ok (.getfield 13, 3) := by decide +kernel
theorem dX11_depth_4 : decode cX11_depth 4 = .ok (.iload_n 1, 1) := by decide +kernel
theorem dX11_depth_5 : decode cX11_depth 5 = .ok (.invokevirtual 100, 3) := by decide +kernel
theorem dX11_depth_8 : decode cX11_depth 8 = .ok (.ifCond .eq 23, 3) := by decide +kernel
theorem dX11_depth_11 : decode cX11_depth 11 = .ok (.aload_n 0, 1) := by decide +kernel
theorem dX11_depth_12 : decode cX11_depth 12 = .ok (.getfield 44, 3) := by decide +kernel
theorem dX11_depth_15 : decode cX11_depth 15 = .ok (.aload_n 0, 1) := by decide +kernel
theorem dX11_depth_16 : decode cX11_depth 16 = .ok (.getfield 44, 3) := by decide +kernel
theorem dX11_depth_19 : decode cX11_depth 19 = .ok (.bipush (-15), 2) := by decide +kernel
theorem dX11_depth_21 : decode cX11_depth 21 = .ok (.invokevirtual 169, 3) := by decide +kernel
theorem dX11_depth_24 : decode cX11_depth 24 = .ok (.iload_n 1, 1) := by decide +kernel
theorem dX11_depth_25 : decode cX11_depth 25 = .ok (.invokevirtual 172, 3) := by decide +kernel
theorem dX11_depth_28 : decode cX11_depth 28 = .ok (.goto 5, 3) := by decide +kernel
theorem dX11_depth_31 : decode cX11_depth 31 = .ok (.bipush (-11), 2) := by decide +kernel
theorem dX11_depth_33 : decode cX11_depth 33 = .ok (.ireturn, 1) := by decide +kernel
theorem dX11_keepers_0 : decode cX11_keepers 0 = .ok (.aload_n 0, 1) := by decide +kernel
theorem dX11_keepers_1 : decode cX11_keepers 1 = .ok (.getfield 13, 3) := by decide +kernel
theorem dX11_keepers_4 : decode cX11_keepers 4 = .ok (.iload_n 1, 1) := by decide +kernel
theorem dX11_keepers_5 : decode cX11_keepers 5 = .ok (.invokevirtual 100, 3) := by decide +kernel
theorem dX11_keepers_8 : decode cX11_keepers 8 = .ok (.ifCond .eq 14, 3) := by decide +kernel
theorem dX11_keepers_11 : decode cX11_keepers 11 = .ok (.aload_n 0, 1) := by decide +kernel
theorem dX11_keepers_12 : decode cX11_keepers 12 = .ok (.getfield 44, 3) := by decide +kernel
theorem dX11_keepers_15 : decode cX11_keepers 15 = .ok (.iload_n 1, 1) := by decide +kernel
theorem dX11_keepers_16 : decode cX11_keepers 16 = .ok (.invokevirtual 175, 3) := by decide +kernel
theorem dX11_keepers_19 : decode cX11_keepers 19 = .ok (.goto 5, 3) := by decide +kernel
theorem dX11_keepers_22 : decode cX11_keepers 22 = .ok (.bipush (-11), 2) := by decide +kernel
theorem dX11_keepers_24 : decode cX11_keepers 24 = .ok (.ireturn, 1) := by decide +kernel
theorem dX11_ring_0 : decode cX11_ring 0 = .ok (.aload_n 0, 1) := by decide +kernel
theorem dX11_ring_1 : decode cX11_ring 1 = .ok (.getfield 13, 3) := by decide +kernel
theorem dX11_ring_4 : decode cX11_ring 4 = .ok (.iload_n 1, 1) := by decide +kernel
theorem dX11_ring_5 : decode cX11_ring 5 = .ok (.invokevirtual 100, 3) := by decide +kernel
theorem dX11_ring_8 : decode cX11_ring 8 = .ok (.ifCond .eq 14, 3) := by decide +kernel
theorem dX11_ring_11 : decode cX11_ring 11 = .ok (.aload_n 0, 1) := by decide +kernel
theorem dX11_ring_12 : decode cX11_ring 12 = .ok (.getfield 44, 3) := by decide +kernel
theorem dX11_ring_15 : decode cX11_ring 15 = .ok (.iload_n 1, 1) := by decide +kernel
theorem dX11_ring_16 : decode cX11_ring 16 = .ok (.invokevirtual 178, 3) := by decide +kernel
theorem dX11_ring_19 : decode cX11_ring 19 = .ok (.goto 5, 3) := by decide +kernel
theorem dX11_ring_22 : decode cX11_ring 22 = .ok (.bipush (-11), 2) := by decide +kernel
theorem dX11_ring_24 : decode cX11_ring 24 = .ok (.ireturn, 1) := by decide +kernel
theorem dX11_wouldFree_0 : decode cX11_wouldFree 0 = .ok (.aload_n 0, 1) := by decide +kernel
theorem dX11_wouldFree_1 : decode cX11_wouldFree 1 = .ok (.getfield 44, 3) := by decide +kernel
theorem dX11_wouldFree_4 : decode cX11_wouldFree 4 = .ok (.invokevirtual 181, 3) := by decide +kernel
theorem dX11_wouldFree_7 : decode cX11_wouldFree 7 = .ok (.ireturn, 1) := by decide +kernel
theorem dX11_ranked_0 : decode cX11_ranked 0 = .ok (.aload_n 0, 1) := by decide +kernel
theorem dX11_ranked_1 : decode cX11_ranked 1 = .ok (.getfield 44, 3) := by decide +kernel
theorem dX11_ranked_4 : decode cX11_ranked 4 = .ok (.iload_n 1, 1) := by decide +kernel
theorem dX11_ranked_5 : decode cX11_ranked 5 = .ok (.invokevirtual 184, 3) := by decide +kernel
theorem dX11_ranked_8 : decode cX11_ranked 8 = .ok (.ireturn, 1) := by decide +kernel
theorem dX11_isBalanced_0 : decode cX11_isBalanced 0 = .ok (.aload_n 0, 1) := by decide +kernel
theorem dX11_isBalanced_1 : decode cX11_isBalanced 1 = .ok (.getfield 13, 3) := by decide +kernel
theorem dX11_isBalanced_4 : decode cX11_isBalanced 4 = .ok (.invokevirtual 271, 3) := by decide +kernel
theorem dX11_isBalanced_7 : decode cX11_isBalanced 7 = .ok (.ifCond .eq 7, 3) := by decide +kernel
theorem dX11_isBalanced_10 : decode cX11_isBalanced 10 = .ok (.iconst 1, 1) := by decide +kernel
theorem dX11_isBalanced_11 : decode cX11_isBalanced 11 = .ok (.goto 4, 3) := by decide +kernel
theorem dX11_isBalanced_14 : decode cX11_isBalanced 14 = .ok (.iconst 0, 1) := by decide +kernel
theorem dX11_isBalanced_15 : decode cX11_isBalanced 15 = .ok (.ireturn, 1) := by decide +kernel
theorem dX11_meanHeld_0 : decode cX11_meanHeld 0 = .ok (.aload_n 0, 1) := by decide +kernel
theorem dX11_meanHeld_1 : decode cX11_meanHeld 1 = .ok (.getfield 13, 3) := by decide +kernel
theorem dX11_meanHeld_4 : decode cX11_meanHeld 4 = .ok (.invokevirtual 238, 3) := by decide +kernel
theorem dX11_meanHeld_7 : decode cX11_meanHeld 7 = .ok (.istore_n 1, 1) := by decide +kernel
theorem dX11_meanHeld_8 : decode cX11_meanHeld 8 = .ok (.iload_n 1, 1) := by decide +kernel
theorem dX11_meanHeld_9 : decode cX11_meanHeld 9 = .ok (.ifCond .ne 7, 3) := by decide +kernel
theorem dX11_meanHeld_12 : decode cX11_meanHeld 12 = .ok (.dconst 0, 1) := by decide +kernel
theorem dX11_meanHeld_13 : decode cX11_meanHeld 13 = .ok (.goto 14, 3) := by decide +kernel
theorem dX11_meanHeld_16 : decode cX11_meanHeld 16 = .ok (.aload_n 0, 1) := by decide +kernel
theorem dX11_meanHeld_17 : decode cX11_meanHeld 17 = .ok (.getfield 13, 3) := by decide +kernel
theorem dX11_meanHeld_20 : decode cX11_meanHeld 20 = .ok (.invokevirtual 275, 3) := by decide +kernel
theorem dX11_meanHeld_23 : decode cX11_meanHeld 23 = .ok (.i2d, 1) := by decide +kernel
theorem dX11_meanHeld_24 : decode cX11_meanHeld 24 = .ok (.iload_n 1, 1) := by decide +kernel
theorem dX11_meanHeld_25 : decode cX11_meanHeld 25 = .ok (.i2d, 1) := by decide +kernel
theorem dX11_meanHeld_26 : decode cX11_meanHeld 26 = .ok (.ddiv, 1) := by decide +kernel
theorem dX11_meanHeld_27 : decode cX11_meanHeld 27 = .ok (.dreturn, 1) := by decide +kernel
theorem dX11_liveShare_0 : decode cX11_liveShare 0 = .ok (.aload_n 0, 1) := by decide +kernel
theorem dX11_liveShare_1 : decode cX11_liveShare 1 = .ok (.getfield 13, 3) := by decide +kernel
theorem dX11_liveShare_4 : decode cX11_liveShare 4 = .ok (.invokevirtual 238, 3) := by decide +kernel
theorem dX11_liveShare_7 : decode cX11_liveShare 7 = .ok (.istore_n 1, 1) := by decide +kernel
theorem dX11_liveShare_8 : decode cX11_liveShare 8 = .ok (.iload_n 1, 1) := by decide +kernel
theorem dX11_liveShare_9 : decode cX11_liveShare 9 = .ok (.ifCond .ne 7, 3) := by decide +kernel
theorem dX11_liveShare_12 : decode cX11_liveShare 12 = .ok (.fconst 0, 1) := by decide +kernel
theorem dX11_liveShare_13 : decode cX11_liveShare 13 = .ok (.goto 17, 3) := by decide +kernel
theorem dX11_liveShare_16 : decode cX11_liveShare 16 = .ok (.aload_n 0, 1) := by decide +kernel
theorem dX11_liveShare_17 : decode cX11_liveShare 17 = .ok (.getfield 44, 3) := by decide +kernel
theorem dX11_liveShare_20 : decode cX11_liveShare 20 = .ok (.invokevirtual 163, 3) := by decide +kernel
theorem dX11_liveShare_23 : decode cX11_liveShare 23 = .ok (.invokestatic 278, 3) := by decide +kernel
theorem dX11_liveShare_26 : decode cX11_liveShare 26 = .ok (.i2f, 1) := by decide +kernel
theorem dX11_liveShare_27 : decode cX11_liveShare 27 = .ok (.iload_n 1, 1) := by decide +kernel
theorem dX11_liveShare_28 : decode cX11_liveShare 28 = .ok (.i2f, 1) := by decide +kernel
theorem dX11_liveShare_29 : decode cX11_liveShare 29 = .ok (.fdiv, 1) := by decide +kernel
theorem dX11_liveShare_30 : decode cX11_liveShare 30 = .ok (.freturn, 1) := by decide +kernel
theorem dX11_undo_0 : decode cX11_undo 0 = .ok (.aload_n 0, 1) := by decide +kernel
theorem dX11_undo_1 : decode cX11_undo 1 = .ok (.getfield 51, 3) := by decide +kernel
theorem dX11_undo_4 : decode cX11_undo 4 = .ok (.invokevirtual 283, 3) := by decide +kernel
theorem dX11_undo_7 : decode cX11_undo 7 = .ok (.ireturn, 1) := by decide +kernel
theorem dX11_save_0 : decode cX11_save 0 = .ok (.aload_n 0, 1) := by decide +kernel
theorem dX11_save_1 : decode cX11_save 1 = .ok (.getfield 51, 3) := by decide +kernel
theorem dX11_save_4 : decode cX11_save 4 = .ok (.invokevirtual 286, 3) := by decide +kernel
theorem dX11_save_7 : decode cX11_save 7 = .ok (.ireturn, 1) := by decide +kernel
theorem dX11_restore_0 : decode cX11_restore 0 = .ok (.aload_n 0, 1) := by decide +kernel
theorem dX11_restore_1 : decode cX11_restore 1 = .ok (.getfield 51, 3) := by decide +kernel
theorem dX11_restore_4 : decode cX11_restore 4 = .ok (.invokevirtual 289, 3) := by decide +kernel
theorem dX11_restore_7 : decode cX11_restore 7 = .ok (.ireturn, 1) := by decide +kernel
def f_X11_tie (μ : mu_T) (a1 : Int) (a2 : Int) (a3 : Int) : Option (Int × mu_T) :=
  bd_ (f_X3_keepBefore μ) (fun μ4 => bp_ (f_X1_tieThread μ4 a1 a2 a3) (fun v18 μ18 => bp_ (f_X3_settle μ18 v18) (fun v21 μ21 => some (v21, μ21))))
set_option maxHeartbeats 4000000 in
set_option maxRecDepth 100000 in
theorem c_X11_tie {G : gp_} {ad : Nat → Nat} (μ : mu_T) (a1 : Int) (a2 : Int) (a3 : Int) (a : Int) (μr : mu_T) (h : f_X11_tie μ a1 a2 a3 = some (a, μr)) : mi_ yX11_tie cX11_tie 4 (some .int) ({ frames := 4, cells := 0, slots := 0, locals := 87 } : Room) G 151 ad (ceX G ad) [.ref (ad 132), .int (iI a1), .int (iI a2), .int (iI a3)] μ a μr := by
  refine mi_in (own := "UrnHeap") (lv := [(0, .ref (ad 132)), (1, .int (iI a1)), (2, .int (iI a2)), (3, .int (iI a3))]) (by decide) rfl rfl (Nat.le_of_ble_eq_true rfl) (fun X C E => ?_)
  unfold f_X11_tie at h
  refine xx_aload_n C 1 rfl 0 dX11_tie_0 rfl rfl ?_
  refine xx_getr (fi := 5) C 4 rfl (by decide) (ceX_132 _ _ _) rfl in_X11 (by decide) rfl w_345 dX11_tie_1 ?_
  refine xx_cVv (As := []) (st := []) (o := 138) C 7 rfl (by decide) (ceX_138 _ _ _) rfl rfl ca_X3_keepBefore cv_X3_keepBefore w_407 rfl ⟨Nat.le_of_ble_eq_true rfl, Nat.le_of_ble_eq_true rfl⟩ ⟨Nat.le_of_ble_eq_true rfl, Nat.le_of_ble_eq_true rfl⟩ (Nat.le_of_ble_eq_true rfl) dX11_tie_4 (fun μ4 e9 => c_X3_keepBefore _ μ4 e9) h (fun μ4 h => ?_) rfl
  refine xx_aload_n C 8 rfl 0 dX11_tie_7 rfl rfl ?_
  refine xx_getr (fi := 5) C 11 rfl (by decide) (ceX_132 _ _ _) rfl in_X11 (by decide) rfl w_345 dX11_tie_8 ?_
  refine xx_aload_n C 12 rfl 0 dX11_tie_11 rfl rfl ?_
  refine xx_getr (fi := 2) C 15 rfl (by decide) (ceX_132 _ _ _) rfl in_X11 (by decide) rfl w_342 dX11_tie_12 ?_
  refine xx_iload_n C 16 rfl 1 dX11_tie_15 rfl rfl ?_
  refine xx_iload_n C 17 rfl 2 dX11_tie_16 rfl rfl ?_
  refine xx_iload_n C 18 rfl 3 dX11_tie_17 rfl rfl ?_
  refine xx_cVi (As := [.int (iI a1), .int (iI a2), .int (iI a3)]) (st := [.ref (ad 138)]) (o := 134) C 21 rfl (by decide) (ceX_134 _ _ _) rfl rfl ca_X1_tieThread cv_X1_tieThread w_457 rfl ⟨Nat.le_of_ble_eq_true rfl, Nat.le_of_ble_eq_true rfl⟩ ⟨Nat.le_of_ble_eq_true rfl, Nat.le_of_ble_eq_true rfl⟩ (Nat.le_of_ble_eq_true rfl) dX11_tie_18 (fun v18 μ18 e9 => c_X1_tieThread _ _ _ _ v18 μ18 e9) h (fun v18 μ18 h => ?_) rfl
  refine xx_cVi (As := [.int (iI v18)]) (st := []) (o := 138) C 24 rfl (by decide) (ceX_138 _ _ _) rfl rfl ca_X3_settle cv_X3_settle w_443 rfl ⟨Nat.le_of_ble_eq_true rfl, Nat.le_of_ble_eq_true rfl⟩ ⟨Nat.le_of_ble_eq_true rfl, Nat.le_of_ble_eq_true rfl⟩ (Nat.le_of_ble_eq_true rfl) dX11_tie_21 (fun v21 μ21 e9 => c_X3_settle _ _ v21 μ21 e9) h (fun v21 μ21 h => ?_) rfl
  exact xx_iret C E rfl ⟨Nat.le_of_ble_eq_true rfl, Nat.le_of_ble_eq_true rfl⟩ dX11_tie_24 h

def f_X11_untie (μ : mu_T) (a1 : Int) (a2 : Int) : Option (Int × mu_T) :=
  bd_ (f_X3_keepBefore μ) (fun μ4 => bp_ (f_X1_takeThread μ4 a1 a2) (fun v17 μ17 => bp_ (f_X3_settle μ17 v17) (fun v20 μ20 => some (v20, μ20))))
set_option maxHeartbeats 4000000 in
set_option maxRecDepth 100000 in
theorem c_X11_untie {G : gp_} {ad : Nat → Nat} (μ : mu_T) (a1 : Int) (a2 : Int) (a : Int) (μr : mu_T) (h : f_X11_untie μ a1 a2 = some (a, μr)) : mi_ yX11_untie cX11_untie 3 (some .int) ({ frames := 4, cells := 0, slots := 0, locals := 81 } : Room) G 151 ad (ceX G ad) [.ref (ad 132), .int (iI a1), .int (iI a2)] μ a μr := by
  refine mi_in (own := "UrnHeap") (lv := [(0, .ref (ad 132)), (1, .int (iI a1)), (2, .int (iI a2))]) (by decide) rfl rfl (Nat.le_of_ble_eq_true rfl) (fun X C E => ?_)
  unfold f_X11_untie at h
  refine xx_aload_n C 1 rfl 0 dX11_untie_0 rfl rfl ?_
  refine xx_getr (fi := 5) C 4 rfl (by decide) (ceX_132 _ _ _) rfl in_X11 (by decide) rfl w_345 dX11_untie_1 ?_
  refine xx_cVv (As := []) (st := []) (o := 138) C 7 rfl (by decide) (ceX_138 _ _ _) rfl rfl ca_X3_keepBefore cv_X3_keepBefore w_407 rfl ⟨Nat.le_of_ble_eq_true rfl, Nat.le_of_ble_eq_true rfl⟩ ⟨Nat.le_of_ble_eq_true rfl, Nat.le_of_ble_eq_true rfl⟩ (Nat.le_of_ble_eq_true rfl) dX11_untie_4 (fun μ4 e9 => c_X3_keepBefore _ μ4 e9) h (fun μ4 h => ?_) rfl
  refine xx_aload_n C 8 rfl 0 dX11_untie_7 rfl rfl ?_
  refine xx_getr (fi := 5) C 11 rfl (by decide) (ceX_132 _ _ _) rfl in_X11 (by decide) rfl w_345 dX11_untie_8 ?_
  refine xx_aload_n C 12 rfl 0 dX11_untie_11 rfl rfl ?_
  refine xx_getr (fi := 2) C 15 rfl (by decide) (ceX_132 _ _ _) rfl in_X11 (by decide) rfl w_342 dX11_untie_12 ?_
  refine xx_iload_n C 16 rfl 1 dX11_untie_15 rfl rfl ?_
  refine xx_iload_n C 17 rfl 2 dX11_untie_16 rfl rfl ?_
  refine xx_cVi (As := [.int (iI a1), .int (iI a2)]) (st := [.ref (ad 138)]) (o := 134) C 20 rfl (by decide) (ceX_134 _ _ _) rfl rfl ca_X1_takeThread cv_X1_takeThread w_496 rfl ⟨Nat.le_of_ble_eq_true rfl, Nat.le_of_ble_eq_true rfl⟩ ⟨Nat.le_of_ble_eq_true rfl, Nat.le_of_ble_eq_true rfl⟩ (Nat.le_of_ble_eq_true rfl) dX11_untie_17 (fun v17 μ17 e9 => c_X1_takeThread _ _ _ v17 μ17 e9) h (fun v17 μ17 h => ?_) rfl
  refine xx_cVi (As := [.int (iI v17)]) (st := []) (o := 138) C 23 rfl (by decide) (ceX_138 _ _ _) rfl rfl ca_X3_settle cv_X3_settle w_443 rfl ⟨Nat.le_of_ble_eq_true rfl, Nat.le_of_ble_eq_true rfl⟩ ⟨Nat.le_of_ble_eq_true rfl, Nat.le_of_ble_eq_true rfl⟩ (Nat.le_of_ble_eq_true rfl) dX11_untie_20 (fun v20 μ20 e9 => c_X3_settle _ _ v20 μ20 e9) h (fun v20 μ20 h => ?_) rfl
  exact xx_iret C E rfl ⟨Nat.le_of_ble_eq_true rfl, Nat.le_of_ble_eq_true rfl⟩ dX11_untie_23 h

def f_X11_weak (μ : mu_T) (a1 : Int) (a2 : Int) : Option (Int × mu_T) :=
  bd_ (f_X3_keepBefore μ) (fun μ4 => bp_ (f_X1_tieWeak μ4 a1 a2) (fun v17 μ17 => bp_ (f_X3_settle μ17 v17) (fun v20 μ20 => some (v20, μ20))))
set_option maxHeartbeats 4000000 in
set_option maxRecDepth 100000 in
theorem c_X11_weak {G : gp_} {ad : Nat → Nat} (μ : mu_T) (a1 : Int) (a2 : Int) (a : Int) (μr : mu_T) (h : f_X11_weak μ a1 a2 = some (a, μr)) : mi_ yX11_weak cX11_weak 3 (some .int) ({ frames := 4, cells := 0, slots := 0, locals := 81 } : Room) G 151 ad (ceX G ad) [.ref (ad 132), .int (iI a1), .int (iI a2)] μ a μr := by
  refine mi_in (own := "UrnHeap") (lv := [(0, .ref (ad 132)), (1, .int (iI a1)), (2, .int (iI a2))]) (by decide) rfl rfl (Nat.le_of_ble_eq_true rfl) (fun X C E => ?_)
  unfold f_X11_weak at h
  refine xx_aload_n C 1 rfl 0 dX11_weak_0 rfl rfl ?_
  refine xx_getr (fi := 5) C 4 rfl (by decide) (ceX_132 _ _ _) rfl in_X11 (by decide) rfl w_345 dX11_weak_1 ?_
  refine xx_cVv (As := []) (st := []) (o := 138) C 7 rfl (by decide) (ceX_138 _ _ _) rfl rfl ca_X3_keepBefore cv_X3_keepBefore w_407 rfl ⟨Nat.le_of_ble_eq_true rfl, Nat.le_of_ble_eq_true rfl⟩ ⟨Nat.le_of_ble_eq_true rfl, Nat.le_of_ble_eq_true rfl⟩ (Nat.le_of_ble_eq_true rfl) dX11_weak_4 (fun μ4 e9 => c_X3_keepBefore _ μ4 e9) h (fun μ4 h => ?_) rfl
  refine xx_aload_n C 8 rfl 0 dX11_weak_7 rfl rfl ?_
  refine xx_getr (fi := 5) C 11 rfl (by decide) (ceX_132 _ _ _) rfl in_X11 (by decide) rfl w_345 dX11_weak_8 ?_
  refine xx_aload_n C 12 rfl 0 dX11_weak_11 rfl rfl ?_
  refine xx_getr (fi := 2) C 15 rfl (by decide) (ceX_132 _ _ _) rfl in_X11 (by decide) rfl w_342 dX11_weak_12 ?_
  refine xx_iload_n C 16 rfl 1 dX11_weak_15 rfl rfl ?_
  refine xx_iload_n C 17 rfl 2 dX11_weak_16 rfl rfl ?_
  refine xx_cVi (As := [.int (iI a1), .int (iI a2)]) (st := [.ref (ad 138)]) (o := 134) C 20 rfl (by decide) (ceX_134 _ _ _) rfl rfl ca_X1_tieWeak cv_X1_tieWeak w_504 rfl ⟨Nat.le_of_ble_eq_true rfl, Nat.le_of_ble_eq_true rfl⟩ ⟨Nat.le_of_ble_eq_true rfl, Nat.le_of_ble_eq_true rfl⟩ (Nat.le_of_ble_eq_true rfl) dX11_weak_17 (fun v17 μ17 e9 => c_X1_tieWeak _ _ _ v17 μ17 e9) h (fun v17 μ17 h => ?_) rfl
  refine xx_cVi (As := [.int (iI v17)]) (st := []) (o := 138) C 23 rfl (by decide) (ceX_138 _ _ _) rfl rfl ca_X3_settle cv_X3_settle w_443 rfl ⟨Nat.le_of_ble_eq_true rfl, Nat.le_of_ble_eq_true rfl⟩ ⟨Nat.le_of_ble_eq_true rfl, Nat.le_of_ble_eq_true rfl⟩ (Nat.le_of_ble_eq_true rfl) dX11_weak_20 (fun v20 μ20 e9 => c_X3_settle _ _ v20 μ20 e9) h (fun v20 μ20 h => ?_) rfl
  exact xx_iret C E rfl ⟨Nat.le_of_ble_eq_true rfl, Nat.le_of_ble_eq_true rfl⟩ dX11_weak_23 h

def f_X11_unweak (μ : mu_T) (a1 : Int) : Option (Int × mu_T) :=
  bd_ (f_X3_keepBefore μ) (fun μ4 => bp_ (f_X1_takeWeak μ4 a1) (fun v16 μ16 => bp_ (f_X3_settle μ16 v16) (fun v19 μ19 => some (v19, μ19))))
set_option maxHeartbeats 4000000 in
set_option maxRecDepth 100000 in
theorem c_X11_unweak {G : gp_} {ad : Nat → Nat} (μ : mu_T) (a1 : Int) (a : Int) (μr : mu_T) (h : f_X11_unweak μ a1 = some (a, μr)) : mi_ yX11_unweak cX11_unweak 2 (some .int) ({ frames := 4, cells := 0, slots := 0, locals := 81 } : Room) G 151 ad (ceX G ad) [.ref (ad 132), .int (iI a1)] μ a μr := by
  refine mi_in (own := "UrnHeap") (lv := [(0, .ref (ad 132)), (1, .int (iI a1))]) (by decide) rfl rfl (Nat.le_of_ble_eq_true rfl) (fun X C E => ?_)
  unfold f_X11_unweak at h
  refine xx_aload_n C 1 rfl 0 dX11_unweak_0 rfl rfl ?_
  refine xx_getr (fi := 5) C 4 rfl (by decide) (ceX_132 _ _ _) rfl in_X11 (by decide) rfl w_345 dX11_unweak_1 ?_
  refine xx_cVv (As := []) (st := []) (o := 138) C 7 rfl (by decide) (ceX_138 _ _ _) rfl rfl ca_X3_keepBefore cv_X3_keepBefore w_407 rfl ⟨Nat.le_of_ble_eq_true rfl, Nat.le_of_ble_eq_true rfl⟩ ⟨Nat.le_of_ble_eq_true rfl, Nat.le_of_ble_eq_true rfl⟩ (Nat.le_of_ble_eq_true rfl) dX11_unweak_4 (fun μ4 e9 => c_X3_keepBefore _ μ4 e9) h (fun μ4 h => ?_) rfl
  refine xx_aload_n C 8 rfl 0 dX11_unweak_7 rfl rfl ?_
  refine xx_getr (fi := 5) C 11 rfl (by decide) (ceX_132 _ _ _) rfl in_X11 (by decide) rfl w_345 dX11_unweak_8 ?_
  refine xx_aload_n C 12 rfl 0 dX11_unweak_11 rfl rfl ?_
  refine xx_getr (fi := 2) C 15 rfl (by decide) (ceX_132 _ _ _) rfl in_X11 (by decide) rfl w_342 dX11_unweak_12 ?_
  refine xx_iload_n C 16 rfl 1 dX11_unweak_15 rfl rfl ?_
  refine xx_cVi (As := [.int (iI a1)]) (st := [.ref (ad 138)]) (o := 134) C 19 rfl (by decide) (ceX_134 _ _ _) rfl rfl ca_X1_takeWeak cv_X1_takeWeak w_512 rfl ⟨Nat.le_of_ble_eq_true rfl, Nat.le_of_ble_eq_true rfl⟩ ⟨Nat.le_of_ble_eq_true rfl, Nat.le_of_ble_eq_true rfl⟩ (Nat.le_of_ble_eq_true rfl) dX11_unweak_16 (fun v16 μ16 e9 => c_X1_takeWeak _ _ v16 μ16 e9) h (fun v16 μ16 h => ?_) rfl
  refine xx_cVi (As := [.int (iI v16)]) (st := []) (o := 138) C 22 rfl (by decide) (ceX_138 _ _ _) rfl rfl ca_X3_settle cv_X3_settle w_443 rfl ⟨Nat.le_of_ble_eq_true rfl, Nat.le_of_ble_eq_true rfl⟩ ⟨Nat.le_of_ble_eq_true rfl, Nat.le_of_ble_eq_true rfl⟩ (Nat.le_of_ble_eq_true rfl) dX11_unweak_19 (fun v19 μ19 e9 => c_X3_settle _ _ v19 μ19 e9) h (fun v19 μ19 h => ?_) rfl
  exact xx_iret C E rfl ⟨Nat.le_of_ble_eq_true rfl, Nat.le_of_ble_eq_true rfl⟩ dX11_unweak_22 h

def f_X11_name (μ : mu_T) (a1 : Int) (a2 : Int) : Option (Int × mu_T) :=
  bd_ (f_X3_keepBefore μ) (fun μ4 => bp_ (f_X1_giveName μ4 a1 a2) (fun v17 μ17 => bp_ (f_X3_settle μ17 v17) (fun v20 μ20 => some (v20, μ20))))
set_option maxHeartbeats 4000000 in
set_option maxRecDepth 100000 in
theorem c_X11_name {G : gp_} {ad : Nat → Nat} (μ : mu_T) (a1 : Int) (a2 : Int) (a : Int) (μr : mu_T) (h : f_X11_name μ a1 a2 = some (a, μr)) : mi_ yX11_name cX11_name 3 (some .int) ({ frames := 4, cells := 0, slots := 0, locals := 86 } : Room) G 151 ad (ceX G ad) [.ref (ad 132), .int (iI a1), .int (iI a2)] μ a μr := by
  refine mi_in (own := "UrnHeap") (lv := [(0, .ref (ad 132)), (1, .int (iI a1)), (2, .int (iI a2))]) (by decide) rfl rfl (Nat.le_of_ble_eq_true rfl) (fun X C E => ?_)
  unfold f_X11_name at h
  refine xx_aload_n C 1 rfl 0 dX11_name_0 rfl rfl ?_
  refine xx_getr (fi := 5) C 4 rfl (by decide) (ceX_132 _ _ _) rfl in_X11 (by decide) rfl w_345 dX11_name_1 ?_
  refine xx_cVv (As := []) (st := []) (o := 138) C 7 rfl (by decide) (ceX_138 _ _ _) rfl rfl ca_X3_keepBefore cv_X3_keepBefore w_407 rfl ⟨Nat.le_of_ble_eq_true rfl, Nat.le_of_ble_eq_true rfl⟩ ⟨Nat.le_of_ble_eq_true rfl, Nat.le_of_ble_eq_true rfl⟩ (Nat.le_of_ble_eq_true rfl) dX11_name_4 (fun μ4 e9 => c_X3_keepBefore _ μ4 e9) h (fun μ4 h => ?_) rfl
  refine xx_aload_n C 8 rfl 0 dX11_name_7 rfl rfl ?_
  refine xx_getr (fi := 5) C 11 rfl (by decide) (ceX_132 _ _ _) rfl in_X11 (by decide) rfl w_345 dX11_name_8 ?_
  refine xx_aload_n C 12 rfl 0 dX11_name_11 rfl rfl ?_
  refine xx_getr (fi := 2) C 15 rfl (by decide) (ceX_132 _ _ _) rfl in_X11 (by decide) rfl w_342 dX11_name_12 ?_
  refine xx_iload_n C 16 rfl 1 dX11_name_15 rfl rfl ?_
  refine xx_iload_n C 17 rfl 2 dX11_name_16 rfl rfl ?_
  refine xx_cVi (As := [.int (iI a1), .int (iI a2)]) (st := [.ref (ad 138)]) (o := 134) C 20 rfl (by decide) (ceX_134 _ _ _) rfl rfl ca_X1_giveName cv_X1_giveName w_520 rfl ⟨Nat.le_of_ble_eq_true rfl, Nat.le_of_ble_eq_true rfl⟩ ⟨Nat.le_of_ble_eq_true rfl, Nat.le_of_ble_eq_true rfl⟩ (Nat.le_of_ble_eq_true rfl) dX11_name_17 (fun v17 μ17 e9 => c_X1_giveName _ _ _ v17 μ17 e9) h (fun v17 μ17 h => ?_) rfl
  refine xx_cVi (As := [.int (iI v17)]) (st := []) (o := 138) C 23 rfl (by decide) (ceX_138 _ _ _) rfl rfl ca_X3_settle cv_X3_settle w_443 rfl ⟨Nat.le_of_ble_eq_true rfl, Nat.le_of_ble_eq_true rfl⟩ ⟨Nat.le_of_ble_eq_true rfl, Nat.le_of_ble_eq_true rfl⟩ (Nat.le_of_ble_eq_true rfl) dX11_name_20 (fun v20 μ20 e9 => c_X3_settle _ _ v20 μ20 e9) h (fun v20 μ20 h => ?_) rfl
  exact xx_iret C E rfl ⟨Nat.le_of_ble_eq_true rfl, Nat.le_of_ble_eq_true rfl⟩ dX11_name_23 h

def f_X11_drop (μ : mu_T) (a1 : Int) : Option (Int × mu_T) :=
  bd_ (f_X3_keepBefore μ) (fun μ4 => bp_ (f_X1_takeName μ4 a1) (fun v16 μ16 => bp_ (f_X3_settle μ16 v16) (fun v19 μ19 => some (v19, μ19))))
set_option maxHeartbeats 4000000 in
set_option maxRecDepth 100000 in
theorem c_X11_drop {G : gp_} {ad : Nat → Nat} (μ : mu_T) (a1 : Int) (a : Int) (μr : mu_T) (h : f_X11_drop μ a1 = some (a, μr)) : mi_ yX11_drop cX11_drop 2 (some .int) ({ frames := 4, cells := 0, slots := 0, locals := 81 } : Room) G 151 ad (ceX G ad) [.ref (ad 132), .int (iI a1)] μ a μr := by
  refine mi_in (own := "UrnHeap") (lv := [(0, .ref (ad 132)), (1, .int (iI a1))]) (by decide) rfl rfl (Nat.le_of_ble_eq_true rfl) (fun X C E => ?_)
  unfold f_X11_drop at h
  refine xx_aload_n C 1 rfl 0 dX11_drop_0 rfl rfl ?_
  refine xx_getr (fi := 5) C 4 rfl (by decide) (ceX_132 _ _ _) rfl in_X11 (by decide) rfl w_345 dX11_drop_1 ?_
  refine xx_cVv (As := []) (st := []) (o := 138) C 7 rfl (by decide) (ceX_138 _ _ _) rfl rfl ca_X3_keepBefore cv_X3_keepBefore w_407 rfl ⟨Nat.le_of_ble_eq_true rfl, Nat.le_of_ble_eq_true rfl⟩ ⟨Nat.le_of_ble_eq_true rfl, Nat.le_of_ble_eq_true rfl⟩ (Nat.le_of_ble_eq_true rfl) dX11_drop_4 (fun μ4 e9 => c_X3_keepBefore _ μ4 e9) h (fun μ4 h => ?_) rfl
  refine xx_aload_n C 8 rfl 0 dX11_drop_7 rfl rfl ?_
  refine xx_getr (fi := 5) C 11 rfl (by decide) (ceX_132 _ _ _) rfl in_X11 (by decide) rfl w_345 dX11_drop_8 ?_
  refine xx_aload_n C 12 rfl 0 dX11_drop_11 rfl rfl ?_
  refine xx_getr (fi := 2) C 15 rfl (by decide) (ceX_132 _ _ _) rfl in_X11 (by decide) rfl w_342 dX11_drop_12 ?_
  refine xx_iload_n C 16 rfl 1 dX11_drop_15 rfl rfl ?_
  refine xx_cVi (As := [.int (iI a1)]) (st := [.ref (ad 138)]) (o := 134) C 19 rfl (by decide) (ceX_134 _ _ _) rfl rfl ca_X1_takeName cv_X1_takeName w_531 rfl ⟨Nat.le_of_ble_eq_true rfl, Nat.le_of_ble_eq_true rfl⟩ ⟨Nat.le_of_ble_eq_true rfl, Nat.le_of_ble_eq_true rfl⟩ (Nat.le_of_ble_eq_true rfl) dX11_drop_16 (fun v16 μ16 e9 => c_X1_takeName _ _ v16 μ16 e9) h (fun v16 μ16 h => ?_) rfl
  refine xx_cVi (As := [.int (iI v16)]) (st := []) (o := 138) C 22 rfl (by decide) (ceX_138 _ _ _) rfl rfl ca_X3_settle cv_X3_settle w_443 rfl ⟨Nat.le_of_ble_eq_true rfl, Nat.le_of_ble_eq_true rfl⟩ ⟨Nat.le_of_ble_eq_true rfl, Nat.le_of_ble_eq_true rfl⟩ (Nat.le_of_ble_eq_true rfl) dX11_drop_19 (fun v19 μ19 e9 => c_X3_settle _ _ v19 μ19 e9) h (fun v19 μ19 h => ?_) rfl
  exact xx_iret C E rfl ⟨Nat.le_of_ble_eq_true rfl, Nat.le_of_ble_eq_true rfl⟩ dX11_drop_22 h

def f_X11_urnOf (μ : mu_T) (a1 : Int) (a2 : Int) : Option Int :=
  bd_ (f_X2_hasUrn μ a1) (fun v5 => eq_ v5 0
      (some (-11))
      (ts_ a2 [0, 1, 2, 3, 4, 5] [rd_ μ 4 24 a1 (fun v60 => some v60),
      rd_ μ 3 24 a1 (fun v70 => some v70),
      bd_ (f_X2_threadsFrom μ a1) (fun v77 => some v77),
      bd_ (f_X2_holdersOf μ a1) (fun v86 => some v86),
      rd_ μ 2 24 a1 (fun v98 => some v98),
      rd_ μ 5 24 a1 (fun v108 => some v108)]
      (some (-12))))
set_option maxHeartbeats 4000000 in
set_option maxRecDepth 100000 in
theorem c_X11_urnOf {G : gp_} {ad : Nat → Nat} (μ : mu_T) (a1 : Int) (a2 : Int) (a : Int) (h : f_X11_urnOf μ a1 a2 = some a) : mi_ yX11_urnOf cX11_urnOf 3 (some .int) ({ frames := 3, cells := 0, slots := 0, locals := 65 } : Room) G 151 ad (ceX G ad) [.ref (ad 132), .int (iI a1), .int (iI a2)] μ a μ := by
  refine mi_in (own := "UrnHeap") (lv := [(0, .ref (ad 132)), (1, .int (iI a1)), (2, .int (iI a2))]) (by decide) rfl rfl (Nat.le_of_ble_eq_true rfl) (fun X C E => ?_)
  unfold f_X11_urnOf at h
  refine xx_aload_n C 1 rfl 0 dX11_urnOf_0 rfl rfl ?_
  refine xx_getr (fi := 0) C 4 rfl (by decide) (ceX_132 _ _ _) rfl in_X11 (by decide) rfl w_340 dX11_urnOf_1 ?_
  refine xx_iload_n C 5 rfl 1 dX11_urnOf_4 rfl rfl ?_
  refine xx_cVip (As := [.int (iI a1)]) (st := []) (o := 0) C 8 rfl (by decide) (ceX_0 _ _ _) rfl rfl ca_X2_hasUrn cv_X2_hasUrn w_988 rfl ⟨Nat.le_of_ble_eq_true rfl, Nat.le_of_ble_eq_true rfl⟩ ⟨Nat.le_of_ble_eq_true rfl, Nat.le_of_ble_eq_true rfl⟩ (Nat.le_of_ble_eq_true rfl) dX11_urnOf_5 (fun v5 e9 => c_X2_hasUrn _ _ v5 e9) h (fun v5 h => ?_) rfl
  refine xx_if_ne (tgt := 14) C 11 rfl dX11_urnOf_8 (by decide) h (fun h => ?_) (fun h => ?_)
  · refine xx_iload_n C 15 rfl 2 dX11_urnOf_14 rfl rfl ?_
    refine xx_tsw C [0, 1, 2, 3, 4, 5] _ [52, 62, 72, 81, 90, 100] 110 dX11_urnOf_15 (by decide) rfl h (fun h => ?_) ⟨fun h => ?_, fun h => ?_, fun h => ?_, fun h => ?_, fun h => ?_, fun h => ?_, trivial⟩
    · refine xx_bipush C 112 rfl dX11_urnOf_110 (by decide) ?_
      exact xx_iretp C E rfl ⟨Nat.le_of_ble_eq_true rfl, Nat.le_of_ble_eq_true rfl⟩ dX11_urnOf_112 h
    · refine xx_aload_n C 53 rfl 0 dX11_urnOf_52 rfl rfl ?_
      refine xx_getr (fi := 0) C 56 rfl (by decide) (ceX_132 _ _ _) rfl in_X11 (by decide) rfl w_340 dX11_urnOf_53 ?_
      refine xx_getr (fi := 3) C 59 rfl (by decide) (ceX_0 _ _ _) rfl in_X2 (by decide) rfl w_98 dX11_urnOf_56 ?_
      refine xx_iload_n C 60 rfl 1 dX11_urnOf_59 rfl rfl ?_
      refine xx_iaload C 61 rfl (by decide) (fun row => ceX_4 _ _ row) (by decide) dX11_urnOf_60 h (fun v60 h => ?_)
      exact xx_iretp C E rfl ⟨Nat.le_of_ble_eq_true rfl, Nat.le_of_ble_eq_true rfl⟩ dX11_urnOf_61 h
    · refine xx_aload_n C 63 rfl 0 dX11_urnOf_62 rfl rfl ?_
      refine xx_getr (fi := 0) C 66 rfl (by decide) (ceX_132 _ _ _) rfl in_X11 (by decide) rfl w_340 dX11_urnOf_63 ?_
      refine xx_getr (fi := 2) C 69 rfl (by decide) (ceX_0 _ _ _) rfl in_X2 (by decide) rfl w_93 dX11_urnOf_66 ?_
      refine xx_iload_n C 70 rfl 1 dX11_urnOf_69 rfl rfl ?_
      refine xx_iaload C 71 rfl (by decide) (fun row => ceX_3 _ _ row) (by decide) dX11_urnOf_70 h (fun v70 h => ?_)
      exact xx_iretp C E rfl ⟨Nat.le_of_ble_eq_true rfl, Nat.le_of_ble_eq_true rfl⟩ dX11_urnOf_71 h
    · refine xx_aload_n C 73 rfl 0 dX11_urnOf_72 rfl rfl ?_
      refine xx_getr (fi := 0) C 76 rfl (by decide) (ceX_132 _ _ _) rfl in_X11 (by decide) rfl w_340 dX11_urnOf_73 ?_
      refine xx_iload_n C 77 rfl 1 dX11_urnOf_76 rfl rfl ?_
      refine xx_cVip (As := [.int (iI a1)]) (st := []) (o := 0) C 80 rfl (by decide) (ceX_0 _ _ _) rfl rfl ca_X2_threadsFrom cv_X2_threadsFrom w_989 rfl ⟨Nat.le_of_ble_eq_true rfl, Nat.le_of_ble_eq_true rfl⟩ ⟨Nat.le_of_ble_eq_true rfl, Nat.le_of_ble_eq_true rfl⟩ (Nat.le_of_ble_eq_true rfl) dX11_urnOf_77 (fun v77 e9 => c_X2_threadsFrom _ _ v77 e9) h (fun v77 h => ?_) rfl
      exact xx_iretp C E rfl ⟨Nat.le_of_ble_eq_true rfl, Nat.le_of_ble_eq_true rfl⟩ dX11_urnOf_80 h
    · refine xx_aload_n C 82 rfl 0 dX11_urnOf_81 rfl rfl ?_
      refine xx_getr (fi := 0) C 85 rfl (by decide) (ceX_132 _ _ _) rfl in_X11 (by decide) rfl w_340 dX11_urnOf_82 ?_
      refine xx_iload_n C 86 rfl 1 dX11_urnOf_85 rfl rfl ?_
      refine xx_cVip (As := [.int (iI a1)]) (st := []) (o := 0) C 89 rfl (by decide) (ceX_0 _ _ _) rfl rfl ca_X2_holdersOf cv_X2_holdersOf w_994 rfl ⟨Nat.le_of_ble_eq_true rfl, Nat.le_of_ble_eq_true rfl⟩ ⟨Nat.le_of_ble_eq_true rfl, Nat.le_of_ble_eq_true rfl⟩ (Nat.le_of_ble_eq_true rfl) dX11_urnOf_86 (fun v86 e9 => c_X2_holdersOf _ _ v86 e9) h (fun v86 h => ?_) rfl
      exact xx_iretp C E rfl ⟨Nat.le_of_ble_eq_true rfl, Nat.le_of_ble_eq_true rfl⟩ dX11_urnOf_89 h
    · refine xx_aload_n C 91 rfl 0 dX11_urnOf_90 rfl rfl ?_
      refine xx_getr (fi := 0) C 94 rfl (by decide) (ceX_132 _ _ _) rfl in_X11 (by decide) rfl w_340 dX11_urnOf_91 ?_
      refine xx_getr (fi := 1) C 97 rfl (by decide) (ceX_0 _ _ _) rfl in_X2 (by decide) rfl w_88 dX11_urnOf_94 ?_
      refine xx_iload_n C 98 rfl 1 dX11_urnOf_97 rfl rfl ?_
      refine xx_iaload C 99 rfl (by decide) (fun row => ceX_2 _ _ row) (by decide) dX11_urnOf_98 h (fun v98 h => ?_)
      exact xx_iretp C E rfl ⟨Nat.le_of_ble_eq_true rfl, Nat.le_of_ble_eq_true rfl⟩ dX11_urnOf_99 h
    · refine xx_aload_n C 101 rfl 0 dX11_urnOf_100 rfl rfl ?_
      refine xx_getr (fi := 0) C 104 rfl (by decide) (ceX_132 _ _ _) rfl in_X11 (by decide) rfl w_340 dX11_urnOf_101 ?_
      refine xx_getr (fi := 4) C 107 rfl (by decide) (ceX_0 _ _ _) rfl in_X2 (by decide) rfl w_101 dX11_urnOf_104 ?_
      refine xx_iload_n C 108 rfl 1 dX11_urnOf_107 rfl rfl ?_
      refine xx_iaload C 109 rfl (by decide) (fun row => ceX_5 _ _ row) (by decide) dX11_urnOf_108 h (fun v108 h => ?_)
      exact xx_iretp C E rfl ⟨Nat.le_of_ble_eq_true rfl, Nat.le_of_ble_eq_true rfl⟩ dX11_urnOf_109 h
  · refine xx_bipush C 13 rfl dX11_urnOf_11 (by decide) ?_
    exact xx_iretp C E rfl ⟨Nat.le_of_ble_eq_true rfl, Nat.le_of_ble_eq_true rfl⟩ dX11_urnOf_13 h

def f_X11_threadOf (μ : mu_T) (a1 : Int) (a2 : Int) : Option Int :=
  bd_ (f_X2_hasUrn μ a1) (fun v5 => eq_ v5 0
      (some (-11))
      (bd_ (f_X11_isSlot μ a2) (fun v12 => eq_ v12 0
      (some (-11))
      (bd_ (f_X2_target μ a1 a2) (fun v27 => some v27)))))
set_option maxHeartbeats 4000000 in
set_option maxRecDepth 100000 in
theorem c_X11_threadOf {G : gp_} {ad : Nat → Nat} (μ : mu_T) (a1 : Int) (a2 : Int) (a : Int) (h : f_X11_threadOf μ a1 a2 = some a) : mi_ yX11_threadOf cX11_threadOf 3 (some .int) ({ frames := 2, cells := 0, slots := 0, locals := 42 } : Room) G 151 ad (ceX G ad) [.ref (ad 132), .int (iI a1), .int (iI a2)] μ a μ := by
  refine mi_in (own := "UrnHeap") (lv := [(0, .ref (ad 132)), (1, .int (iI a1)), (2, .int (iI a2))]) (by decide) rfl rfl (Nat.le_of_ble_eq_true rfl) (fun X C E => ?_)
  unfold f_X11_threadOf at h
  refine xx_aload_n C 1 rfl 0 dX11_threadOf_0 rfl rfl ?_
  refine xx_getr (fi := 0) C 4 rfl (by decide) (ceX_132 _ _ _) rfl in_X11 (by decide) rfl w_340 dX11_threadOf_1 ?_
  refine xx_iload_n C 5 rfl 1 dX11_threadOf_4 rfl rfl ?_
  refine xx_cVip (As := [.int (iI a1)]) (st := []) (o := 0) C 8 rfl (by decide) (ceX_0 _ _ _) rfl rfl ca_X2_hasUrn cv_X2_hasUrn w_988 rfl ⟨Nat.le_of_ble_eq_true rfl, Nat.le_of_ble_eq_true rfl⟩ ⟨Nat.le_of_ble_eq_true rfl, Nat.le_of_ble_eq_true rfl⟩ (Nat.le_of_ble_eq_true rfl) dX11_threadOf_5 (fun v5 e9 => c_X2_hasUrn _ _ v5 e9) h (fun v5 h => ?_) rfl
  refine xx_if_eq (tgt := 18) C 11 rfl dX11_threadOf_8 (by decide) h (fun h => ?_) (fun h => ?_)
  · refine xx_bipush C 20 rfl dX11_threadOf_18 (by decide) ?_
    exact xx_iretp C E rfl ⟨Nat.le_of_ble_eq_true rfl, Nat.le_of_ble_eq_true rfl⟩ dX11_threadOf_20 h
  · refine xx_iload_n C 12 rfl 2 dX11_threadOf_11 rfl rfl ?_
    refine xx_cSip (As := [.int (iI a2)]) (st := []) C 15 rfl  ca_X11_isSlot cs_X11_isSlot w_1002 rfl ⟨Nat.le_of_ble_eq_true rfl, Nat.le_of_ble_eq_true rfl⟩ ⟨Nat.le_of_ble_eq_true rfl, Nat.le_of_ble_eq_true rfl⟩ (Nat.le_of_ble_eq_true rfl) dX11_threadOf_12 (fun v12 e9 => c_X11_isSlot _ _ v12 e9) h (fun v12 h => ?_) rfl
    refine xx_if_ne (tgt := 21) C 18 rfl dX11_threadOf_15 (by decide) h (fun h => ?_) (fun h => ?_)
    · refine xx_aload_n C 22 rfl 0 dX11_threadOf_21 rfl rfl ?_
      refine xx_getr (fi := 0) C 25 rfl (by decide) (ceX_132 _ _ _) rfl in_X11 (by decide) rfl w_340 dX11_threadOf_22 ?_
      refine xx_iload_n C 26 rfl 1 dX11_threadOf_25 rfl rfl ?_
      refine xx_iload_n C 27 rfl 2 dX11_threadOf_26 rfl rfl ?_
      refine xx_cVip (As := [.int (iI a1), .int (iI a2)]) (st := []) (o := 0) C 30 rfl (by decide) (ceX_0 _ _ _) rfl rfl ca_X2_target cv_X2_target w_1003 rfl ⟨Nat.le_of_ble_eq_true rfl, Nat.le_of_ble_eq_true rfl⟩ ⟨Nat.le_of_ble_eq_true rfl, Nat.le_of_ble_eq_true rfl⟩ (Nat.le_of_ble_eq_true rfl) dX11_threadOf_27 (fun v27 e9 => c_X2_target _ _ _ v27 e9) h (fun v27 h => ?_) rfl
      exact xx_iretp C E rfl ⟨Nat.le_of_ble_eq_true rfl, Nat.le_of_ble_eq_true rfl⟩ dX11_threadOf_30 h
    · refine xx_bipush C 20 rfl dX11_threadOf_18 (by decide) ?_
      exact xx_iretp C E rfl ⟨Nat.le_of_ble_eq_true rfl, Nat.le_of_ble_eq_true rfl⟩ dX11_threadOf_20 h

def f_X11_named (μ : mu_T) (a1 : Int) : Option Int :=
  bd_ (f_X11_isName μ a1) (fun v1 => eq_ v1 0
      (some (-11))
      (rd_ μ 6 6 a1 (fun v15 => some v15)))
set_option maxHeartbeats 4000000 in
set_option maxRecDepth 100000 in
theorem c_X11_named {G : gp_} {ad : Nat → Nat} (μ : mu_T) (a1 : Int) (a : Int) (h : f_X11_named μ a1 = some a) : mi_ yX11_named cX11_named 2 (some .int) ({ frames := 1, cells := 0, slots := 0, locals := 20 } : Room) G 151 ad (ceX G ad) [.ref (ad 132), .int (iI a1)] μ a μ := by
  refine mi_in (own := "UrnHeap") (lv := [(0, .ref (ad 132)), (1, .int (iI a1))]) (by decide) rfl rfl (Nat.le_of_ble_eq_true rfl) (fun X C E => ?_)
  unfold f_X11_named at h
  refine xx_iload_n C 1 rfl 1 dX11_named_0 rfl rfl ?_
  refine xx_cSip (As := [.int (iI a1)]) (st := []) C 4 rfl  ca_X11_isName cs_X11_isName w_1008 rfl ⟨Nat.le_of_ble_eq_true rfl, Nat.le_of_ble_eq_true rfl⟩ ⟨Nat.le_of_ble_eq_true rfl, Nat.le_of_ble_eq_true rfl⟩ (Nat.le_of_ble_eq_true rfl) dX11_named_1 (fun v1 e9 => c_X11_isName _ _ v1 e9) h (fun v1 h => ?_) rfl
  refine xx_if_eq (tgt := 19) C 7 rfl dX11_named_4 (by decide) h (fun h => ?_) (fun h => ?_)
  · refine xx_bipush C 21 rfl dX11_named_19 (by decide) ?_
    exact xx_iretp C E rfl ⟨Nat.le_of_ble_eq_true rfl, Nat.le_of_ble_eq_true rfl⟩ dX11_named_21 h
  · refine xx_aload_n C 8 rfl 0 dX11_named_7 rfl rfl ?_
    refine xx_getr (fi := 0) C 11 rfl (by decide) (ceX_132 _ _ _) rfl in_X11 (by decide) rfl w_340 dX11_named_8 ?_
    refine xx_getr (fi := 5) C 14 rfl (by decide) (ceX_0 _ _ _) rfl in_X2 (by decide) rfl w_106 dX11_named_11 ?_
    refine xx_iload_n C 15 rfl 1 dX11_named_14 rfl rfl ?_
    refine xx_iaload C 16 rfl (by decide) (fun row => ceX_6 _ _ row) (by decide) dX11_named_15 h (fun v15 h => ?_)
    refine xx_goto C 21 dX11_named_16 (by decide) ?_
    exact xx_iretp C E rfl ⟨Nat.le_of_ble_eq_true rfl, Nat.le_of_ble_eq_true rfl⟩ dX11_named_21 h

def f_X11_begin (μ : mu_T)  : Option (Int × mu_T) :=
  bd_ (f_X3_keepBefore μ) (fun μ4 => bp_ (f_X10_beginRound μ4) (fun v15 μ15 => bp_ (f_X3_settle μ15 v15) (fun v18 μ18 => some (v18, μ18))))
set_option maxHeartbeats 4000000 in
set_option maxRecDepth 100000 in
theorem c_X11_begin {G : gp_} {ad : Nat → Nat} (μ : mu_T)  (a : Int) (μr : mu_T) (h : f_X11_begin μ  = some (a, μr)) : mi_ yX11_begin cX11_begin 1 (some .int) ({ frames := 4, cells := 0, slots := 0, locals := 83 } : Room) G 151 ad (ceX G ad) [.ref (ad 132)] μ a μr := by
  refine mi_in (own := "UrnHeap") (lv := [(0, .ref (ad 132))]) (by decide) rfl rfl (Nat.le_of_ble_eq_true rfl) (fun X C E => ?_)
  unfold f_X11_begin at h
  refine xx_aload_n C 1 rfl 0 dX11_begin_0 rfl rfl ?_
  refine xx_getr (fi := 5) C 4 rfl (by decide) (ceX_132 _ _ _) rfl in_X11 (by decide) rfl w_345 dX11_begin_1 ?_
  refine xx_cVv (As := []) (st := []) (o := 138) C 7 rfl (by decide) (ceX_138 _ _ _) rfl rfl ca_X3_keepBefore cv_X3_keepBefore w_407 rfl ⟨Nat.le_of_ble_eq_true rfl, Nat.le_of_ble_eq_true rfl⟩ ⟨Nat.le_of_ble_eq_true rfl, Nat.le_of_ble_eq_true rfl⟩ (Nat.le_of_ble_eq_true rfl) dX11_begin_4 (fun μ4 e9 => c_X3_keepBefore _ μ4 e9) h (fun μ4 h => ?_) rfl
  refine xx_aload_n C 8 rfl 0 dX11_begin_7 rfl rfl ?_
  refine xx_getr (fi := 5) C 11 rfl (by decide) (ceX_132 _ _ _) rfl in_X11 (by decide) rfl w_345 dX11_begin_8 ?_
  refine xx_aload_n C 12 rfl 0 dX11_begin_11 rfl rfl ?_
  refine xx_getr (fi := 3) C 15 rfl (by decide) (ceX_132 _ _ _) rfl in_X11 (by decide) rfl w_343 dX11_begin_12 ?_
  refine xx_cVi (As := []) (st := [.ref (ad 138)]) (o := 135) C 18 rfl (by decide) (ceX_135 _ _ _) rfl rfl ca_X10_beginRound cv_X10_beginRound w_539 rfl ⟨Nat.le_of_ble_eq_true rfl, Nat.le_of_ble_eq_true rfl⟩ ⟨Nat.le_of_ble_eq_true rfl, Nat.le_of_ble_eq_true rfl⟩ (Nat.le_of_ble_eq_true rfl) dX11_begin_15 (fun v15 μ15 e9 => c_X10_beginRound _ v15 μ15 e9) h (fun v15 μ15 h => ?_) rfl
  refine xx_cVi (As := [.int (iI v15)]) (st := []) (o := 138) C 21 rfl (by decide) (ceX_138 _ _ _) rfl rfl ca_X3_settle cv_X3_settle w_443 rfl ⟨Nat.le_of_ble_eq_true rfl, Nat.le_of_ble_eq_true rfl⟩ ⟨Nat.le_of_ble_eq_true rfl, Nat.le_of_ble_eq_true rfl⟩ (Nat.le_of_ble_eq_true rfl) dX11_begin_18 (fun v18 μ18 e9 => c_X3_settle _ _ v18 μ18 e9) h (fun v18 μ18 h => ?_) rfl
  exact xx_iret C E rfl ⟨Nat.le_of_ble_eq_true rfl, Nat.le_of_ble_eq_true rfl⟩ dX11_begin_21 h

def f_X11_step (μ : mu_T) (a1 : Int) : Option (Int × mu_T) :=
  bd_ (f_X3_keepBefore μ) (fun μ4 => bp_ (f_X10_doParts μ4 a1) (fun v16 μ16 => bp_ (f_X3_settle μ16 v16) (fun v19 μ19 => some (v19, μ19))))
set_option maxHeartbeats 4000000 in
set_option maxRecDepth 100000 in
theorem c_X11_step {G : gp_} {ad : Nat → Nat} (μ : mu_T) (a1 : Int) (a : Int) (μr : mu_T) (h : f_X11_step μ a1 = some (a, μr)) : mi_ yX11_step cX11_step 2 (some .int) ({ frames := 5, cells := 0, slots := 0, locals := 108 } : Room) G 151 ad (ceX G ad) [.ref (ad 132), .int (iI a1)] μ a μr := by
  refine mi_in (own := "UrnHeap") (lv := [(0, .ref (ad 132)), (1, .int (iI a1))]) (by decide) rfl rfl (Nat.le_of_ble_eq_true rfl) (fun X C E => ?_)
  unfold f_X11_step at h
  refine xx_aload_n C 1 rfl 0 dX11_step_0 rfl rfl ?_
  refine xx_getr (fi := 5) C 4 rfl (by decide) (ceX_132 _ _ _) rfl in_X11 (by decide) rfl w_345 dX11_step_1 ?_
  refine xx_cVv (As := []) (st := []) (o := 138) C 7 rfl (by decide) (ceX_138 _ _ _) rfl rfl ca_X3_keepBefore cv_X3_keepBefore w_407 rfl ⟨Nat.le_of_ble_eq_true rfl, Nat.le_of_ble_eq_true rfl⟩ ⟨Nat.le_of_ble_eq_true rfl, Nat.le_of_ble_eq_true rfl⟩ (Nat.le_of_ble_eq_true rfl) dX11_step_4 (fun μ4 e9 => c_X3_keepBefore _ μ4 e9) h (fun μ4 h => ?_) rfl
  refine xx_aload_n C 8 rfl 0 dX11_step_7 rfl rfl ?_
  refine xx_getr (fi := 5) C 11 rfl (by decide) (ceX_132 _ _ _) rfl in_X11 (by decide) rfl w_345 dX11_step_8 ?_
  refine xx_aload_n C 12 rfl 0 dX11_step_11 rfl rfl ?_
  refine xx_getr (fi := 3) C 15 rfl (by decide) (ceX_132 _ _ _) rfl in_X11 (by decide) rfl w_343 dX11_step_12 ?_
  refine xx_iload_n C 16 rfl 1 dX11_step_15 rfl rfl ?_
  refine xx_cVi (As := [.int (iI a1)]) (st := [.ref (ad 138)]) (o := 135) C 19 rfl (by decide) (ceX_135 _ _ _) rfl rfl ca_X10_doParts cv_X10_doParts w_557 rfl ⟨Nat.le_of_ble_eq_true rfl, Nat.le_of_ble_eq_true rfl⟩ ⟨Nat.le_of_ble_eq_true rfl, Nat.le_of_ble_eq_true rfl⟩ (Nat.le_of_ble_eq_true rfl) dX11_step_16 (fun v16 μ16 e9 => c_X10_doParts _ _ v16 μ16 e9) h (fun v16 μ16 h => ?_) rfl
  refine xx_cVi (As := [.int (iI v16)]) (st := []) (o := 138) C 22 rfl (by decide) (ceX_138 _ _ _) rfl rfl ca_X3_settle cv_X3_settle w_443 rfl ⟨Nat.le_of_ble_eq_true rfl, Nat.le_of_ble_eq_true rfl⟩ ⟨Nat.le_of_ble_eq_true rfl, Nat.le_of_ble_eq_true rfl⟩ (Nat.le_of_ble_eq_true rfl) dX11_step_19 (fun v19 μ19 e9 => c_X3_settle _ _ v19 μ19 e9) h (fun v19 μ19 h => ?_) rfl
  exact xx_iret C E rfl ⟨Nat.le_of_ble_eq_true rfl, Nat.le_of_ble_eq_true rfl⟩ dX11_step_22 h

def f_X11_round (μ : mu_T)  : Option (Int × mu_T) :=
  bd_ (f_X3_keepBefore μ) (fun μ4 => bp_ (f_X10_endRound μ4) (fun v15 μ15 => bp_ (f_X3_settle μ15 v15) (fun v18 μ18 => some (v18, μ18))))
set_option maxHeartbeats 4000000 in
set_option maxRecDepth 100000 in
theorem c_X11_round {G : gp_} {ad : Nat → Nat} (μ : mu_T)  (a : Int) (μr : mu_T) (h : f_X11_round μ  = some (a, μr)) : mi_ yX11_round cX11_round 1 (some .int) ({ frames := 5, cells := 0, slots := 0, locals := 108 } : Room) G 151 ad (ceX G ad) [.ref (ad 132)] μ a μr := by
  refine mi_in (own := "UrnHeap") (lv := [(0, .ref (ad 132))]) (by decide) rfl rfl (Nat.le_of_ble_eq_true rfl) (fun X C E => ?_)
  unfold f_X11_round at h
  refine xx_aload_n C 1 rfl 0 dX11_round_0 rfl rfl ?_
  refine xx_getr (fi := 5) C 4 rfl (by decide) (ceX_132 _ _ _) rfl in_X11 (by decide) rfl w_345 dX11_round_1 ?_
  refine xx_cVv (As := []) (st := []) (o := 138) C 7 rfl (by decide) (ceX_138 _ _ _) rfl rfl ca_X3_keepBefore cv_X3_keepBefore w_407 rfl ⟨Nat.le_of_ble_eq_true rfl, Nat.le_of_ble_eq_true rfl⟩ ⟨Nat.le_of_ble_eq_true rfl, Nat.le_of_ble_eq_true rfl⟩ (Nat.le_of_ble_eq_true rfl) dX11_round_4 (fun μ4 e9 => c_X3_keepBefore _ μ4 e9) h (fun μ4 h => ?_) rfl
  refine xx_aload_n C 8 rfl 0 dX11_round_7 rfl rfl ?_
  refine xx_getr (fi := 5) C 11 rfl (by decide) (ceX_132 _ _ _) rfl in_X11 (by decide) rfl w_345 dX11_round_8 ?_
  refine xx_aload_n C 12 rfl 0 dX11_round_11 rfl rfl ?_
  refine xx_getr (fi := 3) C 15 rfl (by decide) (ceX_132 _ _ _) rfl in_X11 (by decide) rfl w_343 dX11_round_12 ?_
  refine xx_cVi (As := []) (st := [.ref (ad 138)]) (o := 135) C 18 rfl (by decide) (ceX_135 _ _ _) rfl rfl ca_X10_endRound cv_X10_endRound w_602 rfl ⟨Nat.le_of_ble_eq_true rfl, Nat.le_of_ble_eq_true rfl⟩ ⟨Nat.le_of_ble_eq_true rfl, Nat.le_of_ble_eq_true rfl⟩ (Nat.le_of_ble_eq_true rfl) dX11_round_15 (fun v15 μ15 e9 => c_X10_endRound _ v15 μ15 e9) h (fun v15 μ15 h => ?_) rfl
  refine xx_cVi (As := [.int (iI v15)]) (st := []) (o := 138) C 21 rfl (by decide) (ceX_138 _ _ _) rfl rfl ca_X3_settle cv_X3_settle w_443 rfl ⟨Nat.le_of_ble_eq_true rfl, Nat.le_of_ble_eq_true rfl⟩ ⟨Nat.le_of_ble_eq_true rfl, Nat.le_of_ble_eq_true rfl⟩ (Nat.le_of_ble_eq_true rfl) dX11_round_18 (fun v18 μ18 e9 => c_X3_settle _ _ v18 μ18 e9) h (fun v18 μ18 h => ?_) rfl
  exact xx_iret C E rfl ⟨Nat.le_of_ble_eq_true rfl, Nat.le_of_ble_eq_true rfl⟩ dX11_round_21 h

def f_X11_rite (μ : mu_T)  : Option (Int × mu_T) :=
  bd_ (f_X3_keepBefore μ) (fun μ4 => bp_ (f_X10_doRite μ4) (fun v15 μ15 => bp_ (f_X3_settle μ15 v15) (fun v18 μ18 => some (v18, μ18))))
set_option maxHeartbeats 4000000 in
set_option maxRecDepth 100000 in
theorem c_X11_rite {G : gp_} {ad : Nat → Nat} (μ : mu_T)  (a : Int) (μr : mu_T) (h : f_X11_rite μ  = some (a, μr)) : mi_ yX11_rite cX11_rite 1 (some .int) ({ frames := 4, cells := 0, slots := 0, locals := 81 } : Room) G 151 ad (ceX G ad) [.ref (ad 132)] μ a μr := by
  refine mi_in (own := "UrnHeap") (lv := [(0, .ref (ad 132))]) (by decide) rfl rfl (Nat.le_of_ble_eq_true rfl) (fun X C E => ?_)
  unfold f_X11_rite at h
  refine xx_aload_n C 1 rfl 0 dX11_rite_0 rfl rfl ?_
  refine xx_getr (fi := 5) C 4 rfl (by decide) (ceX_132 _ _ _) rfl in_X11 (by decide) rfl w_345 dX11_rite_1 ?_
  refine xx_cVv (As := []) (st := []) (o := 138) C 7 rfl (by decide) (ceX_138 _ _ _) rfl rfl ca_X3_keepBefore cv_X3_keepBefore w_407 rfl ⟨Nat.le_of_ble_eq_true rfl, Nat.le_of_ble_eq_true rfl⟩ ⟨Nat.le_of_ble_eq_true rfl, Nat.le_of_ble_eq_true rfl⟩ (Nat.le_of_ble_eq_true rfl) dX11_rite_4 (fun μ4 e9 => c_X3_keepBefore _ μ4 e9) h (fun μ4 h => ?_) rfl
  refine xx_aload_n C 8 rfl 0 dX11_rite_7 rfl rfl ?_
  refine xx_getr (fi := 5) C 11 rfl (by decide) (ceX_132 _ _ _) rfl in_X11 (by decide) rfl w_345 dX11_rite_8 ?_
  refine xx_aload_n C 12 rfl 0 dX11_rite_11 rfl rfl ?_
  refine xx_getr (fi := 3) C 15 rfl (by decide) (ceX_132 _ _ _) rfl in_X11 (by decide) rfl w_343 dX11_rite_12 ?_
  refine xx_cVi (As := []) (st := [.ref (ad 138)]) (o := 135) C 18 rfl (by decide) (ceX_135 _ _ _) rfl rfl ca_X10_doRite cv_X10_doRite w_610 rfl ⟨Nat.le_of_ble_eq_true rfl, Nat.le_of_ble_eq_true rfl⟩ ⟨Nat.le_of_ble_eq_true rfl, Nat.le_of_ble_eq_true rfl⟩ (Nat.le_of_ble_eq_true rfl) dX11_rite_15 (fun v15 μ15 e9 => c_X10_doRite _ v15 μ15 e9) h (fun v15 μ15 h => ?_) rfl
  refine xx_cVi (As := [.int (iI v15)]) (st := []) (o := 138) C 21 rfl (by decide) (ceX_138 _ _ _) rfl rfl ca_X3_settle cv_X3_settle w_443 rfl ⟨Nat.le_of_ble_eq_true rfl, Nat.le_of_ble_eq_true rfl⟩ ⟨Nat.le_of_ble_eq_true rfl, Nat.le_of_ble_eq_true rfl⟩ (Nat.le_of_ble_eq_true rfl) dX11_rite_18 (fun v18 μ18 e9 => c_X3_settle _ _ v18 μ18 e9) h (fun v18 μ18 h => ?_) rfl
  exact xx_iret C E rfl ⟨Nat.le_of_ble_eq_true rfl, Nat.le_of_ble_eq_true rfl⟩ dX11_rite_21 h

def f_X11_due (μ : mu_T) (a1 : Int) : Option Int :=
  bd_ (f_X9_at_o10 μ a1) (fun v8 => some v8)
set_option maxHeartbeats 4000000 in
set_option maxRecDepth 100000 in
theorem c_X11_due {G : gp_} {ad : Nat → Nat} (μ : mu_T) (a1 : Int) (a : Int) (h : f_X11_due μ a1 = some a) : mi_ yX11_due cX11_due 2 (some .int) ({ frames := 1, cells := 0, slots := 0, locals := 21 } : Room) G 151 ad (ceX G ad) [.ref (ad 132), .int (iI a1)] μ a μ := by
  refine mi_in (own := "UrnHeap") (lv := [(0, .ref (ad 132)), (1, .int (iI a1))]) (by decide) rfl rfl (Nat.le_of_ble_eq_true rfl) (fun X C E => ?_)
  unfold f_X11_due at h
  refine xx_aload_n C 1 rfl 0 dX11_due_0 rfl rfl ?_
  refine xx_getr (fi := 0) C 4 rfl (by decide) (ceX_132 _ _ _) rfl in_X11 (by decide) rfl w_340 dX11_due_1 ?_
  refine xx_getr (fi := 8) C 7 rfl (by decide) (ceX_0 _ _ _) rfl in_X2 (by decide) rfl w_113 dX11_due_4 ?_
  refine xx_iload_n C 8 rfl 1 dX11_due_7 rfl rfl ?_
  refine xx_cVip (As := [.int (iI a1)]) (st := []) (o := 10) C 11 rfl (by decide) (ceX_10 _ _ _) rfl rfl ca_X9_at cv_X9_at w_970 rfl ⟨Nat.le_of_ble_eq_true rfl, Nat.le_of_ble_eq_true rfl⟩ ⟨Nat.le_of_ble_eq_true rfl, Nat.le_of_ble_eq_true rfl⟩ (Nat.le_of_ble_eq_true rfl) dX11_due_8 (fun v8 e9 => c_X9_at_o10 _ _ v8 e9) h (fun v8 h => ?_) rfl
  exact xx_iretp C E rfl ⟨Nat.le_of_ble_eq_true rfl, Nat.le_of_ble_eq_true rfl⟩ dX11_due_11 h

def f_X11_grey (μ : mu_T) (a1 : Int) : Option Int :=
  bd_ (f_X9_at μ a1) (fun v8 => some v8)
set_option maxHeartbeats 4000000 in
set_option maxRecDepth 100000 in
theorem c_X11_grey {G : gp_} {ad : Nat → Nat} (μ : mu_T) (a1 : Int) (a : Int) (h : f_X11_grey μ a1 = some a) : mi_ yX11_grey cX11_grey 2 (some .int) ({ frames := 1, cells := 0, slots := 0, locals := 21 } : Room) G 151 ad (ceX G ad) [.ref (ad 132), .int (iI a1)] μ a μ := by
  refine mi_in (own := "UrnHeap") (lv := [(0, .ref (ad 132)), (1, .int (iI a1))]) (by decide) rfl rfl (Nat.le_of_ble_eq_true rfl) (fun X C E => ?_)
  unfold f_X11_grey at h
  refine xx_aload_n C 1 rfl 0 dX11_grey_0 rfl rfl ?_
  refine xx_getr (fi := 0) C 4 rfl (by decide) (ceX_132 _ _ _) rfl in_X11 (by decide) rfl w_340 dX11_grey_1 ?_
  refine xx_getr (fi := 7) C 7 rfl (by decide) (ceX_0 _ _ _) rfl in_X2 (by decide) rfl w_110 dX11_grey_4 ?_
  refine xx_iload_n C 8 rfl 1 dX11_grey_7 rfl rfl ?_
  refine xx_cVip (As := [.int (iI a1)]) (st := []) (o := 8) C 11 rfl (by decide) (ceX_8 _ _ _) rfl rfl ca_X9_at cv_X9_at w_970 rfl ⟨Nat.le_of_ble_eq_true rfl, Nat.le_of_ble_eq_true rfl⟩ ⟨Nat.le_of_ble_eq_true rfl, Nat.le_of_ble_eq_true rfl⟩ (Nat.le_of_ble_eq_true rfl) dX11_grey_8 (fun v8 e9 => c_X9_at _ _ v8 e9) h (fun v8 h => ?_) rfl
  exact xx_iretp C E rfl ⟨Nat.le_of_ble_eq_true rfl, Nat.le_of_ble_eq_true rfl⟩ dX11_grey_11 h

def f_X11_freed (μ : mu_T) (a1 : Int) : Option Int :=
  bd_ (f_X2_freedLate μ a1) (fun v5 => some v5)
set_option maxHeartbeats 4000000 in
set_option maxRecDepth 100000 in
theorem c_X11_freed {G : gp_} {ad : Nat → Nat} (μ : mu_T) (a1 : Int) (a : Int) (h : f_X11_freed μ a1 = some a) : mi_ yX11_freed cX11_freed 2 (some .int) ({ frames := 1, cells := 0, slots := 0, locals := 21 } : Room) G 151 ad (ceX G ad) [.ref (ad 132), .int (iI a1)] μ a μ := by
  refine mi_in (own := "UrnHeap") (lv := [(0, .ref (ad 132)), (1, .int (iI a1))]) (by decide) rfl rfl (Nat.le_of_ble_eq_true rfl) (fun X C E => ?_)
  unfold f_X11_freed at h
  refine xx_aload_n C 1 rfl 0 dX11_freed_0 rfl rfl ?_
  refine xx_getr (fi := 0) C 4 rfl (by decide) (ceX_132 _ _ _) rfl in_X11 (by decide) rfl w_340 dX11_freed_1 ?_
  refine xx_iload_n C 5 rfl 1 dX11_freed_4 rfl rfl ?_
  refine xx_cVip (As := [.int (iI a1)]) (st := []) (o := 0) C 8 rfl (by decide) (ceX_0 _ _ _) rfl rfl ca_X2_freedLate cv_X2_freedLate w_980 rfl ⟨Nat.le_of_ble_eq_true rfl, Nat.le_of_ble_eq_true rfl⟩ ⟨Nat.le_of_ble_eq_true rfl, Nat.le_of_ble_eq_true rfl⟩ (Nat.le_of_ble_eq_true rfl) dX11_freed_5 (fun v5 e9 => c_X2_freedLate _ _ v5 e9) h (fun v5 h => ?_) rfl
  exact xx_iretp C E rfl ⟨Nat.le_of_ble_eq_true rfl, Nat.le_of_ble_eq_true rfl⟩ dX11_freed_8 h

def f_X11_live (μ : mu_T)  : Option Int :=
  bd_ (f_X7_reach μ) (fun v4 => some v4)
set_option maxHeartbeats 4000000 in
set_option maxRecDepth 100000 in
theorem c_X11_live {G : gp_} {ad : Nat → Nat} (μ : mu_T)  (a : Int) (h : f_X11_live μ  = some a) : mi_ yX11_live cX11_live 1 (some .int) ({ frames := 6, cells := 0, slots := 0, locals := 132 } : Room) G 151 ad (ceX G ad) [.ref (ad 132)] μ a μ := by
  refine mi_in (own := "UrnHeap") (lv := [(0, .ref (ad 132))]) (by decide) rfl rfl (Nat.le_of_ble_eq_true rfl) (fun X C E => ?_)
  unfold f_X11_live at h
  refine xx_aload_n C 1 rfl 0 dX11_live_0 rfl rfl ?_
  refine xx_getr (fi := 4) C 4 rfl (by decide) (ceX_132 _ _ _) rfl in_X11 (by decide) rfl w_344 dX11_live_1 ?_
  refine xx_cVip (As := []) (st := []) (o := 136) C 7 rfl (by decide) (ceX_136 _ _ _) rfl rfl ca_X7_reach cv_X7_reach w_1016 rfl ⟨Nat.le_of_ble_eq_true rfl, Nat.le_of_ble_eq_true rfl⟩ ⟨Nat.le_of_ble_eq_true rfl, Nat.le_of_ble_eq_true rfl⟩ (Nat.le_of_ble_eq_true rfl) dX11_live_4 (fun v4 e9 => c_X7_reach _ v4 e9) h (fun v4 h => ?_) rfl
  exact xx_iretp C E rfl ⟨Nat.le_of_ble_eq_true rfl, Nat.le_of_ble_eq_true rfl⟩ dX11_live_7 h

def f_X11_liveAgain (μ : mu_T)  : Option Int :=
  bd_ (f_X7_reachUrnByUrn μ) (fun v4 => some v4)
set_option maxHeartbeats 4000000 in
set_option maxRecDepth 100000 in
theorem c_X11_liveAgain {G : gp_} {ad : Nat → Nat} (μ : mu_T)  (a : Int) (h : f_X11_liveAgain μ  = some a) : mi_ yX11_liveAgain cX11_liveAgain 1 (some .int) ({ frames := 5, cells := 0, slots := 0, locals := 110 } : Room) G 151 ad (ceX G ad) [.ref (ad 132)] μ a μ := by
  refine mi_in (own := "UrnHeap") (lv := [(0, .ref (ad 132))]) (by decide) rfl rfl (Nat.le_of_ble_eq_true rfl) (fun X C E => ?_)
  unfold f_X11_liveAgain at h
  refine xx_aload_n C 1 rfl 0 dX11_liveAgain_0 rfl rfl ?_
  refine xx_getr (fi := 4) C 4 rfl (by decide) (ceX_132 _ _ _) rfl in_X11 (by decide) rfl w_344 dX11_liveAgain_1 ?_
  refine xx_cVip (As := []) (st := []) (o := 136) C 7 rfl (by decide) (ceX_136 _ _ _) rfl rfl ca_X7_reachUrnByUrn cv_X7_reachUrnByUrn w_1104 rfl ⟨Nat.le_of_ble_eq_true rfl, Nat.le_of_ble_eq_true rfl⟩ ⟨Nat.le_of_ble_eq_true rfl, Nat.le_of_ble_eq_true rfl⟩ (Nat.le_of_ble_eq_true rfl) dX11_liveAgain_4 (fun v4 e9 => c_X7_reachUrnByUrn _ v4 e9) h (fun v4 h => ?_) rfl
  exact xx_iretp C E rfl ⟨Nat.le_of_ble_eq_true rfl, Nat.le_of_ble_eq_true rfl⟩ dX11_liveAgain_7 h

def f_X11_depth (μ : mu_T) (a1 : Int) : Option Int :=
  bd_ (f_X2_hasUrn μ a1) (fun v5 => eq_ v5 0
      (some (-11))
      (bd_ (f_X7_roots μ (-15)) (fun v21 => bd_ (f_X7_distance μ v21 a1) (fun v25 => some v25))))
set_option maxHeartbeats 4000000 in
set_option maxRecDepth 100000 in
theorem c_X11_depth {G : gp_} {ad : Nat → Nat} (μ : mu_T) (a1 : Int) (a : Int) (h : f_X11_depth μ a1 = some a) : mi_ yX11_depth cX11_depth 2 (some .int) ({ frames := 5, cells := 0, slots := 0, locals := 113 } : Room) G 151 ad (ceX G ad) [.ref (ad 132), .int (iI a1)] μ a μ := by
  refine mi_in (own := "UrnHeap") (lv := [(0, .ref (ad 132)), (1, .int (iI a1))]) (by decide) rfl rfl (Nat.le_of_ble_eq_true rfl) (fun X C E => ?_)
  unfold f_X11_depth at h
  refine xx_aload_n C 1 rfl 0 dX11_depth_0 rfl rfl ?_
  refine xx_getr (fi := 0) C 4 rfl (by decide) (ceX_132 _ _ _) rfl in_X11 (by decide) rfl w_340 dX11_depth_1 ?_
  refine xx_iload_n C 5 rfl 1 dX11_depth_4 rfl rfl ?_
  refine xx_cVip (As := [.int (iI a1)]) (st := []) (o := 0) C 8 rfl (by decide) (ceX_0 _ _ _) rfl rfl ca_X2_hasUrn cv_X2_hasUrn w_988 rfl ⟨Nat.le_of_ble_eq_true rfl, Nat.le_of_ble_eq_true rfl⟩ ⟨Nat.le_of_ble_eq_true rfl, Nat.le_of_ble_eq_true rfl⟩ (Nat.le_of_ble_eq_true rfl) dX11_depth_5 (fun v5 e9 => c_X2_hasUrn _ _ v5 e9) h (fun v5 h => ?_) rfl
  refine xx_if_eq (tgt := 31) C 11 rfl dX11_depth_8 (by decide) h (fun h => ?_) (fun h => ?_)
  · refine xx_bipush C 33 rfl dX11_depth_31 (by decide) ?_
    exact xx_iretp C E rfl ⟨Nat.le_of_ble_eq_true rfl, Nat.le_of_ble_eq_true rfl⟩ dX11_depth_33 h
  · refine xx_aload_n C 12 rfl 0 dX11_depth_11 rfl rfl ?_
    refine xx_getr (fi := 4) C 15 rfl (by decide) (ceX_132 _ _ _) rfl in_X11 (by decide) rfl w_344 dX11_depth_12 ?_
    refine xx_aload_n C 16 rfl 0 dX11_depth_15 rfl rfl ?_
    refine xx_getr (fi := 4) C 19 rfl (by decide) (ceX_132 _ _ _) rfl in_X11 (by decide) rfl w_344 dX11_depth_16 ?_
    refine xx_bipush C 21 rfl dX11_depth_19 (by decide) ?_
    refine xx_cVip (As := [.int (iI (-15))]) (st := [.ref (ad 136)]) (o := 136) C 24 rfl (by decide) (ceX_136 _ _ _) rfl rfl ca_X7_roots cv_X7_roots w_1053 rfl ⟨Nat.le_of_ble_eq_true rfl, Nat.le_of_ble_eq_true rfl⟩ ⟨Nat.le_of_ble_eq_true rfl, Nat.le_of_ble_eq_true rfl⟩ (Nat.le_of_ble_eq_true rfl) dX11_depth_21 (fun v21 e9 => c_X7_roots _ _ v21 e9) h (fun v21 h => ?_) rfl
    refine xx_iload_n C 25 rfl 1 dX11_depth_24 rfl rfl ?_
    refine xx_cVip (As := [.int (iI v21), .int (iI a1)]) (st := []) (o := 136) C 28 rfl (by decide) (ceX_136 _ _ _) rfl rfl ca_X7_distance cv_X7_distance w_1054 rfl ⟨Nat.le_of_ble_eq_true rfl, Nat.le_of_ble_eq_true rfl⟩ ⟨Nat.le_of_ble_eq_true rfl, Nat.le_of_ble_eq_true rfl⟩ (Nat.le_of_ble_eq_true rfl) dX11_depth_25 (fun v25 e9 => c_X7_distance _ _ _ v25 e9) h (fun v25 h => ?_) rfl
    refine xx_goto C 33 dX11_depth_28 (by decide) ?_
    exact xx_iretp C E rfl ⟨Nat.le_of_ble_eq_true rfl, Nat.le_of_ble_eq_true rfl⟩ dX11_depth_33 h

def f_X11_keepers (μ : mu_T) (a1 : Int) : Option Int :=
  bd_ (f_X2_hasUrn μ a1) (fun v5 => eq_ v5 0
      (some (-11))
      (bd_ (f_X7_neededNames μ a1) (fun v16 => some v16)))
set_option maxHeartbeats 4000000 in
set_option maxRecDepth 100000 in
theorem c_X11_keepers {G : gp_} {ad : Nat → Nat} (μ : mu_T) (a1 : Int) (a : Int) (h : f_X11_keepers μ a1 = some a) : mi_ yX11_keepers cX11_keepers 2 (some .int) ({ frames := 7, cells := 0, slots := 0, locals := 155 } : Room) G 151 ad (ceX G ad) [.ref (ad 132), .int (iI a1)] μ a μ := by
  refine mi_in (own := "UrnHeap") (lv := [(0, .ref (ad 132)), (1, .int (iI a1))]) (by decide) rfl rfl (Nat.le_of_ble_eq_true rfl) (fun X C E => ?_)
  unfold f_X11_keepers at h
  refine xx_aload_n C 1 rfl 0 dX11_keepers_0 rfl rfl ?_
  refine xx_getr (fi := 0) C 4 rfl (by decide) (ceX_132 _ _ _) rfl in_X11 (by decide) rfl w_340 dX11_keepers_1 ?_
  refine xx_iload_n C 5 rfl 1 dX11_keepers_4 rfl rfl ?_
  refine xx_cVip (As := [.int (iI a1)]) (st := []) (o := 0) C 8 rfl (by decide) (ceX_0 _ _ _) rfl rfl ca_X2_hasUrn cv_X2_hasUrn w_988 rfl ⟨Nat.le_of_ble_eq_true rfl, Nat.le_of_ble_eq_true rfl⟩ ⟨Nat.le_of_ble_eq_true rfl, Nat.le_of_ble_eq_true rfl⟩ (Nat.le_of_ble_eq_true rfl) dX11_keepers_5 (fun v5 e9 => c_X2_hasUrn _ _ v5 e9) h (fun v5 h => ?_) rfl
  refine xx_if_eq (tgt := 22) C 11 rfl dX11_keepers_8 (by decide) h (fun h => ?_) (fun h => ?_)
  · refine xx_bipush C 24 rfl dX11_keepers_22 (by decide) ?_
    exact xx_iretp C E rfl ⟨Nat.le_of_ble_eq_true rfl, Nat.le_of_ble_eq_true rfl⟩ dX11_keepers_24 h
  · refine xx_aload_n C 12 rfl 0 dX11_keepers_11 rfl rfl ?_
    refine xx_getr (fi := 4) C 15 rfl (by decide) (ceX_132 _ _ _) rfl in_X11 (by decide) rfl w_344 dX11_keepers_12 ?_
    refine xx_iload_n C 16 rfl 1 dX11_keepers_15 rfl rfl ?_
    refine xx_cVip (As := [.int (iI a1)]) (st := []) (o := 136) C 19 rfl (by decide) (ceX_136 _ _ _) rfl rfl ca_X7_neededNames cv_X7_neededNames w_1062 rfl ⟨Nat.le_of_ble_eq_true rfl, Nat.le_of_ble_eq_true rfl⟩ ⟨Nat.le_of_ble_eq_true rfl, Nat.le_of_ble_eq_true rfl⟩ (Nat.le_of_ble_eq_true rfl) dX11_keepers_16 (fun v16 e9 => c_X7_neededNames _ _ v16 e9) h (fun v16 h => ?_) rfl
    refine xx_goto C 24 dX11_keepers_19 (by decide) ?_
    exact xx_iretp C E rfl ⟨Nat.le_of_ble_eq_true rfl, Nat.le_of_ble_eq_true rfl⟩ dX11_keepers_24 h

def f_X11_ring (μ : mu_T) (a1 : Int) : Option Int :=
  bd_ (f_X2_hasUrn μ a1) (fun v5 => eq_ v5 0
      (some (-11))
      (bd_ (f_X7_ringLength μ a1) (fun v16 => some v16)))
set_option maxHeartbeats 4000000 in
set_option maxRecDepth 100000 in
theorem c_X11_ring {G : gp_} {ad : Nat → Nat} (μ : mu_T) (a1 : Int) (a : Int) (h : f_X11_ring μ a1 = some a) : mi_ yX11_ring cX11_ring 2 (some .int) ({ frames := 6, cells := 0, slots := 0, locals := 135 } : Room) G 151 ad (ceX G ad) [.ref (ad 132), .int (iI a1)] μ a μ := by
  refine mi_in (own := "UrnHeap") (lv := [(0, .ref (ad 132)), (1, .int (iI a1))]) (by decide) rfl rfl (Nat.le_of_ble_eq_true rfl) (fun X C E => ?_)
  unfold f_X11_ring at h
  refine xx_aload_n C 1 rfl 0 dX11_ring_0 rfl rfl ?_
  refine xx_getr (fi := 0) C 4 rfl (by decide) (ceX_132 _ _ _) rfl in_X11 (by decide) rfl w_340 dX11_ring_1 ?_
  refine xx_iload_n C 5 rfl 1 dX11_ring_4 rfl rfl ?_
  refine xx_cVip (As := [.int (iI a1)]) (st := []) (o := 0) C 8 rfl (by decide) (ceX_0 _ _ _) rfl rfl ca_X2_hasUrn cv_X2_hasUrn w_988 rfl ⟨Nat.le_of_ble_eq_true rfl, Nat.le_of_ble_eq_true rfl⟩ ⟨Nat.le_of_ble_eq_true rfl, Nat.le_of_ble_eq_true rfl⟩ (Nat.le_of_ble_eq_true rfl) dX11_ring_5 (fun v5 e9 => c_X2_hasUrn _ _ v5 e9) h (fun v5 h => ?_) rfl
  refine xx_if_eq (tgt := 22) C 11 rfl dX11_ring_8 (by decide) h (fun h => ?_) (fun h => ?_)
  · refine xx_bipush C 24 rfl dX11_ring_22 (by decide) ?_
    exact xx_iretp C E rfl ⟨Nat.le_of_ble_eq_true rfl, Nat.le_of_ble_eq_true rfl⟩ dX11_ring_24 h
  · refine xx_aload_n C 12 rfl 0 dX11_ring_11 rfl rfl ?_
    refine xx_getr (fi := 4) C 15 rfl (by decide) (ceX_132 _ _ _) rfl in_X11 (by decide) rfl w_344 dX11_ring_12 ?_
    refine xx_iload_n C 16 rfl 1 dX11_ring_15 rfl rfl ?_
    refine xx_cVip (As := [.int (iI a1)]) (st := []) (o := 136) C 19 rfl (by decide) (ceX_136 _ _ _) rfl rfl ca_X7_ringLength cv_X7_ringLength w_1071 rfl ⟨Nat.le_of_ble_eq_true rfl, Nat.le_of_ble_eq_true rfl⟩ ⟨Nat.le_of_ble_eq_true rfl, Nat.le_of_ble_eq_true rfl⟩ (Nat.le_of_ble_eq_true rfl) dX11_ring_16 (fun v16 e9 => c_X7_ringLength _ _ v16 e9) h (fun v16 h => ?_) rfl
    refine xx_goto C 24 dX11_ring_19 (by decide) ?_
    exact xx_iretp C E rfl ⟨Nat.le_of_ble_eq_true rfl, Nat.le_of_ble_eq_true rfl⟩ dX11_ring_24 h

def f_X11_wouldFree (μ : mu_T)  : Option Int :=
  bd_ (f_X7_leftOver μ) (fun v4 => some v4)
set_option maxHeartbeats 4000000 in
set_option maxRecDepth 100000 in
theorem c_X11_wouldFree {G : gp_} {ad : Nat → Nat} (μ : mu_T)  (a : Int) (h : f_X11_wouldFree μ  = some a) : mi_ yX11_wouldFree cX11_wouldFree 1 (some .int) ({ frames := 6, cells := 0, slots := 0, locals := 135 } : Room) G 151 ad (ceX G ad) [.ref (ad 132)] μ a μ := by
  refine mi_in (own := "UrnHeap") (lv := [(0, .ref (ad 132))]) (by decide) rfl rfl (Nat.le_of_ble_eq_true rfl) (fun X C E => ?_)
  unfold f_X11_wouldFree at h
  refine xx_aload_n C 1 rfl 0 dX11_wouldFree_0 rfl rfl ?_
  refine xx_getr (fi := 4) C 4 rfl (by decide) (ceX_132 _ _ _) rfl in_X11 (by decide) rfl w_344 dX11_wouldFree_1 ?_
  refine xx_cVip (As := []) (st := []) (o := 136) C 7 rfl (by decide) (ceX_136 _ _ _) rfl rfl ca_X7_leftOver cv_X7_leftOver w_1116 rfl ⟨Nat.le_of_ble_eq_true rfl, Nat.le_of_ble_eq_true rfl⟩ ⟨Nat.le_of_ble_eq_true rfl, Nat.le_of_ble_eq_true rfl⟩ (Nat.le_of_ble_eq_true rfl) dX11_wouldFree_4 (fun v4 e9 => c_X7_leftOver _ v4 e9) h (fun v4 h => ?_) rfl
  exact xx_iretp C E rfl ⟨Nat.le_of_ble_eq_true rfl, Nat.le_of_ble_eq_true rfl⟩ dX11_wouldFree_7 h

def f_X11_ranked (μ : mu_T) (a1 : Int) : Option (Int × mu_T) :=
  bp_ (f_X7_urnAtRank μ a1) (fun v5 μ5 => some (v5, μ5))
set_option maxHeartbeats 4000000 in
set_option maxRecDepth 100000 in
theorem c_X11_ranked {G : gp_} {ad : Nat → Nat} (μ : mu_T) (a1 : Int) (a : Int) (μr : mu_T) (h : f_X11_ranked μ a1 = some (a, μr)) : mi_ yX11_ranked cX11_ranked 2 (some .int) ({ frames := 5, cells := 0, slots := 0, locals := 110 } : Room) G 151 ad (ceX G ad) [.ref (ad 132), .int (iI a1)] μ a μr := by
  refine mi_in (own := "UrnHeap") (lv := [(0, .ref (ad 132)), (1, .int (iI a1))]) (by decide) rfl rfl (Nat.le_of_ble_eq_true rfl) (fun X C E => ?_)
  unfold f_X11_ranked at h
  refine xx_aload_n C 1 rfl 0 dX11_ranked_0 rfl rfl ?_
  refine xx_getr (fi := 4) C 4 rfl (by decide) (ceX_132 _ _ _) rfl in_X11 (by decide) rfl w_344 dX11_ranked_1 ?_
  refine xx_iload_n C 5 rfl 1 dX11_ranked_4 rfl rfl ?_
  refine xx_cVi (As := [.int (iI a1)]) (st := []) (o := 136) C 8 rfl (by decide) (ceX_136 _ _ _) rfl rfl ca_X7_urnAtRank cv_X7_urnAtRank w_1080 rfl ⟨Nat.le_of_ble_eq_true rfl, Nat.le_of_ble_eq_true rfl⟩ ⟨Nat.le_of_ble_eq_true rfl, Nat.le_of_ble_eq_true rfl⟩ (Nat.le_of_ble_eq_true rfl) dX11_ranked_5 (fun v5 μ5 e9 => c_X7_urnAtRank _ _ v5 μ5 e9) h (fun v5 μ5 h => ?_) rfl
  exact xx_iret C E rfl ⟨Nat.le_of_ble_eq_true rfl, Nat.le_of_ble_eq_true rfl⟩ dX11_ranked_8 h

def f_X11_isBalanced (μ : mu_T)  : Option Int :=
  bd_ (f_X2_isSound μ) (fun v4 => eq_ v4 0
      (some 0)
      (some 1))
set_option maxHeartbeats 4000000 in
set_option maxRecDepth 100000 in
theorem c_X11_isBalanced {G : gp_} {ad : Nat → Nat} (μ : mu_T)  (a : Int) (h : f_X11_isBalanced μ  = some a) : mi_ yX11_isBalanced cX11_isBalanced 1 (some .int) ({ frames := 3, cells := 0, slots := 0, locals := 66 } : Room) G 151 ad (ceX G ad) [.ref (ad 132)] μ a μ := by
  refine mi_in (own := "UrnHeap") (lv := [(0, .ref (ad 132))]) (by decide) rfl rfl (Nat.le_of_ble_eq_true rfl) (fun X C E => ?_)
  unfold f_X11_isBalanced at h
  refine xx_aload_n C 1 rfl 0 dX11_isBalanced_0 rfl rfl ?_
  refine xx_getr (fi := 0) C 4 rfl (by decide) (ceX_132 _ _ _) rfl in_X11 (by decide) rfl w_340 dX11_isBalanced_1 ?_
  refine xx_cVip (As := []) (st := []) (o := 0) C 7 rfl (by decide) (ceX_0 _ _ _) rfl rfl ca_X2_isSound cv_X2_isSound w_1124 rfl ⟨Nat.le_of_ble_eq_true rfl, Nat.le_of_ble_eq_true rfl⟩ ⟨Nat.le_of_ble_eq_true rfl, Nat.le_of_ble_eq_true rfl⟩ (Nat.le_of_ble_eq_true rfl) dX11_isBalanced_4 (fun v4 e9 => c_X2_isSound _ v4 e9) h (fun v4 h => ?_) rfl
  refine xx_if_eq (tgt := 14) C 10 rfl dX11_isBalanced_7 (by decide) h (fun h => ?_) (fun h => ?_)
  · refine xx_iconst C 15 rfl dX11_isBalanced_14 ?_
    exact xx_iretp C E rfl ⟨Nat.le_of_ble_eq_true rfl, Nat.le_of_ble_eq_true rfl⟩ dX11_isBalanced_15 h
  · refine xx_iconst C 11 rfl dX11_isBalanced_10 ?_
    refine xx_goto C 15 dX11_isBalanced_11 (by decide) ?_
    exact xx_iretp C E rfl ⟨Nat.le_of_ble_eq_true rfl, Nat.le_of_ble_eq_true rfl⟩ dX11_isBalanced_15 h

def f_X11_meanHeld (μ : mu_T)  : Option UInt64 :=
  bd_ (f_X2_urns μ) (fun v4 => eq_ v4 0
      (some (FP.dconst0))
      (bd_ (f_X2_holdersOfAll μ) (fun v20 => dd_ (FP.i2d (iI v20)) (FP.i2d (iI v4)) (fun v26 => some v26))))
set_option maxHeartbeats 4000000 in
set_option maxRecDepth 100000 in
theorem c_X11_meanHeld {G : gp_} {ad : Nat → Nat} (μ : mu_T)  (a : UInt64) (h : f_X11_meanHeld μ  = some a) : md_ yX11_meanHeld cX11_meanHeld 2 (some .double) ({ frames := 2, cells := 0, slots := 0, locals := 45 } : Room) G 151 ad (ceX G ad) [.ref (ad 132)] μ a μ := by
  refine md_in (own := "UrnHeap") (lv := [(0, .ref (ad 132))]) (by decide) rfl rfl (Nat.le_of_ble_eq_true rfl) (fun X C E => ?_)
  unfold f_X11_meanHeld at h
  refine xx_aload_n C 1 rfl 0 dX11_meanHeld_0 rfl rfl ?_
  refine xx_getr (fi := 0) C 4 rfl (by decide) (ceX_132 _ _ _) rfl in_X11 (by decide) rfl w_340 dX11_meanHeld_1 ?_
  refine xx_cVip (As := []) (st := []) (o := 0) C 7 rfl (by decide) (ceX_0 _ _ _) rfl rfl ca_X2_urns cv_X2_urns w_369 rfl ⟨Nat.le_of_ble_eq_true rfl, Nat.le_of_ble_eq_true rfl⟩ ⟨Nat.le_of_ble_eq_true rfl, Nat.le_of_ble_eq_true rfl⟩ (Nat.le_of_ble_eq_true rfl) dX11_meanHeld_4 (fun v4 e9 => c_X2_urns _ v4 e9) h (fun v4 h => ?_) rfl
  refine xx_istore_n (lv1 := [(1, .int (iI v4)), (0, .ref (ad 132))]) C 8 rfl (by decide) dX11_meanHeld_7 rfl rfl ?_
  refine xx_iload_n C 9 rfl 0 dX11_meanHeld_8 rfl rfl ?_
  refine xx_if_ne (tgt := 16) C 12 rfl dX11_meanHeld_9 (by decide) h (fun h => ?_) (fun h => ?_)
  · refine xx_aload_n C 17 rfl 1 dX11_meanHeld_16 rfl rfl ?_
    refine xx_getr (fi := 0) C 20 rfl (by decide) (ceX_132 _ _ _) rfl in_X11 (by decide) rfl w_340 dX11_meanHeld_17 ?_
    refine xx_cVip (As := []) (st := []) (o := 0) C 23 rfl (by decide) (ceX_0 _ _ _) rfl rfl ca_X2_holdersOfAll cv_X2_holdersOfAll w_1141 rfl ⟨Nat.le_of_ble_eq_true rfl, Nat.le_of_ble_eq_true rfl⟩ ⟨Nat.le_of_ble_eq_true rfl, Nat.le_of_ble_eq_true rfl⟩ (Nat.le_of_ble_eq_true rfl) dX11_meanHeld_20 (fun v20 e9 => c_X2_holdersOfAll _ v20 e9) h (fun v20 h => ?_) rfl
    refine xx_i2d C 24 rfl dX11_meanHeld_23 ?_
    refine xx_iload_n C 25 rfl 0 dX11_meanHeld_24 rfl rfl ?_
    refine xx_i2d C 26 rfl dX11_meanHeld_25 ?_
    refine xx_ddiv C 27 rfl dX11_meanHeld_26 h (fun v26 h => ?_)
    exact xx_dret C E rfl ⟨Nat.le_of_ble_eq_true rfl, Nat.le_of_ble_eq_true rfl⟩ dX11_meanHeld_27 h
  · refine xx_dconst0 C 13 rfl dX11_meanHeld_12 ?_
    refine xx_goto C 27 dX11_meanHeld_13 (by decide) ?_
    exact xx_dret C E rfl ⟨Nat.le_of_ble_eq_true rfl, Nat.le_of_ble_eq_true rfl⟩ dX11_meanHeld_27 h

def f_X11_liveShare (μ : mu_T)  : Option UInt32 :=
  bd_ (f_X2_urns μ) (fun v4 => eq_ v4 0
      (some (FP.fconst0))
      (bd_ (f_X7_reach μ) (fun v20 => bd_ (f_J6_bitCount_0f7a4 μ v20) (fun v23 => fd_ (FP.i2f (iI v23)) (FP.i2f (iI v4)) (fun v29 => some v29)))))
set_option maxHeartbeats 4000000 in
set_option maxRecDepth 100000 in
theorem c_X11_liveShare {G : gp_} {ad : Nat → Nat} (μ : mu_T)  (a : UInt32) (h : f_X11_liveShare μ  = some a) : mf_ yX11_liveShare cX11_liveShare 2 (some .float) ({ frames := 6, cells := 0, slots := 0, locals := 132 } : Room) G 151 ad (ceX G ad) [.ref (ad 132)] μ a μ := by
  refine mf_in (own := "UrnHeap") (lv := [(0, .ref (ad 132))]) (by decide) rfl rfl (Nat.le_of_ble_eq_true rfl) (fun X C E => ?_)
  unfold f_X11_liveShare at h
  refine xx_aload_n C 1 rfl 0 dX11_liveShare_0 rfl rfl ?_
  refine xx_getr (fi := 0) C 4 rfl (by decide) (ceX_132 _ _ _) rfl in_X11 (by decide) rfl w_340 dX11_liveShare_1 ?_
  refine xx_cVip (As := []) (st := []) (o := 0) C 7 rfl (by decide) (ceX_0 _ _ _) rfl rfl ca_X2_urns cv_X2_urns w_369 rfl ⟨Nat.le_of_ble_eq_true rfl, Nat.le_of_ble_eq_true rfl⟩ ⟨Nat.le_of_ble_eq_true rfl, Nat.le_of_ble_eq_true rfl⟩ (Nat.le_of_ble_eq_true rfl) dX11_liveShare_4 (fun v4 e9 => c_X2_urns _ v4 e9) h (fun v4 h => ?_) rfl
  refine xx_istore_n (lv1 := [(1, .int (iI v4)), (0, .ref (ad 132))]) C 8 rfl (by decide) dX11_liveShare_7 rfl rfl ?_
  refine xx_iload_n C 9 rfl 0 dX11_liveShare_8 rfl rfl ?_
  refine xx_if_ne (tgt := 16) C 12 rfl dX11_liveShare_9 (by decide) h (fun h => ?_) (fun h => ?_)
  · refine xx_aload_n C 17 rfl 1 dX11_liveShare_16 rfl rfl ?_
    refine xx_getr (fi := 4) C 20 rfl (by decide) (ceX_132 _ _ _) rfl in_X11 (by decide) rfl w_344 dX11_liveShare_17 ?_
    refine xx_cVip (As := []) (st := []) (o := 136) C 23 rfl (by decide) (ceX_136 _ _ _) rfl rfl ca_X7_reach cv_X7_reach w_1016 rfl ⟨Nat.le_of_ble_eq_true rfl, Nat.le_of_ble_eq_true rfl⟩ ⟨Nat.le_of_ble_eq_true rfl, Nat.le_of_ble_eq_true rfl⟩ (Nat.le_of_ble_eq_true rfl) dX11_liveShare_20 (fun v20 e9 => c_X7_reach _ v20 e9) h (fun v20 h => ?_) rfl
    refine xx_cSip (As := [.int (iI v20)]) (st := []) C 26 rfl  ca_J6_bitCount_0f7a4 cs_J6_bitCount_0f7a4 w_1150 rfl ⟨Nat.le_of_ble_eq_true rfl, Nat.le_of_ble_eq_true rfl⟩ ⟨Nat.le_of_ble_eq_true rfl, Nat.le_of_ble_eq_true rfl⟩ (Nat.le_of_ble_eq_true rfl) dX11_liveShare_23 (fun v23 e9 => c_J6_bitCount_0f7a4 _ _ v23 e9) h (fun v23 h => ?_) rfl
    refine xx_i2f C 27 rfl dX11_liveShare_26 ?_
    refine xx_iload_n C 28 rfl 0 dX11_liveShare_27 rfl rfl ?_
    refine xx_i2f C 29 rfl dX11_liveShare_28 ?_
    refine xx_fdiv C 30 rfl dX11_liveShare_29 h (fun v29 h => ?_)
    exact xx_fret C E rfl ⟨Nat.le_of_ble_eq_true rfl, Nat.le_of_ble_eq_true rfl⟩ dX11_liveShare_30 h
  · refine xx_fconst0 C 13 rfl dX11_liveShare_12 ?_
    refine xx_goto C 30 dX11_liveShare_13 (by decide) ?_
    exact xx_fret C E rfl ⟨Nat.le_of_ble_eq_true rfl, Nat.le_of_ble_eq_true rfl⟩ dX11_liveShare_30 h

def f_X11_undo (μ : mu_T)  : Option (Int × mu_T) :=
  bp_ (f_X3_undoLatest μ) (fun v4 μ4 => some (v4, μ4))
set_option maxHeartbeats 4000000 in
set_option maxRecDepth 100000 in
theorem c_X11_undo {G : gp_} {ad : Nat → Nat} (μ : mu_T)  (a : Int) (μr : mu_T) (h : f_X11_undo μ  = some (a, μr)) : mi_ yX11_undo cX11_undo 1 (some .int) ({ frames := 5, cells := 0, slots := 0, locals := 101 } : Room) G 151 ad (ceX G ad) [.ref (ad 132)] μ a μr := by
  refine mi_in (own := "UrnHeap") (lv := [(0, .ref (ad 132))]) (by decide) rfl rfl (Nat.le_of_ble_eq_true rfl) (fun X C E => ?_)
  unfold f_X11_undo at h
  refine xx_aload_n C 1 rfl 0 dX11_undo_0 rfl rfl ?_
  refine xx_getr (fi := 5) C 4 rfl (by decide) (ceX_132 _ _ _) rfl in_X11 (by decide) rfl w_345 dX11_undo_1 ?_
  refine xx_cVi (As := []) (st := []) (o := 138) C 7 rfl (by decide) (ceX_138 _ _ _) rfl rfl ca_X3_undoLatest cv_X3_undoLatest w_1168 rfl ⟨Nat.le_of_ble_eq_true rfl, Nat.le_of_ble_eq_true rfl⟩ ⟨Nat.le_of_ble_eq_true rfl, Nat.le_of_ble_eq_true rfl⟩ (Nat.le_of_ble_eq_true rfl) dX11_undo_4 (fun v4 μ4 e9 => c_X3_undoLatest _ v4 μ4 e9) h (fun v4 μ4 h => ?_) rfl
  exact xx_iret C E rfl ⟨Nat.le_of_ble_eq_true rfl, Nat.le_of_ble_eq_true rfl⟩ dX11_undo_7 h

def f_X11_save (μ : mu_T)  : Option (Int × mu_T) :=
  bp_ (f_X3_saveNow μ) (fun v4 μ4 => some (v4, μ4))
set_option maxHeartbeats 4000000 in
set_option maxRecDepth 100000 in
theorem c_X11_save {G : gp_} {ad : Nat → Nat} (μ : mu_T)  (a : Int) (μr : mu_T) (h : f_X11_save μ  = some (a, μr)) : mi_ yX11_save cX11_save 1 (some .int) ({ frames := 4, cells := 0, slots := 0, locals := 80 } : Room) G 151 ad (ceX G ad) [.ref (ad 132)] μ a μr := by
  refine mi_in (own := "UrnHeap") (lv := [(0, .ref (ad 132))]) (by decide) rfl rfl (Nat.le_of_ble_eq_true rfl) (fun X C E => ?_)
  unfold f_X11_save at h
  refine xx_aload_n C 1 rfl 0 dX11_save_0 rfl rfl ?_
  refine xx_getr (fi := 5) C 4 rfl (by decide) (ceX_132 _ _ _) rfl in_X11 (by decide) rfl w_345 dX11_save_1 ?_
  refine xx_cVi (As := []) (st := []) (o := 138) C 7 rfl (by decide) (ceX_138 _ _ _) rfl rfl ca_X3_saveNow cv_X3_saveNow w_1158 rfl ⟨Nat.le_of_ble_eq_true rfl, Nat.le_of_ble_eq_true rfl⟩ ⟨Nat.le_of_ble_eq_true rfl, Nat.le_of_ble_eq_true rfl⟩ (Nat.le_of_ble_eq_true rfl) dX11_save_4 (fun v4 μ4 e9 => c_X3_saveNow _ v4 μ4 e9) h (fun v4 μ4 h => ?_) rfl
  exact xx_iret C E rfl ⟨Nat.le_of_ble_eq_true rfl, Nat.le_of_ble_eq_true rfl⟩ dX11_save_7 h

def f_X11_restore (μ : mu_T)  : Option (Int × mu_T) :=
  bp_ (f_X3_restoreSaved μ) (fun v4 μ4 => some (v4, μ4))
set_option maxHeartbeats 4000000 in
set_option maxRecDepth 100000 in
theorem c_X11_restore {G : gp_} {ad : Nat → Nat} (μ : mu_T)  (a : Int) (μr : mu_T) (h : f_X11_restore μ  = some (a, μr)) : mi_ yX11_restore cX11_restore 1 (some .int) ({ frames := 4, cells := 0, slots := 0, locals := 80 } : Room) G 151 ad (ceX G ad) [.ref (ad 132)] μ a μr := by
  refine mi_in (own := "UrnHeap") (lv := [(0, .ref (ad 132))]) (by decide) rfl rfl (Nat.le_of_ble_eq_true rfl) (fun X C E => ?_)
  unfold f_X11_restore at h
  refine xx_aload_n C 1 rfl 0 dX11_restore_0 rfl rfl ?_
  refine xx_getr (fi := 5) C 4 rfl (by decide) (ceX_132 _ _ _) rfl in_X11 (by decide) rfl w_345 dX11_restore_1 ?_
  refine xx_cVi (As := []) (st := []) (o := 138) C 7 rfl (by decide) (ceX_138 _ _ _) rfl rfl ca_X3_restoreSaved cv_X3_restoreSaved w_1177 rfl ⟨Nat.le_of_ble_eq_true rfl, Nat.le_of_ble_eq_true rfl⟩ ⟨Nat.le_of_ble_eq_true rfl, Nat.le_of_ble_eq_true rfl⟩ (Nat.le_of_ble_eq_true rfl) dX11_restore_4 (fun v4 μ4 e9 => c_X3_restoreSaved _ v4 μ4 e9) h (fun v4 μ4 h => ?_) rfl
  exact xx_iret C E rfl ⟨Nat.le_of_ble_eq_true rfl, Nat.le_of_ble_eq_true rfl⟩ dX11_restore_7 h

