theorem dX12_urn_0 : decode cX12_urn 0 = .ok (.aload_n 0, 1) := by decide +kernel
theorem dX12_urn_1 : decode cX12_urn 1 = .ok (.invokevirtual 111, 3) := by decide +kernel
theorem dX12_urn_4 : decode cX12_urn 4 = .ok (.aload_n 0, 1) := by decide +kernel
theorem dX12_urn_5 : decode cX12_urn 5 = .ok (.aload_n 0, 1) := by decide +kernel
theorem dX12_urn_6 : decode cX12_urn 6 = .ok (.iload_n 1, 1) := by decide +kernel
theorem dX12_urn_7 : decode cX12_urn 7 = .ok (.invokevirtual 114, 3) := by decide +kernel
theorem dX12_urn_10 : decode cX12_urn 10 = .ok (.invokevirtual 118, 3) := by decide +kernel
theorem dX12_urn_13 : decode cX12_urn 13 = .ok (.ireturn, 1) := by decide +kernel
theorem dX12_tie_0 : decode cX12_tie 0 = .ok (.aload_n 0, 1) := by decide +kernel
theorem dX12_tie_1 : decode cX12_tie 1 = .ok (.invokevirtual 111, 3) := by decide +kernel
theorem dX12_tie_4 : decode cX12_tie 4 = .ok (.aload_n 0, 1) := by decide +kernel
theorem dX12_tie_5 : decode cX12_tie 5 = .ok (.aload_n 0, 1) := by decide +kernel
theorem dX12_tie_6 : decode cX12_tie 6 = .ok (.iload_n 1, 1) := by decide +kernel
theorem dX12_tie_7 : decode cX12_tie 7 = .ok (.iload_n 2, 1) := by decide +kernel
theorem dX12_tie_8 : decode cX12_tie 8 = .ok (.iload_n 3, 1) := by decide +kernel
theorem dX12_tie_9 : decode cX12_tie 9 = .ok (.invokevirtual 121, 3) := by decide +kernel
theorem dX12_tie_12 : decode cX12_tie 12 = .ok (.invokevirtual 118, 3) := by decide +kernel
theorem dX12_tie_15 : decode cX12_tie 15 = .ok (.ireturn, 1) := by decide +kernel
theorem dX12_untie_0 : decode cX12_untie 0 = .ok (.aload_n 0, 1) := by decide +kernel
theorem dX12_untie_1 : decode cX12_untie 1 = .ok (.invokevirtual 111, 3) := by decide +kernel
theorem dX12_untie_4 : decode cX12_untie 4 = .ok (.aload_n 0, 1) := by decide +kernel
theorem dX12_untie_5 : decode cX12_untie 5 = .ok (.aload_n 0, 1) := by decide +kernel
theorem dX12_untie_6 : decode cX12_untie 6 = .ok (.iload_n 1, 1) := by decide +kernel
theorem dX12_untie_7 : decode cX12_untie 7 = .ok (.iload_n 2, 1) := by decide +kernel
theorem dX12_untie_8 : decode cX12_untie 8 = .ok (.invokevirtual 125, 3) := by decide +kernel
theorem dX12_untie_11 : decode cX12_untie 11 = .ok (.invokevirtual 118, 3) := by decide +kernel
theorem dX12_untie_14 : decode cX12_untie 14 = .ok (.ireturn, 1) := by decide +kernel
theorem dX12_weak_0 : decode cX12_weak 0 = .ok (.aload_n 0, 1) := by decide +kernel
theorem dX12_weak_1 : decode cX12_weak 1 = .ok (.invokevirtual 111, 3) := by decide +kernel
theorem dX12_weak_4 : decode cX12_weak 4 = .ok (.aload_n 0, 1) := by decide +kernel
theorem dX12_weak_5 : decode cX12_weak 5 = .ok (.aload_n 0, 1) := by decide +kernel
theorem dX12_weak_6 : decode cX12_weak 6 = .ok (.iload_n 1, 1) := by decide +kernel
theorem dX12_weak_7 : decode cX12_weak 7 = .ok (.iload_n 2, 1) := by decide +kernel
theorem dX12_weak_8 : decode cX12_weak 8 = .ok (.invokevirtual 128, 3) := by decide +kernel
theorem dX12_weak_11 : decode cX12_weak 11 = .ok (.invokevirtual 118, 3) := by decide +kernel
theorem dX12_weak_14 : decode cX12_weak 14 = .ok (.ireturn, 1) := by decide +kernel
theorem dX12_unweak_0 : decode cX12_unweak 0 = .ok (.aload_n 0, 1) := by decide +kernel
theorem dX12_unweak_1 : decode cX12_unweak 1 = .ok (.invokevirtual 111, 3) := by decide +kernel
theorem dX12_unweak_4 : decode cX12_unweak 4 = .ok (.aload_n 0, 1) := by decide +kernel
theorem dX12_unweak_5 : decode cX12_unweak 5 = .ok (.iload_n 1, 1) := by decide +kernel
theorem dX12_unweak_6 : decode cX12_unweak 6 = .ok (.invokevirtual 97, 3) := by decide +kernel
theorem dX12_unweak_9 : decode cX12_unweak 9 = .ok (.ifCond .ne 6, 3) := by decide +kernel
theorem dX12_unweak_12 : decode cX12_unweak 12 = .ok (.bipush (-11), 2) := by decide +kernel
theorem dX12_unweak_14 : decode cX12_unweak 14 = .ok (.ireturn, 1) := by decide +kernel
theorem dX12_unweak_15 : decode cX12_unweak 15 = .ok (.aload_n 0, 1) := by decide +kernel
theorem dX12_unweak_16 : decode cX12_unweak 16 = .ok (.getfield 7, 3) := by decide +kernel
theorem dX12_unweak_19 : decode cX12_unweak 19 = .ok (.bipush 113, 2) := by decide +kernel
theorem dX12_unweak_21 : decode cX12_unweak 21 = .ok (.iload_n 1, 1) := by decide +kernel
theorem dX12_unweak_22 : decode cX12_unweak 22 = .ok (.iadd, 1) := by decide +kernel
theorem dX12_unweak_23 : decode cX12_unweak 23 = .ok (.iaload, 1) := by decide +kernel
theorem dX12_unweak_24 : decode cX12_unweak 24 = .ok (.istore_n 2, 1) := by decide +kernel
theorem dX12_unweak_25 : decode cX12_unweak 25 = .ok (.aload_n 0, 1) := by decide +kernel
theorem dX12_unweak_26 : decode cX12_unweak 26 = .ok (.getfield 7, 3) := by decide +kernel
theorem dX12_unweak_29 : decode cX12_unweak 29 = .ok (.bipush 113, 2) := by decide +kernel
theorem dX12_unweak_31 : decode cX12_unweak 31 = .ok (.iload_n 1, 1) := by decide +kernel
theorem dX12_unweak_32 : decode cX12_unweak 32 = .ok (.iadd, 1) := by decide +kernel
theorem dX12_unweak_33 : decode cX12_unweak 33 = .ok (.bipush (-15), 2) := by decide +kernel
theorem dX12_unweak_35 : decode cX12_unweak 35 = .ok (.iastore, 1) := by decide +kernel
theorem dX12_unweak_36 : decode cX12_unweak 36 = .ok (.aload_n 0, 1) := by decide +kernel
theorem dX12_unweak_37 : decode cX12_unweak 37 = .ok (.iload_n 2, 1) := by decide +kernel
theorem dX12_unweak_38 : decode cX12_unweak 38 = .ok (.bipush (-15), 2) := by decide +kernel
theorem dX12_unweak_40 : decode cX12_unweak 40 = .ok (.if_icmp .ne 12, 3) := by decide +kernel
theorem dX12_unweak_43 : decode cX12_unweak 43 = .ok (.aload_n 0, 1) := by decide +kernel
theorem dX12_unweak_44 : decode cX12_unweak 44 = .ok (.iconst 2, 1) := by decide +kernel
theorem dX12_unweak_45 : decode cX12_unweak 45 = .ok (.iconst 4, 1) := by decide +kernel
theorem dX12_unweak_46 : decode cX12_unweak 46 = .ok (.invokevirtual 91, 3) := by decide +kernel
theorem dX12_unweak_49 : decode cX12_unweak 49 = .ok (.goto 8, 3) := by decide +kernel
theorem dX12_unweak_52 : decode cX12_unweak 52 = .ok (.aload_n 0, 1) := by decide +kernel
theorem dX12_unweak_53 : decode cX12_unweak 53 = .ok (.iload_n 2, 1) := by decide +kernel
theorem dX12_unweak_54 : decode cX12_unweak 54 = .ok (.invokevirtual 94, 3) := by decide +kernel
theorem dX12_unweak_57 : decode cX12_unweak 57 = .ok (.invokevirtual 118, 3) := by decide +kernel
theorem dX12_unweak_60 : decode cX12_unweak 60 = .ok (.ireturn, 1) := by decide +kernel
theorem dX12_name_0 : decode cX12_name 0 = .ok (.aload_n 0, 1) := by decide +kernel
theorem dX12_name_1 : decode cX12_name 1 = .ok (.invokevirtual 111, 3) := by decide +kernel
theorem dX12_name_4 : decode cX12_name 4 = .ok (.aload_n 0, 1) := by decide +kernel
theorem dX12_name_5 : decode cX12_name 5 = .ok (.aload_n 0, 1) := by decide +kernel
theorem dX12_name_6 : decode cX12_name 6 = .ok (.iload_n 1, 1) := by decide +kernel
theorem dX12_name_7 : decode cX12_name 7 = .ok (.iload_n 2, 1) := by decide +kernel
theorem dX12_name_8 : decode cX12_name 8 = .ok (.invokevirtual 131, 3) := by decide +kernel
theorem dX12_name_11 : decode cX12_name 11 = .ok (.invokevirtual 118, 3) := by decide +kernel
theorem dX12_name_14 : decode cX12_name 14 = .ok (.ireturn, 1) := by decide +kernel
theorem dX12_drop_0 : decode cX12_drop 0 = .ok (.aload_n 0, 1) := by decide +kernel
theorem dX12_drop_1 : decode cX12_drop 1 = .ok (.invokevirtual 111, 3) := by decide +kernel
theorem dX12_drop_4 : decode cX12_drop 4 = .ok (.aload_n 0, 1) := by decide +kernel
theorem dX12_drop_5 : decode cX12_drop 5 = .ok (.aload_n 0, 1) := by decide +kernel
theorem dX12_drop_6 : decode cX12_drop 6 = .ok (.iload_n 1, 1) := by decide +kernel
theorem dX12_drop_7 : decode cX12_drop 7 = .ok (.invokevirtual 134, 3) := by decide +kernel
theorem dX12_drop_10 : decode cX12_drop 10 = .ok (.invokevirtual 118, 3) := by decide +kernel
theorem dX12_drop_13 : decode cX12_drop 13 = .ok (.ireturn, 1) := by decide +kernel
theorem dX12_holds_0 : decode cX12_holds 0 = .ok (.iconst 0, 1) := by decide +kernel
theorem dX12_holds_1 : decode cX12_holds 1 = .ok (.istore_n 2, 1) := by decide +kernel
theorem dX12_holds_2 : decode cX12_holds 2 = .ok (.iconst 0, 1) := by decide +kernel
theorem dX12_holds_3 : decode cX12_holds 3 = .ok (.istore_n 3, 1) := by decide +kernel
theorem dX12_holds_4 : decode cX12_holds 4 = .ok (.iload_n 3, 1) := by decide +kernel
theorem dX12_holds_5 : decode cX12_holds 5 = .ok (.iconst 4, 1) := by decide +kernel
theorem dX12_holds_6 : decode cX12_holds 6 = .ok (.if_icmp .ge 32, 3) := by decide +kernel
theorem dX12_holds_9 : decode cX12_holds 9 = .ok (.iload_n 2, 1) := by decide +kernel
theorem dX12_holds_10 : decode cX12_holds 10 = .ok (.aload_n 0, 1) := by decide +kernel
theorem dX12_holds_11 : decode cX12_holds 11 = .ok (.getfield 7, 3) := by decide +kernel
theorem dX12_holds_14 : decode cX12_holds 14 = .ok (.iload_n 1, 1) := by decide +kernel
theorem dX12_holds_15 : decode cX12_holds 15 = .ok (.iload_n 3, 1) := by decide +kernel
theorem dX12_holds_16 : decode cX12_holds 16 = .ok (.invokestatic 62, 3) := by decide +kernel
theorem dX12_holds_19 : decode cX12_holds 19 = .ok (.iaload, 1) := by decide +kernel
theorem dX12_holds_20 : decode cX12_holds 20 = .ok (.bipush (-15), 2) := by decide +kernel
theorem dX12_holds_22 : decode cX12_holds 22 = .ok (.if_icmp .ne 7, 3) := by decide +kernel
theorem dX12_holds_25 : decode cX12_holds 25 = .ok (.iconst 0, 1) := by decide +kernel
theorem dX12_holds_26 : decode cX12_holds 26 = .ok (.goto 4, 3) := by decide +kernel
theorem dX12_holds_29 : decode cX12_holds 29 = .ok (.iconst 1, 1) := by decide +kernel
theorem dX12_holds_30 : decode cX12_holds 30 = .ok (.iadd, 1) := by decide +kernel
theorem dX12_holds_31 : decode cX12_holds 31 = .ok (.istore_n 2, 1) := by decide +kernel
theorem dX12_holds_32 : decode cX12_holds 32 = .ok (.iinc 3 1, 3) := by decide +kernel
theorem dX12_holds_35 : decode cX12_holds 35 = .ok (.goto (-31), 3) := by decide +kernel
theorem dX12_holds_38 : decode cX12_holds 38 = .ok (.iload_n 2, 1) := by decide +kernel
theorem dX12_holds_39 : decode cX12_holds 39 = .ok (.ireturn, 1) := by decide +kernel
theorem dX12_held_0 : decode cX12_held 0 = .ok (.iconst 0, 1) := by decide +kernel
theorem dX12_held_1 : decode cX12_held 1 = .ok (.istore_n 2, 1) := by decide +kernel
theorem dX12_held_2 : decode cX12_held 2 = .ok (.iconst 0, 1) := by decide +kernel
theorem dX12_held_3 : decode cX12_held 3 = .ok (.istore_n 3, 1) := by decide +kernel
theorem dX12_held_4 : decode cX12_held 4 = .ok (.iload_n 3, 1) := by decide +kernel
theorem dX12_held_5 : decode cX12_held 5 = .ok (.bipush 96, 2) := by decide +kernel
theorem dX12_held_7 : decode cX12_held 7 = .ok (.if_icmp .ge 31, 3) := by decide +kernel
theorem dX12_held_10 : decode cX12_held 10 = .ok (.iload_n 2, 1) := by decide +kernel
theorem dX12_held_11 : decode cX12_held 11 = .ok (.aload_n 0, 1) := by decide +kernel
theorem dX12_held_12 : decode cX12_held 12 = .ok (.getfield 7, 3) := by decide +kernel
theorem dX12_held_15 : decode cX12_held 15 = .ok (.sipush 137, 3) := by decide +kernel
theorem dX12_held_18 : decode cX12_held 18 = .ok (.iload_n 3, 1) := by decide +kernel
theorem dX12_held_19 : decode cX12_held 19 = .ok (.iadd, 1) := by decide +kernel
theorem dX12_held_20 : decode cX12_held 20 = .ok (.iaload, 1) := by decide +kernel
theorem dX12_held_21 : decode cX12_held 21 = .ok (.iload_n 1, 1) := by decide +kernel
theorem dX12_held_22 : decode cX12_held 22 = .ok (.if_icmp .ne 7, 3) := by decide +kernel
theorem dX12_held_25 : decode cX12_held 25 = .ok (.iconst 1, 1) := by decide +kernel
theorem dX12_held_26 : decode cX12_held 26 = .ok (.goto 4, 3) := by decide +kernel
theorem dX12_held_29 : decode cX12_held 29 = .ok (.iconst 0, 1) := by decide +kernel
theorem dX12_held_30 : decode cX12_held 30 = .ok (.iadd, 1) := by decide +kernel
theorem dX12_held_31 : decode cX12_held 31 = .ok (.istore_n 2, 1) := by decide +kernel
theorem dX12_held_32 : decode cX12_held 32 = .ok (.iinc 3 1, 3) := by decide +kernel
theorem dX12_held_35 : decode cX12_held 35 = .ok (.goto (-31), 3) := by decide +kernel
theorem dX12_held_38 : decode cX12_held 38 = .ok (.iconst 0, 1) := by decide +kernel
theorem dX12_held_39 : decode cX12_held 39 = .ok (.istore_n 3, 1) := by decide +kernel
theorem dX12_held_40 : decode cX12_held 40 = .ok (.iload_n 3, 1) := by decide +kernel
theorem dX12_held_41 : decode cX12_held 41 = .ok (.bipush 6, 2) := by decide +kernel
theorem dX12_held_43 : decode cX12_held 43 = .ok (.if_icmp .ge 30, 3) := by decide +kernel
theorem dX12_held_46 : decode cX12_held 46 = .ok (.iload_n 2, 1) := by decide +kernel
theorem dX12_held_47 : decode cX12_held 47 = .ok (.aload_n 0, 1) := by decide +kernel
theorem dX12_held_48 : decode cX12_held 48 = .ok (.getfield 7, 3) := by decide +kernel
theorem dX12_held_51 : decode cX12_held 51 = .ok (.bipush 11, 2) := by decide +kernel
theorem dX12_held_53 : decode cX12_held 53 = .ok (.iload_n 3, 1) := by decide +kernel
theorem dX12_held_54 : decode cX12_held 54 = .ok (.iadd, 1) := by decide +kernel
theorem dX12_held_55 : decode cX12_held 55 = .ok (.iaload, 1) := by decide +kernel
theorem dX12_held_56 : decode cX12_held 56 = .ok (.iload_n 1, 1) := by decide +kernel
theorem dX12_held_57 : decode cX12_held 57 = .ok (.if_icmp .ne 7, 3) := by decide +kernel
theorem dX12_held_60 : decode cX12_held 60 = .ok (.iconst 1, 1) := by decide +kernel
theorem dX12_held_61 : decode cX12_held 61 = .ok (.goto 4, 3) := by decide +kernel
theorem dX12_held_64 : decode cX12_held 64 = .ok (.iconst 0, 1) := by decide +kernel
theorem dX12_held_65 : decode cX12_held 65 = .ok (.iadd, 1) := by decide +kernel
theorem dX12_held_66 : decode cX12_held 66 = .ok (.istore_n 2, 1) := by decide +kernel
theorem dX12_held_67 : decode cX12_held 67 = .ok (.iinc 3 1, 3) := by decide +kernel
theorem dX12_held_70 : decode cX12_held 70 = .ok (.goto (-30), 3) := by decide +kernel
theorem dX12_held_73 : decode cX12_held 73 = .ok (.iload_n 2, 1) := by decide +kernel
theorem dX12_held_74 : decode cX12_held 74 = .ok (.ireturn, 1) := by decide +kernel
theorem dX12_urnOf_0 : decode cX12_urnOf 0 = .ok (.aload_n 0, 1) := by decide +kernel
theorem dX12_urnOf_1 : decode cX12_urnOf 1 = .ok (.iload_n 1, 1) := by decide +kernel
theorem dX12_urnOf_2 : decode cX12_urnOf 2 = .ok (.invokevirtual 97, 3) := by decide +kernel
theorem dX12_urnOf_5 : decode cX12_urnOf 5 = .ok (.ifCond .ne 6, 3) := by decide +kernel
theorem dX12_urnOf_8 : decode cX12_urnOf 8 = .ok (.bipush (-11), 2) := by decide +kernel
theorem dX12_urnOf_10 : decode cX12_urnOf 10 = .ok (.ireturn, 1) := by decide +kernel
theorem dX12_urnOf_11 : decode cX12_urnOf 11 = .ok (.iload_n 2, 1) := by decide +kernel
theorem dX12_urnOf_12 : decode cX12_urnOf 12 = .ok (.tableswitch 92 0 5 #[40, 50, 60, 66, 72, 82], 40) := by decide +kernel
theorem dX12_urnOf_52 : decode cX12_urnOf 52 = .ok (.aload_n 0, 1) := by decide +kernel
theorem dX12_urnOf_53 : decode cX12_urnOf 53 = .ok (.getfield 7, 3) := by decide +kernel
theorem dX12_urnOf_56 : decode cX12_urnOf 56 = .ok (.bipush 41, 2) := by decide +kernel
theorem dX12_urnOf_58 : decode cX12_urnOf 58 = .ok (.iload_n 1, 1) := by decide +kernel
theorem dX12_urnOf_59 : decode cX12_urnOf 59 = .ok (.iadd, 1) := by decide +kernel
theorem dX12_urnOf_60 : decode cX12_urnOf 60 = .ok (.iaload, 1) := by decide +kernel
theorem dX12_urnOf_61 : decode cX12_urnOf 61 = .ok (.ireturn, 1) := by decide +kernel
theorem dX12_urnOf_62 : decode cX12_urnOf 62 = .ok (.aload_n 0, 1) := by decide +kernel
theorem dX12_urnOf_63 : decode cX12_urnOf 63 = .ok (.getfield 7, 3) := by decide +kernel
theorem dX12_urnOf_66 : decode cX12_urnOf 66 = .ok (.bipush 65, 2) := by decide +kernel
theorem dX12_urnOf_68 : decode cX12_urnOf 68 = .ok (.iload_n 1, 1) := by decide +kernel
theorem dX12_urnOf_69 : decode cX12_urnOf 69 = .ok (.iadd, 1) := by decide +kernel
theorem dX12_urnOf_70 : decode cX12_urnOf 70 = .ok (.iaload, 1) := by decide +kernel
theorem dX12_urnOf_71 : decode cX12_urnOf 71 = .ok (.ireturn, 1) := by decide +kernel
theorem dX12_urnOf_72 : decode cX12_urnOf 72 = .ok (.aload_n 0, 1) := by decide +kernel
theorem dX12_urnOf_73 : decode cX12_urnOf 73 = .ok (.iload_n 1, 1) := by decide +kernel
theorem dX12_urnOf_74 : decode cX12_urnOf 74 = .ok (.invokevirtual 137, 3) := by decide +kernel
theorem dX12_urnOf_77 : decode cX12_urnOf 77 = .ok (.ireturn, 1) := by decide +kernel
theorem dX12_urnOf_78 : decode cX12_urnOf 78 = .ok (.aload_n 0, 1) := by decide +kernel
theorem dX12_urnOf_79 : decode cX12_urnOf 79 = .ok (.iload_n 1, 1) := by decide +kernel
theorem dX12_urnOf_80 : decode cX12_urnOf 80 = .ok (.invokevirtual 140, 3) := by decide +kernel
theorem dX12_urnOf_83 : decode cX12_urnOf 83 = .ok (.ireturn, 1) := by decide +kernel
theorem dX12_urnOf_84 : decode cX12_urnOf 84 = .ok (.aload_n 0, 1) := by decide +kernel
theorem dX12_urnOf_85 : decode cX12_urnOf 85 = .ok (.getfield 7, 3) := by decide +kernel
theorem dX12_urnOf_88 : decode cX12_urnOf 88 = .ok (.bipush 113, 2) := by decide +kernel
theorem dX12_urnOf_90 : decode cX12_urnOf 90 = .ok (.iload_n 1, 1) := by decide +kernel
theorem dX12_urnOf_91 : decode cX12_urnOf 91 = .ok (.iadd, 1) := by decide +kernel
theorem dX12_urnOf_92 : decode cX12_urnOf 92 = .ok (.iaload, 1) := by decide +kernel
theorem dX12_urnOf_93 : decode cX12_urnOf 93 = .ok (.ireturn, 1) := by decide +kernel
theorem dX12_urnOf_94 : decode cX12_urnOf 94 = .ok (.aload_n 0, 1) := by decide +kernel
theorem dX12_urnOf_95 : decode cX12_urnOf 95 = .ok (.getfield 7, 3) := by decide +kernel
theorem dX12_urnOf_98 : decode cX12_urnOf 98 = .ok (.bipush 89, 2) := by decide +kernel
theorem dX12_urnOf_100 : decode cX12_urnOf 100 = .ok (.iload_n 1, 1) := by decide +kernel
theorem dX12_urnOf_101 : decode cX12_urnOf 101 = .ok (.iadd, 1) := by decide +kernel
theorem dX12_urnOf_102 : decode cX12_urnOf 102 = .ok (.iaload, 1) := by decide +kernel
theorem dX12_urnOf_103 : decode cX12_urnOf 103 = .ok (.ireturn, 1) := by decide +kernel
theorem dX12_urnOf_104 : decode cX12_urnOf 104 = .ok (.bipush (-12), 2) := by decide +kernel
theorem dX12_urnOf_106 : decode cX12_urnOf 106 = .ok (.ireturn, 1) := by decide +kernel
theorem dX12_threadOf_0 : decode cX12_threadOf 0 = .ok (.aload_n 0, 1) := by decide +kernel
theorem dX12_threadOf_1 : decode cX12_threadOf 1 = .ok (.iload_n 1, 1) := by decide +kernel
theorem dX12_threadOf_2 : decode cX12_threadOf 2 = .ok (.invokevirtual 97, 3) := by decide +kernel
theorem dX12_threadOf_5 : decode cX12_threadOf 5 = .ok (.ifCond .eq 25, 3) := by decide +kernel
theorem dX12_threadOf_8 : decode cX12_threadOf 8 = .ok (.iload_n 2, 1) := by decide +kernel
theorem dX12_threadOf_9 : decode cX12_threadOf 9 = .ok (.iconst 0, 1) := by decide +kernel
theorem dX12_threadOf_10 : decode cX12_threadOf 10 = .ok (.iconst 3, 1) := by decide +kernel
theorem dX12_threadOf_11 : decode cX12_threadOf 11 = .ok (.invokestatic 58, 3) := by decide +kernel
theorem dX12_threadOf_14 : decode cX12_threadOf 14 = .ok (.ifCond .eq 16, 3) := by decide +kernel
theorem dX12_threadOf_17 : decode cX12_threadOf 17 = .ok (.aload_n 0, 1) := by decide +kernel
theorem dX12_threadOf_18 : decode cX12_threadOf 18 = .ok (.getfield 7, 3) := by decide +kernel
theorem dX12_threadOf_21 : decode cX12_threadOf 21 = .ok (.iload_n 1, 1) := by decide +kernel
theorem dX12_threadOf_22 : decode cX12_threadOf 22 = .ok (.iload_n 2, 1) := by decide +kernel
theorem dX12_threadOf_23 : decode cX12_threadOf 23 = .ok (.invokestatic 62, 3) := by decide +kernel
theorem dX12_threadOf_26 : decode cX12_threadOf 26 = .ok (.iaload, 1) := by decide +kernel
theorem dX12_threadOf_27 : decode cX12_threadOf 27 = .ok (.goto 5, 3) := by decide +kernel
theorem dX12_threadOf_30 : decode cX12_threadOf 30 = .ok (.bipush (-11), 2) := by decide +kernel
theorem dX12_threadOf_32 : decode cX12_threadOf 32 = .ok (.ireturn, 1) := by decide +kernel
theorem dX12_named_0 : decode cX12_named 0 = .ok (.iload_n 1, 1) := by decide +kernel
theorem dX12_named_1 : decode cX12_named 1 = .ok (.iconst 0, 1) := by decide +kernel
theorem dX12_named_2 : decode cX12_named 2 = .ok (.iconst 5, 1) := by decide +kernel
theorem dX12_named_3 : decode cX12_named 3 = .ok (.invokestatic 58, 3) := by decide +kernel
theorem dX12_named_6 : decode cX12_named 6 = .ok (.ifCond .eq 15, 3) := by decide +kernel
theorem dX12_named_9 : decode cX12_named 9 = .ok (.aload_n 0, 1) := by decide +kernel
theorem dX12_named_10 : decode cX12_named 10 = .ok (.getfield 7, 3) := by decide +kernel
theorem dX12_named_13 : decode cX12_named 13 = .ok (.bipush 11, 2) := by decide +kernel
theorem dX12_named_15 : decode cX12_named 15 = .ok (.iload_n 1, 1) := by decide +kernel
theorem dX12_named_16 : decode cX12_named 16 = .ok (.iadd, 1) := by decide +kernel
theorem dX12_named_17 : decode cX12_named 17 = .ok (.iaload, 1) := by decide +kernel
theorem dX12_named_18 : decode cX12_named 18 = .ok (.goto 5, 3) := by decide +kernel
theorem dX12_named_21 : decode cX12_named 21 = .ok (.bipush (-11), 2) := by decide +kernel
theorem dX12_named_23 : decode cX12_named 23 = .ok (.ireturn, 1) := by decide +kernel
theorem dX12_begin_0 : decode cX12_begin 0 = .ok (.aload_n 0, 1) := by decide +kernel
theorem dX12_begin_1 : decode cX12_begin 1 = .ok (.invokevirtual 111, 3) := by decide +kernel
theorem dX12_begin_4 : decode cX12_begin 4 = .ok (.aload_n 0, 1) := by decide +kernel
theorem dX12_begin_5 : decode cX12_begin 5 = .ok (.aload_n 0, 1) := by decide +kernel
theorem dX12_begin_6 : decode cX12_begin 6 = .ok (.getfield 7, 3) := by decide +kernel
theorem dX12_begin_9 : decode cX12_begin 9 = .ok (.iconst 0, 1) := by decide +kernel
theorem dX12_begin_10 : decode cX12_begin 10 = .ok (.iaload, 1) := by decide +kernel
theorem dX12_begin_11 : decode cX12_begin 11 = .ok (.ifCond .le 17, 3) := by decide +kernel
theorem dX12_begin_14 : decode cX12_begin 14 = .ok (.aload_n 0, 1) := by decide +kernel
theorem dX12_begin_15 : decode cX12_begin 15 = .ok (.iconst 4, 1) := by decide +kernel
theorem dX12_begin_16 : decode cX12_begin 16 = .ok (.aload_n 0, 1) := by decide +kernel
theorem dX12_begin_17 : decode cX12_begin 17 = .ok (.getfield 7, 3) := by decide +kernel
theorem dX12_begin_20 : decode cX12_begin 20 = .ok (.iconst 0, 1) := by decide +kernel
theorem dX12_begin_21 : decode cX12_begin 21 = .ok (.iaload, 1) := by decide +kernel
theorem dX12_begin_22 : decode cX12_begin 22 = .ok (.invokevirtual 91, 3) := by decide +kernel
theorem dX12_begin_25 : decode cX12_begin 25 = .ok (.goto 11, 3) := by decide +kernel
theorem dX12_begin_28 : decode cX12_begin 28 = .ok (.aload_n 0, 1) := by decide +kernel
theorem dX12_begin_29 : decode cX12_begin 29 = .ok (.aload_n 0, 1) := by decide +kernel
theorem dX12_begin_30 : decode cX12_begin 30 = .ok (.invokevirtual 107, 3) := by decide +kernel
theorem dX12_begin_33 : decode cX12_begin 33 = .ok (.invokevirtual 94, 3) := by decide +kernel
theorem dX12_begin_36 : decode cX12_begin 36 = .ok (.invokevirtual 118, 3) := by decide +kernel
theorem dX12_begin_39 : decode cX12_begin 39 = .ok (.ireturn, 1) := by decide +kernel
theorem dX12_step_0 : decode cX12_step 0 = .ok (.aload_n 0, 1) := by decide +kernel
theorem dX12_step_1 : decode cX12_step 1 = .ok (.invokevirtual 111, 3) := by decide +kernel
theorem dX12_step_4 : decode cX12_step 4 = .ok (.aload_n 0, 1) := by decide +kernel
theorem dX12_step_5 : decode cX12_step 5 = .ok (.aload_n 0, 1) := by decide +kernel
theorem dX12_step_6 : decode cX12_step 6 = .ok (.iload_n 1, 1) := by decide +kernel
theorem dX12_step_7 : decode cX12_step 7 = .ok (.invokevirtual 143, 3) := by decide +kernel
theorem dX12_step_10 : decode cX12_step 10 = .ok (.invokevirtual 118, 3) := by decide +kernel
theorem dX12_step_13 : decode cX12_step 13 = .ok (.ireturn, 1) := by decide +kernel
theorem dX12_round_0 : decode cX12_round 0 = .ok (.aload_n 0, 1) := by decide +kernel
theorem dX12_round_1 : decode cX12_round 1 = .ok (.invokevirtual 111, 3) := by decide +kernel
theorem dX12_round_4 : decode cX12_round 4 = .ok (.aload_n 0, 1) := by decide +kernel
theorem dX12_round_5 : decode cX12_round 5 = .ok (.aload_n 0, 1) := by decide +kernel
theorem dX12_round_6 : decode cX12_round 6 = .ok (.invokevirtual 146, 3) := by decide +kernel
theorem dX12_round_9 : decode cX12_round 9 = .ok (.invokevirtual 118, 3) := by decide +kernel
theorem dX12_round_12 : decode cX12_round 12 = .ok (.ireturn, 1) := by decide +kernel
theorem dX12_rite_0 : decode cX12_rite 0 = .ok (.aload_n 0, 1) := by decide +kernel
theorem dX12_rite_1 : decode cX12_rite 1 = .ok (.invokevirtual 111, 3) := by decide +kernel
theorem dX12_rite_4 : decode cX12_rite 4 = .ok (.aload_n 0, 1) := by decide +kernel
theorem dX12_rite_5 : decode cX12_rite 5 = .ok (.aload_n 0, 1) := by decide +kernel
theorem dX12_rite_6 : decode cX12_rite 6 = .ok (.invokevirtual 149, 3) := by decide +kernel
theorem dX12_rite_9 : decode cX12_rite 9 = .ok (.invokevirtual 118, 3) := by decide +kernel
theorem dX12_rite_12 : decode cX12_rite 12 = .ok (.ireturn, 1) := by decide +kernel
theorem dX12_due_0 : decode cX12_due 0 = .ok (.iload_n 1, 1) := by decide +kernel
theorem dX12_due_1 : decode cX12_due 1 = .ok (.iconst 0, 1) := by decide +kernel
theorem dX12_due_2 : decode cX12_due 2 = .ok (.aload_n 0, 1) := by decide +kernel
theorem dX12_due_3 : decode cX12_due 3 = .ok (.getfield 7, 3) := by decide +kernel
theorem dX12_due_6 : decode cX12_due 6 = .ok (.bipush 9, 2) := by decide +kernel
theorem dX12_due_8 : decode cX12_due 8 = .ok (.iaload, 1) := by decide +kernel
theorem dX12_due_9 : decode cX12_due 9 = .ok (.iconst 1, 1) := by decide +kernel
theorem dX12_due_10 : decode cX12_due 10 = .ok (.isub, 1) := by decide +kernel
theorem dX12_due_11 : decode cX12_due 11 = .ok (.invokestatic 58, 3) := by decide +kernel
theorem dX12_due_14 : decode cX12_due 14 = .ok (.ifCond .eq 16, 3) := by decide +kernel
theorem dX12_due_17 : decode cX12_due 17 = .ok (.aload_n 0, 1) := by decide +kernel
theorem dX12_due_18 : decode cX12_due 18 = .ok (.getfield 7, 3) := by decide +kernel
theorem dX12_due_21 : decode cX12_due 21 = .ok (.sipush 257, 3) := by decide +kernel
theorem dX12_due_24 : decode cX12_due 24 = .ok (.iload_n 1, 1) := by decide +kernel
theorem dX12_due_25 : decode cX12_due 25 = .ok (.iadd, 1) := by decide +kernel
theorem dX12_due_26 : decode cX12_due 26 = .ok (.iaload, 1) := by decide +kernel
theorem dX12_due_27 : decode cX12_due 27 = .ok (.goto 5, 3) := by decide +kernel
theorem dX12_due_30 : decode cX12_due 30 = .ok (.bipush (-11), 2) := by decide +kernel
theorem dX12_due_32 : decode cX12_due 32 = .ok (.ireturn, 1) := by decide +kernel
theorem dX12_grey_0 : decode cX12_grey 0 = .ok (.iload_n 1, 1) := by decide +kernel
theorem dX12_grey_1 : decode cX12_grey 1 = .ok (.iconst 0, 1) := by decide +kernel
theorem dX12_grey_2 : decode cX12_grey 2 = .ok (.aload_n 0, 1) := by decide +kernel
theorem dX12_grey_3 : decode cX12_grey 3 = .ok (.getfield 7, 3) := by decide +kernel
theorem dX12_grey_6 : decode cX12_grey 6 = .ok (.bipush 8, 2) := by decide +kernel
theorem dX12_grey_8 : decode cX12_grey 8 = .ok (.iaload, 1) := by decide +kernel
theorem dX12_grey_9 : decode cX12_grey 9 = .ok (.iconst 1, 1) := by decide +kernel
theorem dX12_grey_10 : decode cX12_grey 10 = .ok (.isub, 1) := by decide +kernel
theorem dX12_grey_11 : decode cX12_grey 11 = .ok (.invokestatic 58, 3) := by decide +kernel
theorem dX12_grey_14 : decode cX12_grey 14 = .ok (.ifCond .eq 16, 3) := by decide +kernel
theorem dX12_grey_17 : decode cX12_grey 17 = .ok (.aload_n 0, 1) := by decide +kernel
theorem dX12_grey_18 : decode cX12_grey 18 = .ok (.getfield 7, 3) := by decide +kernel
theorem dX12_grey_21 : decode cX12_grey 21 = .ok (.sipush 233, 3) := by decide +kernel
theorem dX12_grey_24 : decode cX12_grey 24 = .ok (.iload_n 1, 1) := by decide +kernel
theorem dX12_grey_25 : decode cX12_grey 25 = .ok (.iadd, 1) := by decide +kernel
theorem dX12_grey_26 : decode cX12_grey 26 = .ok (.iaload, 1) := by decide +kernel
theorem dX12_grey_27 : decode cX12_grey 27 = .ok (.goto 5, 3) := by decide +kernel
theorem dX12_grey_30 : decode cX12_grey 30 = .ok (.bipush (-11), 2) := by decide +kernel
theorem dX12_grey_32 : decode cX12_grey 32 = .ok (.ireturn, 1) := by decide +kernel
theorem dX12_freed_0 : decode cX12_freed 0 = .ok (.iload_n 1, 1) := by decide +kernel
theorem dX12_freed_1 : decode cX12_freed 1 = .ok (.iconst 0, 1) := by decide +kernel
theorem dX12_freed_2 : decode cX12_freed 2 = .ok (.aload_n 0, 1) := by decide +kernel
theorem dX12_freed_3 : decode cX12_freed 3 = .ok (.getfield 7, 3) := by decide +kernel
theorem dX12_freed_6 : decode cX12_freed 6 = .ok (.bipush 10, 2) := by decide +kernel
theorem dX12_freed_8 : decode cX12_freed 8 = .ok (.iaload, 1) := by decide +kernel
theorem dX12_freed_9 : decode cX12_freed 9 = .ok (.iconst 1, 1) := by decide +kernel
theorem dX12_freed_10 : decode cX12_freed 10 = .ok (.isub, 1) := by decide +kernel
theorem dX12_freed_11 : decode cX12_freed 11 = .ok (.invokestatic 58, 3) := by decide +kernel
theorem dX12_freed_14 : decode cX12_freed 14 = .ok (.ifCond .eq 16, 3) := by decide +kernel
theorem dX12_freed_17 : decode cX12_freed 17 = .ok (.aload_n 0, 1) := by decide +kernel
theorem dX12_freed_18 : decode cX12_freed 18 = .ok (.getfield 7, 3) := by decide +kernel
theorem dX12_freed_21 : decode cX12_freed 21 = .ok (.sipush 281, 3) := by decide +kernel
theorem dX12_freed_24 : decode cX12_freed 24 = .ok (.iload_n 1, 1) := by decide +kernel
theorem dX12_freed_25 : decode cX12_freed 25 = .ok (.iadd, 1) := by decide +kernel
theorem dX12_freed_26 : decode cX12_freed 26 = .ok (.iaload, 1) := by decide +kernel
theorem dX12_freed_27 : decode cX12_freed 27 = .ok (.goto 5, 3) := by decide +kernel
theorem dX12_freed_30 : decode cX12_freed 30 = .ok (.bipush (-11), 2) := by decide +kernel
theorem dX12_freed_32 : decode cX12_freed 32 = .ok (.ireturn, 1) := by decide +kernel
theorem dX12_nears_0 : decode cX12_nears 0 = .ok (.iload_n 1, 1) := by decide +kernel
theorem dX12_nears_1 : decode cX12_nears 1 = .ok (.bipush (-15), 2) := by decide +kernel
theorem dX12_nears_3 : decode cX12_nears 3 = .ok (.if_icmp .eq 20, 3) := by decide +kernel
theorem dX12_nears_6 : decode cX12_nears 6 = .ok (.iload_n 2, 1) := by decide +kernel
theorem dX12_nears_7 : decode cX12_nears 7 = .ok (.aload_n 0, 1) := by decide +kernel
theorem dX12_nears_8 : decode cX12_nears 8 = .ok (.getfield 31, 3) := by decide +kernel
theorem dX12_nears_11 : decode cX12_nears 11 = .ok (.iload_n 1, 1) := by decide +kernel
theorem dX12_nears_12 : decode cX12_nears 12 = .ok (.iaload, 1) := by decide +kernel
theorem dX12_nears_13 : decode cX12_nears 13 = .ok (.if_icmp .ge 10, 3) := by decide +kernel
theorem dX12_nears_16 : decode cX12_nears 16 = .ok (.aload_n 0, 1) := by decide +kernel
theorem dX12_nears_17 : decode cX12_nears 17 = .ok (.getfield 31, 3) := by decide +kernel
theorem dX12_nears_20 : decode cX12_nears 20 = .ok (.iload_n 1, 1) := by decide +kernel
theorem dX12_nears_21 : decode cX12_nears 21 = .ok (.iload_n 2, 1) := by decide +kernel
theorem dX12_nears_22 : decode cX12_nears 22 = .ok (.iastore, 1) := by decide +kernel
theorem dX12_nears_23 : decode cX12_nears 23 = .ok (.return_, 1) := by decide +kernel
theorem dX12_measures_0 : decode cX12_measures 0 = .ok (.iconst 0, 1) := by decide +kernel
theorem dX12_measures_1 : decode cX12_measures 1 = .ok (.istore_n 3, 1) := by decide +kernel
theorem dX12_measures_2 : decode cX12_measures 2 = .ok (.iload_n 3, 1) := by decide +kernel
theorem dX12_measures_3 : decode cX12_measures 3 = .ok (.bipush 24, 2) := by decide +kernel
theorem dX12_measures_5 : decode cX12_measures 5 = .ok (.if_icmp .ge 17, 3) := by decide +kernel
theorem dX12_measures_8 : decode cX12_measures 8 = .ok (.aload_n 0, 1) := by decide +kernel
theorem dX12_measures_9 : decode cX12_measures 9 = .ok (.getfield 31, 3) := by decide +kernel
theorem dX12_measures_12 : decode cX12_measures 12 = .ok (.iload_n 3, 1) := by decide +kernel
theorem dX12_measures_13 : decode cX12_measures 13 = .ok (.bipush 99, 2) := by decide +kernel
theorem dX12_measures_15 : decode cX12_measures 15 = .ok (.iastore, 1) := by decide +kernel
theorem dX12_measures_16 : decode cX12_measures 16 = .ok (.iinc 3 1, 3) := by decide +kernel
theorem dX12_measures_19 : decode cX12_measures 19 = .ok (.goto (-17), 3) := by decide +kernel
theorem dX12_measures_22 : decode cX12_measures 22 = .ok (.iconst 0, 1) := by decide +kernel
theorem dX12_measures_23 : decode cX12_measures 23 = .ok (.istore_n 3, 1) := by decide +kernel
theorem dX12_measures_24 : decode cX12_measures 24 = .ok (.iload_n 3, 1) := by decide +kernel
theorem dX12_measures_25 : decode cX12_measures 25 = .ok (.bipush 6, 2) := by decide +kernel
theorem dX12_measures_27 : decode cX12_measures 27 = .ok (.if_icmp .ge 28, 3) := by decide +kernel
theorem dX12_measures_30 : decode cX12_measures 30 = .ok (.iload_n 3, 1) := by decide +kernel
theorem dX12_measures_31 : decode cX12_measures 31 = .ok (.iload_n 1, 1) := by decide +kernel
theorem dX12_measures_32 : decode cX12_measures 32 = .ok (.if_icmp .eq 17, 3) := by decide +kernel
theorem dX12_measures_35 : decode cX12_measures 35 = .ok (.aload_n 0, 1) := by decide +kernel
theorem dX12_measures_36 : decode cX12_measures 36 = .ok (.aload_n 0, 1) := by decide +kernel
theorem dX12_measures_37 : decode cX12_measures 37 = .ok (.getfield 7, 3) := by decide +kernel
theorem dX12_measures_40 : decode cX12_measures 40 = .ok (.bipush 11, 2) := by decide +kernel
theorem dX12_measures_42 : decode cX12_measures 42 = .ok (.iload_n 3, 1) := by decide +kernel
theorem dX12_measures_43 : decode cX12_measures 43 = .ok (.iadd, 1) := by decide +kernel
theorem dX12_measures_44 : decode cX12_measures 44 = .ok (.iaload, 1) := by decide +kernel
theorem dX12_measures_45 : decode cX12_measures 45 = .ok (.iconst 0, 1) := by decide +kernel
theorem dX12_measures_46 : decode cX12_measures 46 = .ok (.invokevirtual 152, 3) := by decide +kernel
theorem dX12_measures_49 : decode cX12_measures 49 = .ok (.iinc 3 1, 3) := by decide +kernel
theorem dX12_measures_52 : decode cX12_measures 52 = .ok (.goto (-28), 3) := by decide +kernel
theorem dX12_measures_55 : decode cX12_measures 55 = .ok (.iconst 0, 1) := by decide +kernel
theorem dX12_measures_56 : decode cX12_measures 56 = .ok (.istore_n 3, 1) := by decide +kernel
theorem dX12_measures_57 : decode cX12_measures 57 = .ok (.iload_n 3, 1) := by decide +kernel
theorem dX12_measures_58 : decode cX12_measures 58 = .ok (.aload_n 0, 1) := by decide +kernel
theorem dX12_measures_59 : decode cX12_measures 59 = .ok (.getfield 7, 3) := by decide +kernel
theorem dX12_measures_62 : decode cX12_measures 62 = .ok (.bipush 9, 2) := by decide +kernel
theorem dX12_measures_64 : decode cX12_measures 64 = .ok (.iaload, 1) := by decide +kernel
theorem dX12_measures_65 : decode cX12_measures 65 = .ok (.if_icmp .ge 24, 3) := by decide +kernel
theorem dX12_measures_68 : decode cX12_measures 68 = .ok (.aload_n 0, 1) := by decide +kernel
theorem dX12_measures_69 : decode cX12_measures 69 = .ok (.aload_n 0, 1) := by decide +kernel
theorem dX12_measures_70 : decode cX12_measures 70 = .ok (.getfield 7, 3) := by decide +kernel
theorem dX12_measures_73 : decode cX12_measures 73 = .ok (.sipush 257, 3) := by decide +kernel
theorem dX12_measures_76 : decode cX12_measures 76 = .ok (.iload_n 3, 1) := by decide +kernel
theorem dX12_measures_77 : decode cX12_measures 77 = .ok (.iadd, 1) := by decide +kernel
theorem dX12_measures_78 : decode cX12_measures 78 = .ok (.iaload, 1) := by decide +kernel
theorem dX12_measures_79 : decode cX12_measures 79 = .ok (.iconst 0, 1) := by decide +kernel
theorem dX12_measures_80 : decode cX12_measures 80 = .ok (.invokevirtual 152, 3) := by decide +kernel
theorem dX12_measures_83 : decode cX12_measures 83 = .ok (.iinc 3 1, 3) := by decide +kernel
theorem dX12_measures_86 : decode cX12_measures 86 = .ok (.goto (-29), 3) := by decide +kernel
theorem dX12_measures_89 : decode cX12_measures 89 = .ok (.iconst 0, 1) := by decide +kernel
theorem dX12_measures_90 : decode cX12_measures 90 = .ok (.istore_n 3, 1) := by decide +kernel
theorem dX12_measures_91 : decode cX12_measures 91 = .ok (.iload_n 3, 1) := by decide +kernel
theorem dX12_measures_92 : decode cX12_measures 92 = .ok (.bipush 24, 2) := by decide +kernel
theorem dX12_measures_94 : decode cX12_measures 94 = .ok (.if_icmp .ge 32, 3) := by decide +kernel
theorem dX12_measures_97 : decode cX12_measures 97 = .ok (.iload_n 2, 1) := by decide +kernel
theorem dX12_measures_98 : decode cX12_measures 98 = .ok (.ifCond .eq 22, 3) := by decide +kernel
theorem dX12_measures_101 : decode cX12_measures 101 = .ok (.aload_n 0, 1) := by decide +kernel
theorem dX12_measures_102 : decode cX12_measures 102 = .ok (.getfield 7, 3) := by decide +kernel
theorem dX12_measures_105 : decode cX12_measures 105 = .ok (.bipush 65, 2) := by decide +kernel
theorem dX12_measures_107 : decode cX12_measures 107 = .ok (.iload_n 3, 1) := by decide +kernel
theorem dX12_measures_108 : decode cX12_measures 108 = .ok (.iadd, 1) := by decide +kernel
theorem dX12_measures_109 : decode cX12_measures 109 = .ok (.iaload, 1) := by decide +kernel
theorem dX12_measures_110 : decode cX12_measures 110 = .ok (.iconst 1, 1) := by decide +kernel
theorem dX12_measures_111 : decode cX12_measures 111 = .ok (.if_icmp .ne 9, 3) := by decide +kernel
theorem dX12_measures_114 : decode cX12_measures 114 = .ok (.aload_n 0, 1) := by decide +kernel
theorem dX12_measures_115 : decode cX12_measures 115 = .ok (.iload_n 3, 1) := by decide +kernel
theorem dX12_measures_116 : decode cX12_measures 116 = .ok (.iconst 0, 1) := by decide +kernel
theorem dX12_measures_117 : decode cX12_measures 117 = .ok (.invokevirtual 152, 3) := by decide +kernel
theorem dX12_measures_120 : decode cX12_measures 120 = .ok (.iinc 3 1, 3) := by decide +kernel
theorem dX12_measures_123 : decode cX12_measures 123 = .ok (.goto (-32), 3) := by decide +kernel
theorem dX12_measures_126 : decode cX12_measures 126 = .ok (.iconst 0, 1) := by decide +kernel
theorem dX12_measures_127 : decode cX12_measures 127 = .ok (.istore_n 3, 1) := by decide +kernel
theorem dX12_measures_128 : decode cX12_measures 128 = .ok (.iload_n 3, 1) := by decide +kernel
theorem dX12_measures_129 : decode cX12_measures 129 = .ok (.bipush 24, 2) := by decide +kernel
theorem dX12_measures_131 : decode cX12_measures 131 = .ok (.if_icmp .ge 77, 3) := by decide +kernel
theorem dX12_measures_134 : decode cX12_measures 134 = .ok (.iconst 0, 1) := by decide +kernel
theorem dX12_measures_135 : decode cX12_measures 135 = .ok (.istore 4, 2) := by decide +kernel
theorem dX12_measures_137 : decode cX12_measures 137 = .ok (.iload 4, 2) := by decide +kernel
theorem dX12_measures_139 : decode cX12_measures 139 = .ok (.bipush 24, 2) := by decide +kernel
theorem dX12_measures_141 : decode cX12_measures 141 = .ok (.if_icmp .ge 61, 3) := by decide +kernel
theorem dX12_measures_144 : decode cX12_measures 144 = .ok (.iconst 0, 1) := by decide +kernel
theorem dX12_measures_145 : decode cX12_measures 145 = .ok (.istore 5, 2) := by decide +kernel
theorem dX12_measures_147 : decode cX12_measures 147 = .ok (.iload 5, 2) := by decide +kernel
theorem dX12_measures_149 : decode cX12_measures 149 = .ok (.iconst 4, 1) := by decide +kernel
theorem dX12_measures_150 : decode cX12_measures 150 = .ok (.if_icmp .ge 46, 3) := by decide +kernel
theorem dX12_measures_153 : decode cX12_measures 153 = .ok (.aload_n 0, 1) := by decide +kernel
theorem dX12_measures_154 : decode cX12_measures 154 = .ok (.getfield 31, 3) := by decide +kernel
theorem dX12_measures_157 : decode cX12_measures 157 = .ok (.iload 4, 2) := by decide +kernel
theorem dX12_measures_159 : decode cX12_measures 159 = .ok (.iaload, 1) := by decide +kernel
theorem dX12_measures_160 : decode cX12_measures 160 = .ok (.bipush 99, 2) := by decide +kernel
theorem dX12_measures_162 : decode cX12_measures 162 = .ok (.if_icmp .ge 28, 3) := by decide +kernel
theorem dX12_measures_165 : decode cX12_measures 165 = .ok (.aload_n 0, 1) := by decide +kernel
theorem dX12_measures_166 : decode cX12_measures 166 = .ok (.aload_n 0, 1) := by decide +kernel
theorem dX12_measures_167 : decode cX12_measures 167 = .ok (.getfield 7, 3) := by decide +kernel
theorem dX12_measures_170 : decode cX12_measures 170 = .ok (.iload 4, 2) := by decide +kernel
theorem dX12_measures_172 : decode cX12_measures 172 = .ok (.iload 5, 2) := by decide +kernel
theorem dX12_measures_174 : decode cX12_measures 174 = .ok (.invokestatic 62, 3) := by decide +kernel
theorem dX12_measures_177 : decode cX12_measures 177 = .ok (.iaload, 1) := by decide +kernel
theorem dX12_measures_178 : decode cX12_measures 178 = .ok (.aload_n 0, 1) := by decide +kernel
theorem dX12_measures_179 : decode cX12_measures 179 = .ok (.getfield 31, 3) := by decide +kernel
theorem dX12_measures_182 : decode cX12_measures 182 = .ok (.iload 4, 2) := by decide +kernel
theorem dX12_measures_184 : decode cX12_measures 184 = .ok (.iaload, 1) := by decide +kernel
theorem dX12_measures_185 : decode cX12_measures 185 = .ok (.iconst 1, 1) := by decide +kernel
theorem dX12_measures_186 : decode cX12_measures 186 = .ok (.iadd, 1) := by decide +kernel
theorem dX12_measures_187 : decode cX12_measures 187 = .ok (.invokevirtual 152, 3) := by decide +kernel
theorem dX12_measures_190 : decode cX12_measures 190 = .ok (.iinc 5 1, 3) := by decide +kernel
theorem dX12_measures_193 : decode cX12_measures 193 = .ok (.goto (-46), 3) := by decide +kernel
theorem dX12_measures_196 : decode cX12_measures 196 = .ok (.iinc 4 1, 3) := by decide +kernel
theorem dX12_measures_199 : decode cX12_measures 199 = .ok (.goto (-62), 3) := by decide +kernel
theorem dX12_measures_202 : decode cX12_measures 202 = .ok (.iinc 3 1, 3) := by decide +kernel
theorem dX12_measures_205 : decode cX12_measures 205 = .ok (.goto (-77), 3) := by decide +kernel
theorem dX12_measures_208 : decode cX12_measures 208 = .ok (.return_, 1) := by decide +kernel
theorem dX12_reached_0 : decode cX12_reached 0 = .ok (.iconst 0, 1) := by decide +kernel
theorem dX12_reached_1 : decode cX12_reached 1 = .ok (.istore_n 1, 1) := by decide +kernel
theorem dX12_reached_2 : decode cX12_reached 2 = .ok (.iconst 0, 1) := by decide +kernel
theorem dX12_reached_3 : decode cX12_reached 3 = .ok (.istore_n 2, 1) := by decide +kernel
theorem dX12_reached_4 : decode cX12_reached 4 = .ok (.iload_n 2, 1) := by decide +kernel
theorem dX12_reached_5 : decode cX12_reached 5 = .ok (.bipush 24, 2) := by decide +kernel
theorem dX12_reached_7 : decode cX12_reached 7 = .ok (.if_icmp .ge 30, 3) := by decide +kernel
theorem dX12_reached_10 : decode cX12_reached 10 = .ok (.iload_n 1, 1) := by decide +kernel
theorem dX12_reached_11 : decode cX12_reached 11 = .ok (.aload_n 0, 1) := by decide +kernel
theorem dX12_reached_12 : decode cX12_reached 12 = .ok (.getfield 31, 3) := by decide +kernel
theorem dX12_reached_15 : decode cX12_reached 15 = .ok (.iload_n 2, 1) := by decide +kernel
theorem dX12_reached_16 : decode cX12_reached 16 = .ok (.iaload, 1) := by decide +kernel
theorem dX12_reached_17 : decode cX12_reached 17 = .ok (.bipush 99, 2) := by decide +kernel
theorem dX12_reached_19 : decode cX12_reached 19 = .ok (.if_icmp .ge 9, 3) := by decide +kernel
theorem dX12_reached_22 : decode cX12_reached 22 = .ok (.iconst 1, 1) := by decide +kernel
theorem dX12_reached_23 : decode cX12_reached 23 = .ok (.iload_n 2, 1) := by decide +kernel
theorem dX12_reached_24 : decode cX12_reached 24 = .ok (.ishl, 1) := by decide +kernel
theorem dX12_reached_25 : decode cX12_reached 25 = .ok (.goto 4, 3) := by decide +kernel
theorem dX12_reached_28 : decode cX12_reached 28 = .ok (.iconst 0, 1) := by decide +kernel
theorem dX12_reached_29 : decode cX12_reached 29 = .ok (.ior, 1) := by decide +kernel
theorem dX12_reached_30 : decode cX12_reached 30 = .ok (.istore_n 1, 1) := by decide +kernel
theorem dX12_reached_31 : decode cX12_reached 31 = .ok (.iinc 2 1, 3) := by decide +kernel
theorem dX12_reached_34 : decode cX12_reached 34 = .ok (.goto (-30), 3) := by decide +kernel
theorem dX12_reached_37 : decode cX12_reached 37 = .ok (.iload_n 1, 1) := by decide +kernel
theorem dX12_reached_38 : decode cX12_reached 38 = .ok (.ireturn, 1) := by decide +kernel
theorem dX12_live_0 : decode cX12_live 0 = .ok (.aload_n 0, 1) := by decide +kernel
theorem dX12_live_1 : decode cX12_live 1 = .ok (.bipush (-11), 2) := by decide +kernel
theorem dX12_live_3 : decode cX12_live 3 = .ok (.iconst 0, 1) := by decide +kernel
theorem dX12_live_4 : decode cX12_live 4 = .ok (.invokevirtual 156, 3) := by decide +kernel
theorem dX12_live_7 : decode cX12_live 7 = .ok (.aload_n 0, 1) := by decide +kernel
theorem dX12_live_8 : decode cX12_live 8 = .ok (.invokevirtual 160, 3) := by decide +kernel
theorem dX12_live_11 : decode cX12_live 11 = .ok (.ireturn, 1) := by decide +kernel
theorem dX12_liveAgain_0 : decode cX12_liveAgain 0 = .ok (.aload_n 0, 1) := by decide +kernel
theorem dX12_liveAgain_1 : decode cX12_liveAgain 1 = .ok (.invokevirtual 163, 3) := by decide +kernel
theorem dX12_liveAgain_4 : decode cX12_liveAgain 4 = .ok (.ireturn, 1) := by decide +kernel
def f_X12_urn (μ : mu_T) (a1 : Int) : Option (Int × mu_T) :=
  bd_ (f_X12_remembers μ) (fun μ1 => bp_ (f_X12_makes μ1 a1) (fun v7 μ7 => bp_ (f_X12_ends μ7 v7) (fun v10 μ10 => some (v10, μ10))))
set_option maxHeartbeats 4000000 in
set_option maxRecDepth 100000 in
theorem c_X12_urn {G : gp_} {ad : Nat → Nat} (μ : mu_T) (a1 : Int) (a : Int) (μr : mu_T) (h : f_X12_urn μ a1 = some (a, μr)) : mi_ yX12_urn cX12_urn 2 (some .int) ({ frames := 2, cells := 0, slots := 0, locals := 44 } : Room) G 9 ad (ceM G ad) [.ref (ad 0), .int (iI a1)] μ a μr := by
  refine mi_in (own := "UrnHeapModel") (lv := [(0, .ref (ad 0)), (1, .int (iI a1))]) (by decide) rfl rfl (Nat.le_of_ble_eq_true rfl) (fun X C E => ?_)
  unfold f_X12_urn at h
  refine xx_aload_n C 1 rfl 0 dX12_urn_0 rfl rfl ?_
  refine xx_cVv (As := []) (st := []) (o := 0) C 4 rfl (by decide) (ceM_0 _ _ _) rfl rfl ca_X12_remembers cv_X12_remembers w_1244 rfl ⟨Nat.le_of_ble_eq_true rfl, Nat.le_of_ble_eq_true rfl⟩ ⟨Nat.le_of_ble_eq_true rfl, Nat.le_of_ble_eq_true rfl⟩ (Nat.le_of_ble_eq_true rfl) dX12_urn_1 (fun μ1 e9 => c_X12_remembers _ μ1 e9) h (fun μ1 h => ?_) rfl
  refine xx_aload_n C 5 rfl 0 dX12_urn_4 rfl rfl ?_
  refine xx_aload_n C 6 rfl 0 dX12_urn_5 rfl rfl ?_
  refine xx_iload_n C 7 rfl 1 dX12_urn_6 rfl rfl ?_
  refine xx_cVi (As := [.int (iI a1)]) (st := [.ref (ad 0)]) (o := 0) C 10 rfl (by decide) (ceM_0 _ _ _) rfl rfl ca_X12_makes cv_X12_makes w_1248 rfl ⟨Nat.le_of_ble_eq_true rfl, Nat.le_of_ble_eq_true rfl⟩ ⟨Nat.le_of_ble_eq_true rfl, Nat.le_of_ble_eq_true rfl⟩ (Nat.le_of_ble_eq_true rfl) dX12_urn_7 (fun v7 μ7 e9 => c_X12_makes _ _ v7 μ7 e9) h (fun v7 μ7 h => ?_) rfl
  refine xx_cVi (As := [.int (iI v7)]) (st := []) (o := 0) C 13 rfl (by decide) (ceM_0 _ _ _) rfl rfl ca_X12_ends cv_X12_ends w_1260 rfl ⟨Nat.le_of_ble_eq_true rfl, Nat.le_of_ble_eq_true rfl⟩ ⟨Nat.le_of_ble_eq_true rfl, Nat.le_of_ble_eq_true rfl⟩ (Nat.le_of_ble_eq_true rfl) dX12_urn_10 (fun v10 μ10 e9 => c_X12_ends _ _ v10 μ10 e9) h (fun v10 μ10 h => ?_) rfl
  exact xx_iret C E rfl ⟨Nat.le_of_ble_eq_true rfl, Nat.le_of_ble_eq_true rfl⟩ dX12_urn_13 h

def f_X12_tie (μ : mu_T) (a1 : Int) (a2 : Int) (a3 : Int) : Option (Int × mu_T) :=
  bd_ (f_X12_remembers μ) (fun μ1 => bp_ (f_X12_ties μ1 a1 a2 a3) (fun v9 μ9 => bp_ (f_X12_ends μ9 v9) (fun v12 μ12 => some (v12, μ12))))
set_option maxHeartbeats 4000000 in
set_option maxRecDepth 100000 in
theorem c_X12_tie {G : gp_} {ad : Nat → Nat} (μ : mu_T) (a1 : Int) (a2 : Int) (a3 : Int) (a : Int) (μr : mu_T) (h : f_X12_tie μ a1 a2 a3 = some (a, μr)) : mi_ yX12_tie cX12_tie 4 (some .int) ({ frames := 3, cells := 0, slots := 0, locals := 67 } : Room) G 9 ad (ceM G ad) [.ref (ad 0), .int (iI a1), .int (iI a2), .int (iI a3)] μ a μr := by
  refine mi_in (own := "UrnHeapModel") (lv := [(0, .ref (ad 0)), (1, .int (iI a1)), (2, .int (iI a2)), (3, .int (iI a3))]) (by decide) rfl rfl (Nat.le_of_ble_eq_true rfl) (fun X C E => ?_)
  unfold f_X12_tie at h
  refine xx_aload_n C 1 rfl 0 dX12_tie_0 rfl rfl ?_
  refine xx_cVv (As := []) (st := []) (o := 0) C 4 rfl (by decide) (ceM_0 _ _ _) rfl rfl ca_X12_remembers cv_X12_remembers w_1244 rfl ⟨Nat.le_of_ble_eq_true rfl, Nat.le_of_ble_eq_true rfl⟩ ⟨Nat.le_of_ble_eq_true rfl, Nat.le_of_ble_eq_true rfl⟩ (Nat.le_of_ble_eq_true rfl) dX12_tie_1 (fun μ1 e9 => c_X12_remembers _ μ1 e9) h (fun μ1 h => ?_) rfl
  refine xx_aload_n C 5 rfl 0 dX12_tie_4 rfl rfl ?_
  refine xx_aload_n C 6 rfl 0 dX12_tie_5 rfl rfl ?_
  refine xx_iload_n C 7 rfl 1 dX12_tie_6 rfl rfl ?_
  refine xx_iload_n C 8 rfl 2 dX12_tie_7 rfl rfl ?_
  refine xx_iload_n C 9 rfl 3 dX12_tie_8 rfl rfl ?_
  refine xx_cVi (As := [.int (iI a1), .int (iI a2), .int (iI a3)]) (st := [.ref (ad 0)]) (o := 0) C 12 rfl (by decide) (ceM_0 _ _ _) rfl rfl ca_X12_ties cv_X12_ties w_1272 rfl ⟨Nat.le_of_ble_eq_true rfl, Nat.le_of_ble_eq_true rfl⟩ ⟨Nat.le_of_ble_eq_true rfl, Nat.le_of_ble_eq_true rfl⟩ (Nat.le_of_ble_eq_true rfl) dX12_tie_9 (fun v9 μ9 e9 => c_X12_ties _ _ _ _ v9 μ9 e9) h (fun v9 μ9 h => ?_) rfl
  refine xx_cVi (As := [.int (iI v9)]) (st := []) (o := 0) C 15 rfl (by decide) (ceM_0 _ _ _) rfl rfl ca_X12_ends cv_X12_ends w_1260 rfl ⟨Nat.le_of_ble_eq_true rfl, Nat.le_of_ble_eq_true rfl⟩ ⟨Nat.le_of_ble_eq_true rfl, Nat.le_of_ble_eq_true rfl⟩ (Nat.le_of_ble_eq_true rfl) dX12_tie_12 (fun v12 μ12 e9 => c_X12_ends _ _ v12 μ12 e9) h (fun v12 μ12 h => ?_) rfl
  exact xx_iret C E rfl ⟨Nat.le_of_ble_eq_true rfl, Nat.le_of_ble_eq_true rfl⟩ dX12_tie_15 h

def f_X12_untie (μ : mu_T) (a1 : Int) (a2 : Int) : Option (Int × mu_T) :=
  bd_ (f_X12_remembers μ) (fun μ1 => bp_ (f_X12_unties μ1 a1 a2) (fun v8 μ8 => bp_ (f_X12_ends μ8 v8) (fun v11 μ11 => some (v11, μ11))))
set_option maxHeartbeats 4000000 in
set_option maxRecDepth 100000 in
theorem c_X12_untie {G : gp_} {ad : Nat → Nat} (μ : mu_T) (a1 : Int) (a2 : Int) (a : Int) (μr : mu_T) (h : f_X12_untie μ a1 a2 = some (a, μr)) : mi_ yX12_untie cX12_untie 3 (some .int) ({ frames := 3, cells := 0, slots := 0, locals := 66 } : Room) G 9 ad (ceM G ad) [.ref (ad 0), .int (iI a1), .int (iI a2)] μ a μr := by
  refine mi_in (own := "UrnHeapModel") (lv := [(0, .ref (ad 0)), (1, .int (iI a1)), (2, .int (iI a2))]) (by decide) rfl rfl (Nat.le_of_ble_eq_true rfl) (fun X C E => ?_)
  unfold f_X12_untie at h
  refine xx_aload_n C 1 rfl 0 dX12_untie_0 rfl rfl ?_
  refine xx_cVv (As := []) (st := []) (o := 0) C 4 rfl (by decide) (ceM_0 _ _ _) rfl rfl ca_X12_remembers cv_X12_remembers w_1244 rfl ⟨Nat.le_of_ble_eq_true rfl, Nat.le_of_ble_eq_true rfl⟩ ⟨Nat.le_of_ble_eq_true rfl, Nat.le_of_ble_eq_true rfl⟩ (Nat.le_of_ble_eq_true rfl) dX12_untie_1 (fun μ1 e9 => c_X12_remembers _ μ1 e9) h (fun μ1 h => ?_) rfl
  refine xx_aload_n C 5 rfl 0 dX12_untie_4 rfl rfl ?_
  refine xx_aload_n C 6 rfl 0 dX12_untie_5 rfl rfl ?_
  refine xx_iload_n C 7 rfl 1 dX12_untie_6 rfl rfl ?_
  refine xx_iload_n C 8 rfl 2 dX12_untie_7 rfl rfl ?_
  refine xx_cVi (As := [.int (iI a1), .int (iI a2)]) (st := [.ref (ad 0)]) (o := 0) C 11 rfl (by decide) (ceM_0 _ _ _) rfl rfl ca_X12_unties cv_X12_unties w_1299 rfl ⟨Nat.le_of_ble_eq_true rfl, Nat.le_of_ble_eq_true rfl⟩ ⟨Nat.le_of_ble_eq_true rfl, Nat.le_of_ble_eq_true rfl⟩ (Nat.le_of_ble_eq_true rfl) dX12_untie_8 (fun v8 μ8 e9 => c_X12_unties _ _ _ v8 μ8 e9) h (fun v8 μ8 h => ?_) rfl
  refine xx_cVi (As := [.int (iI v8)]) (st := []) (o := 0) C 14 rfl (by decide) (ceM_0 _ _ _) rfl rfl ca_X12_ends cv_X12_ends w_1260 rfl ⟨Nat.le_of_ble_eq_true rfl, Nat.le_of_ble_eq_true rfl⟩ ⟨Nat.le_of_ble_eq_true rfl, Nat.le_of_ble_eq_true rfl⟩ (Nat.le_of_ble_eq_true rfl) dX12_untie_11 (fun v11 μ11 e9 => c_X12_ends _ _ v11 μ11 e9) h (fun v11 μ11 h => ?_) rfl
  exact xx_iret C E rfl ⟨Nat.le_of_ble_eq_true rfl, Nat.le_of_ble_eq_true rfl⟩ dX12_untie_14 h

def f_X12_weak (μ : mu_T) (a1 : Int) (a2 : Int) : Option (Int × mu_T) :=
  bd_ (f_X12_remembers μ) (fun μ1 => bp_ (f_X12_weakens μ1 a1 a2) (fun v8 μ8 => bp_ (f_X12_ends μ8 v8) (fun v11 μ11 => some (v11, μ11))))
set_option maxHeartbeats 4000000 in
set_option maxRecDepth 100000 in
theorem c_X12_weak {G : gp_} {ad : Nat → Nat} (μ : mu_T) (a1 : Int) (a2 : Int) (a : Int) (μr : mu_T) (h : f_X12_weak μ a1 a2 = some (a, μr)) : mi_ yX12_weak cX12_weak 3 (some .int) ({ frames := 3, cells := 0, slots := 0, locals := 66 } : Room) G 9 ad (ceM G ad) [.ref (ad 0), .int (iI a1), .int (iI a2)] μ a μr := by
  refine mi_in (own := "UrnHeapModel") (lv := [(0, .ref (ad 0)), (1, .int (iI a1)), (2, .int (iI a2))]) (by decide) rfl rfl (Nat.le_of_ble_eq_true rfl) (fun X C E => ?_)
  unfold f_X12_weak at h
  refine xx_aload_n C 1 rfl 0 dX12_weak_0 rfl rfl ?_
  refine xx_cVv (As := []) (st := []) (o := 0) C 4 rfl (by decide) (ceM_0 _ _ _) rfl rfl ca_X12_remembers cv_X12_remembers w_1244 rfl ⟨Nat.le_of_ble_eq_true rfl, Nat.le_of_ble_eq_true rfl⟩ ⟨Nat.le_of_ble_eq_true rfl, Nat.le_of_ble_eq_true rfl⟩ (Nat.le_of_ble_eq_true rfl) dX12_weak_1 (fun μ1 e9 => c_X12_remembers _ μ1 e9) h (fun μ1 h => ?_) rfl
  refine xx_aload_n C 5 rfl 0 dX12_weak_4 rfl rfl ?_
  refine xx_aload_n C 6 rfl 0 dX12_weak_5 rfl rfl ?_
  refine xx_iload_n C 7 rfl 1 dX12_weak_6 rfl rfl ?_
  refine xx_iload_n C 8 rfl 2 dX12_weak_7 rfl rfl ?_
  refine xx_cVi (As := [.int (iI a1), .int (iI a2)]) (st := [.ref (ad 0)]) (o := 0) C 11 rfl (by decide) (ceM_0 _ _ _) rfl rfl ca_X12_weakens cv_X12_weakens w_1307 rfl ⟨Nat.le_of_ble_eq_true rfl, Nat.le_of_ble_eq_true rfl⟩ ⟨Nat.le_of_ble_eq_true rfl, Nat.le_of_ble_eq_true rfl⟩ (Nat.le_of_ble_eq_true rfl) dX12_weak_8 (fun v8 μ8 e9 => c_X12_weakens _ _ _ v8 μ8 e9) h (fun v8 μ8 h => ?_) rfl
  refine xx_cVi (As := [.int (iI v8)]) (st := []) (o := 0) C 14 rfl (by decide) (ceM_0 _ _ _) rfl rfl ca_X12_ends cv_X12_ends w_1260 rfl ⟨Nat.le_of_ble_eq_true rfl, Nat.le_of_ble_eq_true rfl⟩ ⟨Nat.le_of_ble_eq_true rfl, Nat.le_of_ble_eq_true rfl⟩ (Nat.le_of_ble_eq_true rfl) dX12_weak_11 (fun v11 μ11 e9 => c_X12_ends _ _ v11 μ11 e9) h (fun v11 μ11 h => ?_) rfl
  exact xx_iret C E rfl ⟨Nat.le_of_ble_eq_true rfl, Nat.le_of_ble_eq_true rfl⟩ dX12_weak_14 h

def f_X12_unweak (μ : mu_T) (a1 : Int) : Option (Int × mu_T) :=
  bd_ (f_X12_remembers μ) (fun μ1 => bd_ (f_X12_isUrn μ1 a1) (fun v6 => eq_ v6 0
      (some ((-11), μ1))
      (rd_ μ1 1 293 (113 + a1) (fun v23 => wr_ μ1 1 293 (113 + a1) (-15) (fun μ35 => eq_ v23 (-15)
      (bp_ (f_X12_refused μ35 2 4) (fun v46 μ46 => bp_ (f_X12_ends μ46 v46) (fun v57 μ57 => some (v57, μ57))))
      (bp_ (f_X12_done μ35 v23) (fun v54 μ54 => bp_ (f_X12_ends μ54 v54) (fun v57 μ57 => some (v57, μ57)))))))))
set_option maxHeartbeats 4000000 in
set_option maxRecDepth 100000 in
theorem c_X12_unweak {G : gp_} {ad : Nat → Nat} (μ : mu_T) (a1 : Int) (a : Int) (μr : mu_T) (h : f_X12_unweak μ a1 = some (a, μr)) : mi_ yX12_unweak cX12_unweak 3 (some .int) ({ frames := 2, cells := 0, slots := 0, locals := 43 } : Room) G 9 ad (ceM G ad) [.ref (ad 0), .int (iI a1)] μ a μr := by
  refine mi_in (own := "UrnHeapModel") (lv := [(0, .ref (ad 0)), (1, .int (iI a1))]) (by decide) rfl rfl (Nat.le_of_ble_eq_true rfl) (fun X C E => ?_)
  unfold f_X12_unweak at h
  refine xx_aload_n C 1 rfl 0 dX12_unweak_0 rfl rfl ?_
  refine xx_cVv (As := []) (st := []) (o := 0) C 4 rfl (by decide) (ceM_0 _ _ _) rfl rfl ca_X12_remembers cv_X12_remembers w_1244 rfl ⟨Nat.le_of_ble_eq_true rfl, Nat.le_of_ble_eq_true rfl⟩ ⟨Nat.le_of_ble_eq_true rfl, Nat.le_of_ble_eq_true rfl⟩ (Nat.le_of_ble_eq_true rfl) dX12_unweak_1 (fun μ1 e9 => c_X12_remembers _ μ1 e9) h (fun μ1 h => ?_) rfl
  refine xx_aload_n C 5 rfl 0 dX12_unweak_4 rfl rfl ?_
  refine xx_iload_n C 6 rfl 1 dX12_unweak_5 rfl rfl ?_
  refine xx_cVip (As := [.int (iI a1)]) (st := []) (o := 0) C 9 rfl (by decide) (ceM_0 _ _ _) rfl rfl ca_X12_isUrn cv_X12_isUrn w_1276 rfl ⟨Nat.le_of_ble_eq_true rfl, Nat.le_of_ble_eq_true rfl⟩ ⟨Nat.le_of_ble_eq_true rfl, Nat.le_of_ble_eq_true rfl⟩ (Nat.le_of_ble_eq_true rfl) dX12_unweak_6 (fun v6 e9 => c_X12_isUrn _ _ v6 e9) h (fun v6 h => ?_) rfl
  refine xx_if_ne (tgt := 15) C 12 rfl dX12_unweak_9 (by decide) h (fun h => ?_) (fun h => ?_)
  · refine xx_aload_n C 16 rfl 0 dX12_unweak_15 rfl rfl ?_
    refine xx_getr (fi := 0) C 19 rfl (by decide) (ceM_0 _ _ _) rfl in_X12 (by decide) rfl w_1179 dX12_unweak_16 ?_
    refine xx_bipush C 21 rfl dX12_unweak_19 (by decide) ?_
    refine xx_iload_n C 22 rfl 1 dX12_unweak_21 rfl rfl ?_
    refine xx_iadd C 23 rfl dX12_unweak_22 ?_
    refine xx_iaload C 24 rfl (by decide) (fun _ => rfl) (by decide) dX12_unweak_23 h (fun v23 h => ?_)
    refine xx_istore_n (lv1 := [(2, .int (iI v23)), (0, .ref (ad 0)), (1, .int (iI a1))]) C 25 rfl (by decide) dX12_unweak_24 rfl rfl ?_
    refine xx_aload_n C 26 rfl 1 dX12_unweak_25 rfl rfl ?_
    refine xx_getr (fi := 0) C 29 rfl (by decide) (ceM_0 _ _ _) rfl in_X12 (by decide) rfl w_1179 dX12_unweak_26 ?_
    refine xx_bipush C 31 rfl dX12_unweak_29 (by decide) ?_
    refine xx_iload_n C 32 rfl 2 dX12_unweak_31 rfl rfl ?_
    refine xx_iadd C 33 rfl dX12_unweak_32 ?_
    refine xx_bipush C 35 rfl dX12_unweak_33 (by decide) ?_
    refine xx_iastore C 36 rfl (by decide) (fun _ => rfl) (by decide) dX12_unweak_35 h (fun μ35 h => ?_)
    refine xx_aload_n C 37 rfl 1 dX12_unweak_36 rfl rfl ?_
    refine xx_iload_n C 38 rfl 0 dX12_unweak_37 rfl rfl ?_
    refine xx_bipush C 40 rfl dX12_unweak_38 (by decide) ?_
    refine xx_icmp_ne (tgt := 52) C 43 rfl dX12_unweak_40 (by decide) h (fun h => ?_) (fun h => ?_)
    · refine xx_aload_n C 53 rfl 1 dX12_unweak_52 rfl rfl ?_
      refine xx_iload_n C 54 rfl 0 dX12_unweak_53 rfl rfl ?_
      refine xx_cVi (As := [.int (iI v23)]) (st := [.ref (ad 0)]) (o := 0) C 57 rfl (by decide) (ceM_0 _ _ _) rfl rfl ca_X12_done cv_X12_done w_1256 rfl ⟨Nat.le_of_ble_eq_true rfl, Nat.le_of_ble_eq_true rfl⟩ ⟨Nat.le_of_ble_eq_true rfl, Nat.le_of_ble_eq_true rfl⟩ (Nat.le_of_ble_eq_true rfl) dX12_unweak_54 (fun v54 μ54 e9 => c_X12_done _ _ v54 μ54 e9) h (fun v54 μ54 h => ?_) rfl
      refine xx_cVi (As := [.int (iI v54)]) (st := []) (o := 0) C 60 rfl (by decide) (ceM_0 _ _ _) rfl rfl ca_X12_ends cv_X12_ends w_1260 rfl ⟨Nat.le_of_ble_eq_true rfl, Nat.le_of_ble_eq_true rfl⟩ ⟨Nat.le_of_ble_eq_true rfl, Nat.le_of_ble_eq_true rfl⟩ (Nat.le_of_ble_eq_true rfl) dX12_unweak_57 (fun v57 μ57 e9 => c_X12_ends _ _ v57 μ57 e9) h (fun v57 μ57 h => ?_) rfl
      exact xx_iret C E rfl ⟨Nat.le_of_ble_eq_true rfl, Nat.le_of_ble_eq_true rfl⟩ dX12_unweak_60 h
    · refine xx_aload_n C 44 rfl 1 dX12_unweak_43 rfl rfl ?_
      refine xx_iconst C 45 rfl dX12_unweak_44 ?_
      refine xx_iconst C 46 rfl dX12_unweak_45 ?_
      refine xx_cVi (As := [.int (iI 2), .int (iI 4)]) (st := [.ref (ad 0)]) (o := 0) C 49 rfl (by decide) (ceM_0 _ _ _) rfl rfl ca_X12_refused cv_X12_refused w_1252 rfl ⟨Nat.le_of_ble_eq_true rfl, Nat.le_of_ble_eq_true rfl⟩ ⟨Nat.le_of_ble_eq_true rfl, Nat.le_of_ble_eq_true rfl⟩ (Nat.le_of_ble_eq_true rfl) dX12_unweak_46 (fun v46 μ46 e9 => c_X12_refused _ _ _ v46 μ46 e9) h (fun v46 μ46 h => ?_) rfl
      refine xx_goto C 57 dX12_unweak_49 (by decide) ?_
      refine xx_cVi (As := [.int (iI v46)]) (st := []) (o := 0) C 60 rfl (by decide) (ceM_0 _ _ _) rfl rfl ca_X12_ends cv_X12_ends w_1260 rfl ⟨Nat.le_of_ble_eq_true rfl, Nat.le_of_ble_eq_true rfl⟩ ⟨Nat.le_of_ble_eq_true rfl, Nat.le_of_ble_eq_true rfl⟩ (Nat.le_of_ble_eq_true rfl) dX12_unweak_57 (fun v57 μ57 e9 => c_X12_ends _ _ v57 μ57 e9) h (fun v57 μ57 h => ?_) rfl
      exact xx_iret C E rfl ⟨Nat.le_of_ble_eq_true rfl, Nat.le_of_ble_eq_true rfl⟩ dX12_unweak_60 h
  · refine xx_bipush C 14 rfl dX12_unweak_12 (by decide) ?_
    exact xx_iret C E rfl ⟨Nat.le_of_ble_eq_true rfl, Nat.le_of_ble_eq_true rfl⟩ dX12_unweak_14 h

def f_X12_name (μ : mu_T) (a1 : Int) (a2 : Int) : Option (Int × mu_T) :=
  bd_ (f_X12_remembers μ) (fun μ1 => bp_ (f_X12_names μ1 a1 a2) (fun v8 μ8 => bp_ (f_X12_ends μ8 v8) (fun v11 μ11 => some (v11, μ11))))
set_option maxHeartbeats 4000000 in
set_option maxRecDepth 100000 in
theorem c_X12_name {G : gp_} {ad : Nat → Nat} (μ : mu_T) (a1 : Int) (a2 : Int) (a : Int) (μr : mu_T) (h : f_X12_name μ a1 a2 = some (a, μr)) : mi_ yX12_name cX12_name 3 (some .int) ({ frames := 3, cells := 0, slots := 0, locals := 66 } : Room) G 9 ad (ceM G ad) [.ref (ad 0), .int (iI a1), .int (iI a2)] μ a μr := by
  refine mi_in (own := "UrnHeapModel") (lv := [(0, .ref (ad 0)), (1, .int (iI a1)), (2, .int (iI a2))]) (by decide) rfl rfl (Nat.le_of_ble_eq_true rfl) (fun X C E => ?_)
  unfold f_X12_name at h
  refine xx_aload_n C 1 rfl 0 dX12_name_0 rfl rfl ?_
  refine xx_cVv (As := []) (st := []) (o := 0) C 4 rfl (by decide) (ceM_0 _ _ _) rfl rfl ca_X12_remembers cv_X12_remembers w_1244 rfl ⟨Nat.le_of_ble_eq_true rfl, Nat.le_of_ble_eq_true rfl⟩ ⟨Nat.le_of_ble_eq_true rfl, Nat.le_of_ble_eq_true rfl⟩ (Nat.le_of_ble_eq_true rfl) dX12_name_1 (fun μ1 e9 => c_X12_remembers _ μ1 e9) h (fun μ1 h => ?_) rfl
  refine xx_aload_n C 5 rfl 0 dX12_name_4 rfl rfl ?_
  refine xx_aload_n C 6 rfl 0 dX12_name_5 rfl rfl ?_
  refine xx_iload_n C 7 rfl 1 dX12_name_6 rfl rfl ?_
  refine xx_iload_n C 8 rfl 2 dX12_name_7 rfl rfl ?_
  refine xx_cVi (As := [.int (iI a1), .int (iI a2)]) (st := [.ref (ad 0)]) (o := 0) C 11 rfl (by decide) (ceM_0 _ _ _) rfl rfl ca_X12_names cv_X12_names w_1319 rfl ⟨Nat.le_of_ble_eq_true rfl, Nat.le_of_ble_eq_true rfl⟩ ⟨Nat.le_of_ble_eq_true rfl, Nat.le_of_ble_eq_true rfl⟩ (Nat.le_of_ble_eq_true rfl) dX12_name_8 (fun v8 μ8 e9 => c_X12_names _ _ _ v8 μ8 e9) h (fun v8 μ8 h => ?_) rfl
  refine xx_cVi (As := [.int (iI v8)]) (st := []) (o := 0) C 14 rfl (by decide) (ceM_0 _ _ _) rfl rfl ca_X12_ends cv_X12_ends w_1260 rfl ⟨Nat.le_of_ble_eq_true rfl, Nat.le_of_ble_eq_true rfl⟩ ⟨Nat.le_of_ble_eq_true rfl, Nat.le_of_ble_eq_true rfl⟩ (Nat.le_of_ble_eq_true rfl) dX12_name_11 (fun v11 μ11 e9 => c_X12_ends _ _ v11 μ11 e9) h (fun v11 μ11 h => ?_) rfl
  exact xx_iret C E rfl ⟨Nat.le_of_ble_eq_true rfl, Nat.le_of_ble_eq_true rfl⟩ dX12_name_14 h

def f_X12_drop (μ : mu_T) (a1 : Int) : Option (Int × mu_T) :=
  bd_ (f_X12_remembers μ) (fun μ1 => bp_ (f_X12_drops μ1 a1) (fun v7 μ7 => bp_ (f_X12_ends μ7 v7) (fun v10 μ10 => some (v10, μ10))))
set_option maxHeartbeats 4000000 in
set_option maxRecDepth 100000 in
theorem c_X12_drop {G : gp_} {ad : Nat → Nat} (μ : mu_T) (a1 : Int) (a : Int) (μr : mu_T) (h : f_X12_drop μ a1 = some (a, μr)) : mi_ yX12_drop cX12_drop 2 (some .int) ({ frames := 2, cells := 0, slots := 0, locals := 44 } : Room) G 9 ad (ceM G ad) [.ref (ad 0), .int (iI a1)] μ a μr := by
  refine mi_in (own := "UrnHeapModel") (lv := [(0, .ref (ad 0)), (1, .int (iI a1))]) (by decide) rfl rfl (Nat.le_of_ble_eq_true rfl) (fun X C E => ?_)
  unfold f_X12_drop at h
  refine xx_aload_n C 1 rfl 0 dX12_drop_0 rfl rfl ?_
  refine xx_cVv (As := []) (st := []) (o := 0) C 4 rfl (by decide) (ceM_0 _ _ _) rfl rfl ca_X12_remembers cv_X12_remembers w_1244 rfl ⟨Nat.le_of_ble_eq_true rfl, Nat.le_of_ble_eq_true rfl⟩ ⟨Nat.le_of_ble_eq_true rfl, Nat.le_of_ble_eq_true rfl⟩ (Nat.le_of_ble_eq_true rfl) dX12_drop_1 (fun μ1 e9 => c_X12_remembers _ μ1 e9) h (fun μ1 h => ?_) rfl
  refine xx_aload_n C 5 rfl 0 dX12_drop_4 rfl rfl ?_
  refine xx_aload_n C 6 rfl 0 dX12_drop_5 rfl rfl ?_
  refine xx_iload_n C 7 rfl 1 dX12_drop_6 rfl rfl ?_
  refine xx_cVi (As := [.int (iI a1)]) (st := [.ref (ad 0)]) (o := 0) C 10 rfl (by decide) (ceM_0 _ _ _) rfl rfl ca_X12_drops cv_X12_drops w_1327 rfl ⟨Nat.le_of_ble_eq_true rfl, Nat.le_of_ble_eq_true rfl⟩ ⟨Nat.le_of_ble_eq_true rfl, Nat.le_of_ble_eq_true rfl⟩ (Nat.le_of_ble_eq_true rfl) dX12_drop_7 (fun v7 μ7 e9 => c_X12_drops _ _ v7 μ7 e9) h (fun v7 μ7 h => ?_) rfl
  refine xx_cVi (As := [.int (iI v7)]) (st := []) (o := 0) C 13 rfl (by decide) (ceM_0 _ _ _) rfl rfl ca_X12_ends cv_X12_ends w_1260 rfl ⟨Nat.le_of_ble_eq_true rfl, Nat.le_of_ble_eq_true rfl⟩ ⟨Nat.le_of_ble_eq_true rfl, Nat.le_of_ble_eq_true rfl⟩ (Nat.le_of_ble_eq_true rfl) dX12_drop_10 (fun v10 μ10 e9 => c_X12_ends _ _ v10 μ10 e9) h (fun v10 μ10 h => ?_) rfl
  exact xx_iret C E rfl ⟨Nat.le_of_ble_eq_true rfl, Nat.le_of_ble_eq_true rfl⟩ dX12_drop_13 h

def f_X12_holds_L4 (a1 : Int) (μ : mu_T) : Nat → Int → Int → Option Int
  | 0, _, _ => none
  | fu4 + 1, x2_4, x3_4 => lt_ x3_4 4
      (bd_ (f_X12_at μ a1 x3_4) (fun v16 => rd_ μ 1 293 v16 (fun v19 => jn_ (φ := Int → Option Int) (fun s0_30 => nm_ ((x2_4 + s0_30)) (fun n31 => nm_ (x3_4 + 1) (fun n32 => (f_X12_holds_L4 a1 μ fu4) n31 n32)))
      (fun J30 => eq_ v19 (-15)
      (J30 0)
      (J30 1)))))
      (some x2_4)
def f_X12_holds (μ : mu_T) (a1 : Int) : Option Int :=
  f_X12_holds_L4 a1 μ 20000 0 0
set_option maxHeartbeats 4000000 in
set_option maxRecDepth 100000 in
theorem c_X12_holds {G : gp_} {ad : Nat → Nat} (μ : mu_T) (a1 : Int) (a : Int) (h : f_X12_holds μ a1 = some a) : mi_ yX12_holds cX12_holds 4 (some .int) ({ frames := 1, cells := 0, slots := 0, locals := 21 } : Room) G 9 ad (ceM G ad) [.ref (ad 0), .int (iI a1)] μ a μ := by
  refine mi_in (own := "UrnHeapModel") (lv := [(0, .ref (ad 0)), (1, .int (iI a1))]) (by decide) rfl rfl (Nat.le_of_ble_eq_true rfl) (fun X C E => ?_)
  unfold f_X12_holds at h
  refine xx_iconst C 1 rfl dX12_holds_0 ?_
  refine xx_istore_n (lv1 := [(2, .int (iI 0)), (0, .ref (ad 0)), (1, .int (iI a1))]) C 2 rfl (by decide) dX12_holds_1 rfl rfl ?_
  refine xx_iconst C 3 rfl dX12_holds_2 ?_
  refine xx_istore_n (lv1 := [(3, .int (iI 0)), (2, .int (iI 0)), (0, .ref (ad 0)), (1, .int (iI a1))]) C 4 rfl (by decide) dX12_holds_3 rfl rfl ?_
  have L4 : ∀ (fu4 : Nat) (x2_4 : Int) (x3_4 : Int), f_X12_holds_L4 a1 μ fu4 x2_4 x3_4 = some a → wx_ G X 9 ad (ceM G ad) μ 0 0 4 [(0, .ref (ad 0)), (1, .int (iI a1)), (2, .int (iI x2_4)), (3, .int (iI x3_4))] [] := by
    intro fu4
    induction fu4 with
    | zero => intro x2_4 x3_4 h; exact nn_ h
    | succ fu4 K4 =>
      intro x2_4 x3_4 h
      rw [f_X12_holds_L4] at h
      generalize f_X12_holds_L4 a1 μ fu4 = R4 at K4 h
      refine xx_iload_n C 5 rfl 3 dX12_holds_4 rfl rfl ?_
      refine xx_iconst C 6 rfl dX12_holds_5 ?_
      refine xx_icmp_ge (tgt := 38) C 9 rfl dX12_holds_6 (by decide) h (fun h => ?_) (fun h => ?_)
      · refine xx_iload_n C 39 rfl 2 dX12_holds_38 rfl rfl ?_
        exact xx_iretp C E rfl ⟨Nat.le_of_ble_eq_true rfl, Nat.le_of_ble_eq_true rfl⟩ dX12_holds_39 h
      · refine xx_iload_n C 10 rfl 2 dX12_holds_9 rfl rfl ?_
        refine xx_aload_n C 11 rfl 0 dX12_holds_10 rfl rfl ?_
        refine xx_getr (fi := 0) C 14 rfl (by decide) (ceM_0 _ _ _) rfl in_X12 (by decide) rfl w_1179 dX12_holds_11 ?_
        refine xx_iload_n C 15 rfl 1 dX12_holds_14 rfl rfl ?_
        refine xx_iload_n C 16 rfl 3 dX12_holds_15 rfl rfl ?_
        refine xx_cSip (As := [.int (iI a1), .int (iI x3_4)]) (st := [.ref (ad 1), .int (iI x2_4)]) C 19 rfl  ca_X12_at cs_X12_at w_1176 rfl ⟨Nat.le_of_ble_eq_true rfl, Nat.le_of_ble_eq_true rfl⟩ ⟨Nat.le_of_ble_eq_true rfl, Nat.le_of_ble_eq_true rfl⟩ (Nat.le_of_ble_eq_true rfl) dX12_holds_16 (fun v16 e9 => c_X12_at _ _ _ v16 e9) h (fun v16 h => ?_) rfl
        refine xx_iaload C 20 rfl (by decide) (fun _ => rfl) (by decide) dX12_holds_19 h (fun v19 h => ?_)
        refine xx_bipush C 22 rfl dX12_holds_20 (by decide) ?_
        refine jn_r (fun J => ∀ (s0_30 : Int), J s0_30 = some a → wx_ G X 9 ad (ceM G ad) μ 0 0 30 [(0, .ref (ad 0)), (1, .int (iI a1)), (3, .int (iI x3_4))] [.int (iI s0_30), .int (iI x2_4)]) h (fun s0_30 h => ?_) (fun J30 K30 h => ?_)
        · refine xx_iadd C 31 rfl dX12_holds_30 ?_
          refine xx_nm C h (fun n31 h => ?_)
          refine xx_istore_n (lv1 := [(2, .int (iI n31)), (0, .ref (ad 0)), (1, .int (iI a1)), (3, .int (iI x3_4))]) C 32 rfl (by decide) dX12_holds_31 rfl rfl ?_
          refine xx_iincn C 35 rfl 3 (by decide) dX12_holds_32 rfl h (fun n32 h => ?_)
          refine xx_lv (lv1 := [(3, .int (iI n32)), (2, .int (iI n31)), (0, .ref (ad 0)), (1, .int (iI a1))]) rfl ?_
          refine xx_goto C 4 dX12_holds_35 (by decide) ?_
          refine xx_sub [2, 3, 1, 0] rfl ?_
          exact K4 n31 n32 h
        · refine xx_icmp_ne (tgt := 29) C 25 rfl dX12_holds_22 (by decide) h (fun h => ?_) (fun h => ?_)
          · refine xx_iconst C 30 rfl dX12_holds_29 ?_
            refine xx_sub [0, 1, 3] rfl ?_
            exact K30 1 h
          · refine xx_iconst C 26 rfl dX12_holds_25 ?_
            refine xx_goto C 30 dX12_holds_26 (by decide) ?_
            refine xx_sub [0, 1, 3] rfl ?_
            exact K30 0 h
  refine xx_sub [2, 3, 1, 0] rfl ?_
  exact L4 _ _ _ h

def f_X12_held_L40 (a1 : Int) (μ : mu_T) : Nat → Int → Int → Option Int
  | 0, _, _ => none
  | fu40 + 1, x2_40, x3_40 => lt_ x3_40 6
      (rd_ μ 1 293 (11 + x3_40) (fun v55 => jn_ (φ := Int → Option Int) (fun s0_65 => nm_ ((x2_40 + s0_65)) (fun n66 => nm_ (x3_40 + 1) (fun n67 => (f_X12_held_L40 a1 μ fu40) n66 n67)))
      (fun J65 => eq_ v55 a1
      (J65 1)
      (J65 0))))
      (some x2_40)
def f_X12_held_L4 (J38 : Int → Option Int) (a1 : Int) (μ : mu_T) : Nat → Int → Int → Option Int
  | 0, _, _ => none
  | fu4 + 1, x2_4, x3_4 => lt_ x3_4 96
      (rd_ μ 1 293 (137 + x3_4) (fun v20 => jn_ (φ := Int → Option Int) (fun s0_30 => nm_ ((x2_4 + s0_30)) (fun n31 => nm_ (x3_4 + 1) (fun n32 => (f_X12_held_L4 J38 a1 μ fu4) n31 n32)))
      (fun J30 => eq_ v20 a1
      (J30 1)
      (J30 0))))
      (J38 x2_4)
def f_X12_held (μ : mu_T) (a1 : Int) : Option Int :=
  jn_ (φ := Int → Option Int) (fun x2_38 => f_X12_held_L40 a1 μ 20000 x2_38 0)
      (fun J38 => f_X12_held_L4 J38 a1 μ 20000 0 0)
set_option maxHeartbeats 4000000 in
set_option maxRecDepth 100000 in
theorem c_X12_held {G : gp_} {ad : Nat → Nat} (μ : mu_T) (a1 : Int) (a : Int) (h : f_X12_held μ a1 = some a) : mi_ yX12_held cX12_held 4 (some .int) ({ frames := 0, cells := 0, slots := 0, locals := 0 } : Room) G 9 ad (ceM G ad) [.ref (ad 0), .int (iI a1)] μ a μ := by
  refine mi_in (own := "UrnHeapModel") (lv := [(0, .ref (ad 0)), (1, .int (iI a1))]) (by decide) rfl rfl (Nat.le_of_ble_eq_true rfl) (fun X C E => ?_)
  unfold f_X12_held at h
  refine xx_iconst C 1 rfl dX12_held_0 ?_
  refine xx_istore_n (lv1 := [(2, .int (iI 0)), (0, .ref (ad 0)), (1, .int (iI a1))]) C 2 rfl (by decide) dX12_held_1 rfl rfl ?_
  refine xx_iconst C 3 rfl dX12_held_2 ?_
  refine xx_istore_n (lv1 := [(3, .int (iI 0)), (2, .int (iI 0)), (0, .ref (ad 0)), (1, .int (iI a1))]) C 4 rfl (by decide) dX12_held_3 rfl rfl ?_
  refine jn_r (fun J => ∀ (x2_38 : Int), J x2_38 = some a → wx_ G X 9 ad (ceM G ad) μ 0 0 38 [(0, .ref (ad 0)), (1, .int (iI a1)), (2, .int (iI x2_38))] []) h (fun x2_38 h => ?_) (fun J38 K38 h => ?_)
  · refine xx_iconst C 39 rfl dX12_held_38 ?_
    refine xx_istore_n (lv1 := [(3, .int (iI 0)), (0, .ref (ad 0)), (1, .int (iI a1)), (2, .int (iI x2_38))]) C 40 rfl (by decide) dX12_held_39 rfl rfl ?_
    have L40 : ∀ (fu40 : Nat) (x2_40 : Int) (x3_40 : Int), f_X12_held_L40 a1 μ fu40 x2_40 x3_40 = some a → wx_ G X 9 ad (ceM G ad) μ 0 0 40 [(0, .ref (ad 0)), (1, .int (iI a1)), (2, .int (iI x2_40)), (3, .int (iI x3_40))] [] := by
      intro fu40
      induction fu40 with
      | zero => intro x2_40 x3_40 h; exact nn_ h
      | succ fu40 K40 =>
        intro x2_40 x3_40 h
        rw [f_X12_held_L40] at h
        generalize f_X12_held_L40 a1 μ fu40 = R40 at K40 h
        refine xx_iload_n C 41 rfl 3 dX12_held_40 rfl rfl ?_
        refine xx_bipush C 43 rfl dX12_held_41 (by decide) ?_
        refine xx_icmp_ge (tgt := 73) C 46 rfl dX12_held_43 (by decide) h (fun h => ?_) (fun h => ?_)
        · refine xx_iload_n C 74 rfl 2 dX12_held_73 rfl rfl ?_
          exact xx_iretp C E rfl ⟨Nat.le_of_ble_eq_true rfl, Nat.le_of_ble_eq_true rfl⟩ dX12_held_74 h
        · refine xx_iload_n C 47 rfl 2 dX12_held_46 rfl rfl ?_
          refine xx_aload_n C 48 rfl 0 dX12_held_47 rfl rfl ?_
          refine xx_getr (fi := 0) C 51 rfl (by decide) (ceM_0 _ _ _) rfl in_X12 (by decide) rfl w_1179 dX12_held_48 ?_
          refine xx_bipush C 53 rfl dX12_held_51 (by decide) ?_
          refine xx_iload_n C 54 rfl 3 dX12_held_53 rfl rfl ?_
          refine xx_iadd C 55 rfl dX12_held_54 ?_
          refine xx_iaload C 56 rfl (by decide) (fun _ => rfl) (by decide) dX12_held_55 h (fun v55 h => ?_)
          refine xx_iload_n C 57 rfl 1 dX12_held_56 rfl rfl ?_
          refine jn_r (fun J => ∀ (s0_65 : Int), J s0_65 = some a → wx_ G X 9 ad (ceM G ad) μ 0 0 65 [(0, .ref (ad 0)), (1, .int (iI a1)), (3, .int (iI x3_40))] [.int (iI s0_65), .int (iI x2_40)]) h (fun s0_65 h => ?_) (fun J65 K65 h => ?_)
          · refine xx_iadd C 66 rfl dX12_held_65 ?_
            refine xx_nm C h (fun n66 h => ?_)
            refine xx_istore_n (lv1 := [(2, .int (iI n66)), (0, .ref (ad 0)), (1, .int (iI a1)), (3, .int (iI x3_40))]) C 67 rfl (by decide) dX12_held_66 rfl rfl ?_
            refine xx_iincn C 70 rfl 3 (by decide) dX12_held_67 rfl h (fun n67 h => ?_)
            refine xx_lv (lv1 := [(3, .int (iI n67)), (2, .int (iI n66)), (0, .ref (ad 0)), (1, .int (iI a1))]) rfl ?_
            refine xx_goto C 40 dX12_held_70 (by decide) ?_
            refine xx_sub [2, 3, 1, 0] rfl ?_
            exact K40 n66 n67 h
          · refine xx_icmp_ne (tgt := 64) C 60 rfl dX12_held_57 (by decide) h (fun h => ?_) (fun h => ?_)
            · refine xx_iconst C 65 rfl dX12_held_64 ?_
              refine xx_sub [0, 1, 3] rfl ?_
              exact K65 0 h
            · refine xx_iconst C 61 rfl dX12_held_60 ?_
              refine xx_goto C 65 dX12_held_61 (by decide) ?_
              refine xx_sub [0, 1, 3] rfl ?_
              exact K65 1 h
    refine xx_sub [1, 2, 3, 0] rfl ?_
    exact L40 _ _ _ h
  · have L4 : ∀ (fu4 : Nat) (x2_4 : Int) (x3_4 : Int), f_X12_held_L4 J38 a1 μ fu4 x2_4 x3_4 = some a → wx_ G X 9 ad (ceM G ad) μ 0 0 4 [(0, .ref (ad 0)), (1, .int (iI a1)), (2, .int (iI x2_4)), (3, .int (iI x3_4))] [] := by
      intro fu4
      induction fu4 with
      | zero => intro x2_4 x3_4 h; exact nn_ h
      | succ fu4 K4 =>
        intro x2_4 x3_4 h
        rw [f_X12_held_L4] at h
        generalize f_X12_held_L4 J38 a1 μ fu4 = R4 at K4 h
        refine xx_iload_n C 5 rfl 3 dX12_held_4 rfl rfl ?_
        refine xx_bipush C 7 rfl dX12_held_5 (by decide) ?_
        refine xx_icmp_ge (tgt := 38) C 10 rfl dX12_held_7 (by decide) h (fun h => ?_) (fun h => ?_)
        · refine xx_sub [0, 1, 2] rfl ?_
          exact K38 x2_4 h
        · refine xx_iload_n C 11 rfl 2 dX12_held_10 rfl rfl ?_
          refine xx_aload_n C 12 rfl 0 dX12_held_11 rfl rfl ?_
          refine xx_getr (fi := 0) C 15 rfl (by decide) (ceM_0 _ _ _) rfl in_X12 (by decide) rfl w_1179 dX12_held_12 ?_
          refine xx_sipush C 18 rfl dX12_held_15 (by decide) ?_
          refine xx_iload_n C 19 rfl 3 dX12_held_18 rfl rfl ?_
          refine xx_iadd C 20 rfl dX12_held_19 ?_
          refine xx_iaload C 21 rfl (by decide) (fun _ => rfl) (by decide) dX12_held_20 h (fun v20 h => ?_)
          refine xx_iload_n C 22 rfl 1 dX12_held_21 rfl rfl ?_
          refine jn_r (fun J => ∀ (s0_30 : Int), J s0_30 = some a → wx_ G X 9 ad (ceM G ad) μ 0 0 30 [(0, .ref (ad 0)), (1, .int (iI a1)), (3, .int (iI x3_4))] [.int (iI s0_30), .int (iI x2_4)]) h (fun s0_30 h => ?_) (fun J30 K30 h => ?_)
          · refine xx_iadd C 31 rfl dX12_held_30 ?_
            refine xx_nm C h (fun n31 h => ?_)
            refine xx_istore_n (lv1 := [(2, .int (iI n31)), (0, .ref (ad 0)), (1, .int (iI a1)), (3, .int (iI x3_4))]) C 32 rfl (by decide) dX12_held_31 rfl rfl ?_
            refine xx_iincn C 35 rfl 3 (by decide) dX12_held_32 rfl h (fun n32 h => ?_)
            refine xx_lv (lv1 := [(3, .int (iI n32)), (2, .int (iI n31)), (0, .ref (ad 0)), (1, .int (iI a1))]) rfl ?_
            refine xx_goto C 4 dX12_held_35 (by decide) ?_
            refine xx_sub [2, 3, 1, 0] rfl ?_
            exact K4 n31 n32 h
          · refine xx_icmp_ne (tgt := 29) C 25 rfl dX12_held_22 (by decide) h (fun h => ?_) (fun h => ?_)
            · refine xx_iconst C 30 rfl dX12_held_29 ?_
              refine xx_sub [0, 1, 3] rfl ?_
              exact K30 0 h
            · refine xx_iconst C 26 rfl dX12_held_25 ?_
              refine xx_goto C 30 dX12_held_26 (by decide) ?_
              refine xx_sub [0, 1, 3] rfl ?_
              exact K30 1 h
    refine xx_sub [2, 3, 1, 0] rfl ?_
    exact L4 _ _ _ h

def f_X12_urnOf (μ : mu_T) (a1 : Int) (a2 : Int) : Option Int :=
  bd_ (f_X12_isUrn μ a1) (fun v2 => eq_ v2 0
      (some (-11))
      (ts_ a2 [0, 1, 2, 3, 4, 5] [rd_ μ 1 293 (41 + a1) (fun v60 => some v60),
      rd_ μ 1 293 (65 + a1) (fun v70 => some v70),
      bd_ (f_X12_holds μ a1) (fun v74 => some v74),
      bd_ (f_X12_held μ a1) (fun v80 => some v80),
      rd_ μ 1 293 (113 + a1) (fun v92 => some v92),
      rd_ μ 1 293 (89 + a1) (fun v102 => some v102)]
      (some (-12))))
set_option maxHeartbeats 4000000 in
set_option maxRecDepth 100000 in
theorem c_X12_urnOf {G : gp_} {ad : Nat → Nat} (μ : mu_T) (a1 : Int) (a2 : Int) (a : Int) (h : f_X12_urnOf μ a1 a2 = some a) : mi_ yX12_urnOf cX12_urnOf 3 (some .int) ({ frames := 2, cells := 0, slots := 0, locals := 44 } : Room) G 9 ad (ceM G ad) [.ref (ad 0), .int (iI a1), .int (iI a2)] μ a μ := by
  refine mi_in (own := "UrnHeapModel") (lv := [(0, .ref (ad 0)), (1, .int (iI a1)), (2, .int (iI a2))]) (by decide) rfl rfl (Nat.le_of_ble_eq_true rfl) (fun X C E => ?_)
  unfold f_X12_urnOf at h
  refine xx_aload_n C 1 rfl 0 dX12_urnOf_0 rfl rfl ?_
  refine xx_iload_n C 2 rfl 1 dX12_urnOf_1 rfl rfl ?_
  refine xx_cVip (As := [.int (iI a1)]) (st := []) (o := 0) C 5 rfl (by decide) (ceM_0 _ _ _) rfl rfl ca_X12_isUrn cv_X12_isUrn w_1276 rfl ⟨Nat.le_of_ble_eq_true rfl, Nat.le_of_ble_eq_true rfl⟩ ⟨Nat.le_of_ble_eq_true rfl, Nat.le_of_ble_eq_true rfl⟩ (Nat.le_of_ble_eq_true rfl) dX12_urnOf_2 (fun v2 e9 => c_X12_isUrn _ _ v2 e9) h (fun v2 h => ?_) rfl
  refine xx_if_ne (tgt := 11) C 8 rfl dX12_urnOf_5 (by decide) h (fun h => ?_) (fun h => ?_)
  · refine xx_iload_n C 12 rfl 2 dX12_urnOf_11 rfl rfl ?_
    refine xx_tsw C [0, 1, 2, 3, 4, 5] _ [52, 62, 72, 78, 84, 94] 104 dX12_urnOf_12 (by decide) rfl h (fun h => ?_) ⟨fun h => ?_, fun h => ?_, fun h => ?_, fun h => ?_, fun h => ?_, fun h => ?_, trivial⟩
    · refine xx_bipush C 106 rfl dX12_urnOf_104 (by decide) ?_
      exact xx_iretp C E rfl ⟨Nat.le_of_ble_eq_true rfl, Nat.le_of_ble_eq_true rfl⟩ dX12_urnOf_106 h
    · refine xx_aload_n C 53 rfl 0 dX12_urnOf_52 rfl rfl ?_
      refine xx_getr (fi := 0) C 56 rfl (by decide) (ceM_0 _ _ _) rfl in_X12 (by decide) rfl w_1179 dX12_urnOf_53 ?_
      refine xx_bipush C 58 rfl dX12_urnOf_56 (by decide) ?_
      refine xx_iload_n C 59 rfl 1 dX12_urnOf_58 rfl rfl ?_
      refine xx_iadd C 60 rfl dX12_urnOf_59 ?_
      refine xx_iaload C 61 rfl (by decide) (fun _ => rfl) (by decide) dX12_urnOf_60 h (fun v60 h => ?_)
      exact xx_iretp C E rfl ⟨Nat.le_of_ble_eq_true rfl, Nat.le_of_ble_eq_true rfl⟩ dX12_urnOf_61 h
    · refine xx_aload_n C 63 rfl 0 dX12_urnOf_62 rfl rfl ?_
      refine xx_getr (fi := 0) C 66 rfl (by decide) (ceM_0 _ _ _) rfl in_X12 (by decide) rfl w_1179 dX12_urnOf_63 ?_
      refine xx_bipush C 68 rfl dX12_urnOf_66 (by decide) ?_
      refine xx_iload_n C 69 rfl 1 dX12_urnOf_68 rfl rfl ?_
      refine xx_iadd C 70 rfl dX12_urnOf_69 ?_
      refine xx_iaload C 71 rfl (by decide) (fun _ => rfl) (by decide) dX12_urnOf_70 h (fun v70 h => ?_)
      exact xx_iretp C E rfl ⟨Nat.le_of_ble_eq_true rfl, Nat.le_of_ble_eq_true rfl⟩ dX12_urnOf_71 h
    · refine xx_aload_n C 73 rfl 0 dX12_urnOf_72 rfl rfl ?_
      refine xx_iload_n C 74 rfl 1 dX12_urnOf_73 rfl rfl ?_
      refine xx_cVip (As := [.int (iI a1)]) (st := []) (o := 0) C 77 rfl (by decide) (ceM_0 _ _ _) rfl rfl ca_X12_holds cv_X12_holds w_1335 rfl ⟨Nat.le_of_ble_eq_true rfl, Nat.le_of_ble_eq_true rfl⟩ ⟨Nat.le_of_ble_eq_true rfl, Nat.le_of_ble_eq_true rfl⟩ (Nat.le_of_ble_eq_true rfl) dX12_urnOf_74 (fun v74 e9 => c_X12_holds _ _ v74 e9) h (fun v74 h => ?_) rfl
      exact xx_iretp C E rfl ⟨Nat.le_of_ble_eq_true rfl, Nat.le_of_ble_eq_true rfl⟩ dX12_urnOf_77 h
    · refine xx_aload_n C 79 rfl 0 dX12_urnOf_78 rfl rfl ?_
      refine xx_iload_n C 80 rfl 1 dX12_urnOf_79 rfl rfl ?_
      refine xx_cVip (As := [.int (iI a1)]) (st := []) (o := 0) C 83 rfl (by decide) (ceM_0 _ _ _) rfl rfl ca_X12_held cv_X12_held w_1339 rfl ⟨Nat.le_of_ble_eq_true rfl, Nat.le_of_ble_eq_true rfl⟩ ⟨Nat.le_of_ble_eq_true rfl, Nat.le_of_ble_eq_true rfl⟩ (Nat.le_of_ble_eq_true rfl) dX12_urnOf_80 (fun v80 e9 => c_X12_held _ _ v80 e9) h (fun v80 h => ?_) rfl
      exact xx_iretp C E rfl ⟨Nat.le_of_ble_eq_true rfl, Nat.le_of_ble_eq_true rfl⟩ dX12_urnOf_83 h
    · refine xx_aload_n C 85 rfl 0 dX12_urnOf_84 rfl rfl ?_
      refine xx_getr (fi := 0) C 88 rfl (by decide) (ceM_0 _ _ _) rfl in_X12 (by decide) rfl w_1179 dX12_urnOf_85 ?_
      refine xx_bipush C 90 rfl dX12_urnOf_88 (by decide) ?_
      refine xx_iload_n C 91 rfl 1 dX12_urnOf_90 rfl rfl ?_
      refine xx_iadd C 92 rfl dX12_urnOf_91 ?_
      refine xx_iaload C 93 rfl (by decide) (fun _ => rfl) (by decide) dX12_urnOf_92 h (fun v92 h => ?_)
      exact xx_iretp C E rfl ⟨Nat.le_of_ble_eq_true rfl, Nat.le_of_ble_eq_true rfl⟩ dX12_urnOf_93 h
    · refine xx_aload_n C 95 rfl 0 dX12_urnOf_94 rfl rfl ?_
      refine xx_getr (fi := 0) C 98 rfl (by decide) (ceM_0 _ _ _) rfl in_X12 (by decide) rfl w_1179 dX12_urnOf_95 ?_
      refine xx_bipush C 100 rfl dX12_urnOf_98 (by decide) ?_
      refine xx_iload_n C 101 rfl 1 dX12_urnOf_100 rfl rfl ?_
      refine xx_iadd C 102 rfl dX12_urnOf_101 ?_
      refine xx_iaload C 103 rfl (by decide) (fun _ => rfl) (by decide) dX12_urnOf_102 h (fun v102 h => ?_)
      exact xx_iretp C E rfl ⟨Nat.le_of_ble_eq_true rfl, Nat.le_of_ble_eq_true rfl⟩ dX12_urnOf_103 h
  · refine xx_bipush C 10 rfl dX12_urnOf_8 (by decide) ?_
    exact xx_iretp C E rfl ⟨Nat.le_of_ble_eq_true rfl, Nat.le_of_ble_eq_true rfl⟩ dX12_urnOf_10 h

def f_X12_threadOf (μ : mu_T) (a1 : Int) (a2 : Int) : Option Int :=
  bd_ (f_X12_isUrn μ a1) (fun v2 => eq_ v2 0
      (some (-11))
      (bd_ (f_X12_in μ a2 0 3) (fun v11 => eq_ v11 0
      (some (-11))
      (bd_ (f_X12_at μ a1 a2) (fun v23 => rd_ μ 1 293 v23 (fun v26 => some v26))))))
set_option maxHeartbeats 4000000 in
set_option maxRecDepth 100000 in
theorem c_X12_threadOf {G : gp_} {ad : Nat → Nat} (μ : mu_T) (a1 : Int) (a2 : Int) (a : Int) (h : f_X12_threadOf μ a1 a2 = some a) : mi_ yX12_threadOf cX12_threadOf 3 (some .int) ({ frames := 2, cells := 0, slots := 0, locals := 43 } : Room) G 9 ad (ceM G ad) [.ref (ad 0), .int (iI a1), .int (iI a2)] μ a μ := by
  refine mi_in (own := "UrnHeapModel") (lv := [(0, .ref (ad 0)), (1, .int (iI a1)), (2, .int (iI a2))]) (by decide) rfl rfl (Nat.le_of_ble_eq_true rfl) (fun X C E => ?_)
  unfold f_X12_threadOf at h
  refine xx_aload_n C 1 rfl 0 dX12_threadOf_0 rfl rfl ?_
  refine xx_iload_n C 2 rfl 1 dX12_threadOf_1 rfl rfl ?_
  refine xx_cVip (As := [.int (iI a1)]) (st := []) (o := 0) C 5 rfl (by decide) (ceM_0 _ _ _) rfl rfl ca_X12_isUrn cv_X12_isUrn w_1276 rfl ⟨Nat.le_of_ble_eq_true rfl, Nat.le_of_ble_eq_true rfl⟩ ⟨Nat.le_of_ble_eq_true rfl, Nat.le_of_ble_eq_true rfl⟩ (Nat.le_of_ble_eq_true rfl) dX12_threadOf_2 (fun v2 e9 => c_X12_isUrn _ _ v2 e9) h (fun v2 h => ?_) rfl
  refine xx_if_eq (tgt := 30) C 8 rfl dX12_threadOf_5 (by decide) h (fun h => ?_) (fun h => ?_)
  · refine xx_bipush C 32 rfl dX12_threadOf_30 (by decide) ?_
    exact xx_iretp C E rfl ⟨Nat.le_of_ble_eq_true rfl, Nat.le_of_ble_eq_true rfl⟩ dX12_threadOf_32 h
  · refine xx_iload_n C 9 rfl 2 dX12_threadOf_8 rfl rfl ?_
    refine xx_iconst C 10 rfl dX12_threadOf_9 ?_
    refine xx_iconst C 11 rfl dX12_threadOf_10 ?_
    refine xx_cSip (As := [.int (iI a2), .int (iI 0), .int (iI 3)]) (st := []) C 14 rfl  ca_X12_in cs_X12_in w_1280 rfl ⟨Nat.le_of_ble_eq_true rfl, Nat.le_of_ble_eq_true rfl⟩ ⟨Nat.le_of_ble_eq_true rfl, Nat.le_of_ble_eq_true rfl⟩ (Nat.le_of_ble_eq_true rfl) dX12_threadOf_11 (fun v11 e9 => c_X12_in _ _ _ _ v11 e9) h (fun v11 h => ?_) rfl
    refine xx_if_eq (tgt := 30) C 17 rfl dX12_threadOf_14 (by decide) h (fun h => ?_) (fun h => ?_)
    · refine xx_bipush C 32 rfl dX12_threadOf_30 (by decide) ?_
      exact xx_iretp C E rfl ⟨Nat.le_of_ble_eq_true rfl, Nat.le_of_ble_eq_true rfl⟩ dX12_threadOf_32 h
    · refine xx_aload_n C 18 rfl 0 dX12_threadOf_17 rfl rfl ?_
      refine xx_getr (fi := 0) C 21 rfl (by decide) (ceM_0 _ _ _) rfl in_X12 (by decide) rfl w_1179 dX12_threadOf_18 ?_
      refine xx_iload_n C 22 rfl 1 dX12_threadOf_21 rfl rfl ?_
      refine xx_iload_n C 23 rfl 2 dX12_threadOf_22 rfl rfl ?_
      refine xx_cSip (As := [.int (iI a1), .int (iI a2)]) (st := [.ref (ad 1)]) C 26 rfl  ca_X12_at cs_X12_at w_1176 rfl ⟨Nat.le_of_ble_eq_true rfl, Nat.le_of_ble_eq_true rfl⟩ ⟨Nat.le_of_ble_eq_true rfl, Nat.le_of_ble_eq_true rfl⟩ (Nat.le_of_ble_eq_true rfl) dX12_threadOf_23 (fun v23 e9 => c_X12_at _ _ _ v23 e9) h (fun v23 h => ?_) rfl
      refine xx_iaload C 27 rfl (by decide) (fun _ => rfl) (by decide) dX12_threadOf_26 h (fun v26 h => ?_)
      refine xx_goto C 32 dX12_threadOf_27 (by decide) ?_
      exact xx_iretp C E rfl ⟨Nat.le_of_ble_eq_true rfl, Nat.le_of_ble_eq_true rfl⟩ dX12_threadOf_32 h

def f_X12_named (μ : mu_T) (a1 : Int) : Option Int :=
  bd_ (f_X12_in μ a1 0 5) (fun v3 => eq_ v3 0
      (some (-11))
      (rd_ μ 1 293 (11 + a1) (fun v17 => some v17)))
set_option maxHeartbeats 4000000 in
set_option maxRecDepth 100000 in
theorem c_X12_named {G : gp_} {ad : Nat → Nat} (μ : mu_T) (a1 : Int) (a : Int) (h : f_X12_named μ a1 = some a) : mi_ yX12_named cX12_named 2 (some .int) ({ frames := 1, cells := 0, slots := 0, locals := 22 } : Room) G 9 ad (ceM G ad) [.ref (ad 0), .int (iI a1)] μ a μ := by
  refine mi_in (own := "UrnHeapModel") (lv := [(0, .ref (ad 0)), (1, .int (iI a1))]) (by decide) rfl rfl (Nat.le_of_ble_eq_true rfl) (fun X C E => ?_)
  unfold f_X12_named at h
  refine xx_iload_n C 1 rfl 1 dX12_named_0 rfl rfl ?_
  refine xx_iconst C 2 rfl dX12_named_1 ?_
  refine xx_iconst C 3 rfl dX12_named_2 ?_
  refine xx_cSip (As := [.int (iI a1), .int (iI 0), .int (iI 5)]) (st := []) C 6 rfl  ca_X12_in cs_X12_in w_1280 rfl ⟨Nat.le_of_ble_eq_true rfl, Nat.le_of_ble_eq_true rfl⟩ ⟨Nat.le_of_ble_eq_true rfl, Nat.le_of_ble_eq_true rfl⟩ (Nat.le_of_ble_eq_true rfl) dX12_named_3 (fun v3 e9 => c_X12_in _ _ _ _ v3 e9) h (fun v3 h => ?_) rfl
  refine xx_if_eq (tgt := 21) C 9 rfl dX12_named_6 (by decide) h (fun h => ?_) (fun h => ?_)
  · refine xx_bipush C 23 rfl dX12_named_21 (by decide) ?_
    exact xx_iretp C E rfl ⟨Nat.le_of_ble_eq_true rfl, Nat.le_of_ble_eq_true rfl⟩ dX12_named_23 h
  · refine xx_aload_n C 10 rfl 0 dX12_named_9 rfl rfl ?_
    refine xx_getr (fi := 0) C 13 rfl (by decide) (ceM_0 _ _ _) rfl in_X12 (by decide) rfl w_1179 dX12_named_10 ?_
    refine xx_bipush C 15 rfl dX12_named_13 (by decide) ?_
    refine xx_iload_n C 16 rfl 1 dX12_named_15 rfl rfl ?_
    refine xx_iadd C 17 rfl dX12_named_16 ?_
    refine xx_iaload C 18 rfl (by decide) (fun _ => rfl) (by decide) dX12_named_17 h (fun v17 h => ?_)
    refine xx_goto C 23 dX12_named_18 (by decide) ?_
    exact xx_iretp C E rfl ⟨Nat.le_of_ble_eq_true rfl, Nat.le_of_ble_eq_true rfl⟩ dX12_named_23 h

def f_X12_begin (μ : mu_T)  : Option (Int × mu_T) :=
  bd_ (f_X12_remembers μ) (fun μ1 => rd_ μ1 1 293 0 (fun v10 => lt_ 0 v10
      (rd_ μ1 1 293 0 (fun v21 => bp_ (f_X12_refused μ1 4 v21) (fun v22 μ22 => bp_ (f_X12_ends μ22 v22) (fun v36 μ36 => some (v36, μ36)))))
      (bp_ (f_X12_beginsRound μ1) (fun v30 μ30 => bp_ (f_X12_done μ30 v30) (fun v33 μ33 => bp_ (f_X12_ends μ33 v33) (fun v36 μ36 => some (v36, μ36)))))))
set_option maxHeartbeats 4000000 in
set_option maxRecDepth 100000 in
theorem c_X12_begin {G : gp_} {ad : Nat → Nat} (μ : mu_T)  (a : Int) (μr : mu_T) (h : f_X12_begin μ  = some (a, μr)) : mi_ yX12_begin cX12_begin 1 (some .int) ({ frames := 3, cells := 0, slots := 0, locals := 63 } : Room) G 9 ad (ceM G ad) [.ref (ad 0)] μ a μr := by
  refine mi_in (own := "UrnHeapModel") (lv := [(0, .ref (ad 0))]) (by decide) rfl rfl (Nat.le_of_ble_eq_true rfl) (fun X C E => ?_)
  unfold f_X12_begin at h
  refine xx_aload_n C 1 rfl 0 dX12_begin_0 rfl rfl ?_
  refine xx_cVv (As := []) (st := []) (o := 0) C 4 rfl (by decide) (ceM_0 _ _ _) rfl rfl ca_X12_remembers cv_X12_remembers w_1244 rfl ⟨Nat.le_of_ble_eq_true rfl, Nat.le_of_ble_eq_true rfl⟩ ⟨Nat.le_of_ble_eq_true rfl, Nat.le_of_ble_eq_true rfl⟩ (Nat.le_of_ble_eq_true rfl) dX12_begin_1 (fun μ1 e9 => c_X12_remembers _ μ1 e9) h (fun μ1 h => ?_) rfl
  refine xx_aload_n C 5 rfl 0 dX12_begin_4 rfl rfl ?_
  refine xx_aload_n C 6 rfl 0 dX12_begin_5 rfl rfl ?_
  refine xx_getr (fi := 0) C 9 rfl (by decide) (ceM_0 _ _ _) rfl in_X12 (by decide) rfl w_1179 dX12_begin_6 ?_
  refine xx_iconst C 10 rfl dX12_begin_9 ?_
  refine xx_iaload C 11 rfl (by decide) (fun _ => rfl) (by decide) dX12_begin_10 h (fun v10 h => ?_)
  refine xx_if_le (tgt := 28) C 14 rfl dX12_begin_11 (by decide) h (fun h => ?_) (fun h => ?_)
  · refine xx_aload_n C 29 rfl 0 dX12_begin_28 rfl rfl ?_
    refine xx_aload_n C 30 rfl 0 dX12_begin_29 rfl rfl ?_
    refine xx_cVi (As := []) (st := [.ref (ad 0), .ref (ad 0)]) (o := 0) C 33 rfl (by decide) (ceM_0 _ _ _) rfl rfl ca_X12_beginsRound cv_X12_beginsRound w_1355 rfl ⟨Nat.le_of_ble_eq_true rfl, Nat.le_of_ble_eq_true rfl⟩ ⟨Nat.le_of_ble_eq_true rfl, Nat.le_of_ble_eq_true rfl⟩ (Nat.le_of_ble_eq_true rfl) dX12_begin_30 (fun v30 μ30 e9 => c_X12_beginsRound _ v30 μ30 e9) h (fun v30 μ30 h => ?_) rfl
    refine xx_cVi (As := [.int (iI v30)]) (st := [.ref (ad 0)]) (o := 0) C 36 rfl (by decide) (ceM_0 _ _ _) rfl rfl ca_X12_done cv_X12_done w_1256 rfl ⟨Nat.le_of_ble_eq_true rfl, Nat.le_of_ble_eq_true rfl⟩ ⟨Nat.le_of_ble_eq_true rfl, Nat.le_of_ble_eq_true rfl⟩ (Nat.le_of_ble_eq_true rfl) dX12_begin_33 (fun v33 μ33 e9 => c_X12_done _ _ v33 μ33 e9) h (fun v33 μ33 h => ?_) rfl
    refine xx_cVi (As := [.int (iI v33)]) (st := []) (o := 0) C 39 rfl (by decide) (ceM_0 _ _ _) rfl rfl ca_X12_ends cv_X12_ends w_1260 rfl ⟨Nat.le_of_ble_eq_true rfl, Nat.le_of_ble_eq_true rfl⟩ ⟨Nat.le_of_ble_eq_true rfl, Nat.le_of_ble_eq_true rfl⟩ (Nat.le_of_ble_eq_true rfl) dX12_begin_36 (fun v36 μ36 e9 => c_X12_ends _ _ v36 μ36 e9) h (fun v36 μ36 h => ?_) rfl
    exact xx_iret C E rfl ⟨Nat.le_of_ble_eq_true rfl, Nat.le_of_ble_eq_true rfl⟩ dX12_begin_39 h
  · refine xx_aload_n C 15 rfl 0 dX12_begin_14 rfl rfl ?_
    refine xx_iconst C 16 rfl dX12_begin_15 ?_
    refine xx_aload_n C 17 rfl 0 dX12_begin_16 rfl rfl ?_
    refine xx_getr (fi := 0) C 20 rfl (by decide) (ceM_0 _ _ _) rfl in_X12 (by decide) rfl w_1179 dX12_begin_17 ?_
    refine xx_iconst C 21 rfl dX12_begin_20 ?_
    refine xx_iaload C 22 rfl (by decide) (fun _ => rfl) (by decide) dX12_begin_21 h (fun v21 h => ?_)
    refine xx_cVi (As := [.int (iI 4), .int (iI v21)]) (st := [.ref (ad 0)]) (o := 0) C 25 rfl (by decide) (ceM_0 _ _ _) rfl rfl ca_X12_refused cv_X12_refused w_1252 rfl ⟨Nat.le_of_ble_eq_true rfl, Nat.le_of_ble_eq_true rfl⟩ ⟨Nat.le_of_ble_eq_true rfl, Nat.le_of_ble_eq_true rfl⟩ (Nat.le_of_ble_eq_true rfl) dX12_begin_22 (fun v22 μ22 e9 => c_X12_refused _ _ _ v22 μ22 e9) h (fun v22 μ22 h => ?_) rfl
    refine xx_goto C 36 dX12_begin_25 (by decide) ?_
    refine xx_cVi (As := [.int (iI v22)]) (st := []) (o := 0) C 39 rfl (by decide) (ceM_0 _ _ _) rfl rfl ca_X12_ends cv_X12_ends w_1260 rfl ⟨Nat.le_of_ble_eq_true rfl, Nat.le_of_ble_eq_true rfl⟩ ⟨Nat.le_of_ble_eq_true rfl, Nat.le_of_ble_eq_true rfl⟩ (Nat.le_of_ble_eq_true rfl) dX12_begin_36 (fun v36 μ36 e9 => c_X12_ends _ _ v36 μ36 e9) h (fun v36 μ36 h => ?_) rfl
    exact xx_iret C E rfl ⟨Nat.le_of_ble_eq_true rfl, Nat.le_of_ble_eq_true rfl⟩ dX12_begin_39 h

def f_X12_step (μ : mu_T) (a1 : Int) : Option (Int × mu_T) :=
  bd_ (f_X12_remembers μ) (fun μ1 => bp_ (f_X12_stepsOn μ1 a1) (fun v7 μ7 => bp_ (f_X12_ends μ7 v7) (fun v10 μ10 => some (v10, μ10))))
set_option maxHeartbeats 4000000 in
set_option maxRecDepth 100000 in
theorem c_X12_step {G : gp_} {ad : Nat → Nat} (μ : mu_T) (a1 : Int) (a : Int) (μr : mu_T) (h : f_X12_step μ a1 = some (a, μr)) : mi_ yX12_step cX12_step 2 (some .int) ({ frames := 7, cells := 0, slots := 0, locals := 150 } : Room) G 9 ad (ceM G ad) [.ref (ad 0), .int (iI a1)] μ a μr := by
  refine mi_in (own := "UrnHeapModel") (lv := [(0, .ref (ad 0)), (1, .int (iI a1))]) (by decide) rfl rfl (Nat.le_of_ble_eq_true rfl) (fun X C E => ?_)
  unfold f_X12_step at h
  refine xx_aload_n C 1 rfl 0 dX12_step_0 rfl rfl ?_
  refine xx_cVv (As := []) (st := []) (o := 0) C 4 rfl (by decide) (ceM_0 _ _ _) rfl rfl ca_X12_remembers cv_X12_remembers w_1244 rfl ⟨Nat.le_of_ble_eq_true rfl, Nat.le_of_ble_eq_true rfl⟩ ⟨Nat.le_of_ble_eq_true rfl, Nat.le_of_ble_eq_true rfl⟩ (Nat.le_of_ble_eq_true rfl) dX12_step_1 (fun μ1 e9 => c_X12_remembers _ μ1 e9) h (fun μ1 h => ?_) rfl
  refine xx_aload_n C 5 rfl 0 dX12_step_4 rfl rfl ?_
  refine xx_aload_n C 6 rfl 0 dX12_step_5 rfl rfl ?_
  refine xx_iload_n C 7 rfl 1 dX12_step_6 rfl rfl ?_
  refine xx_cVi (As := [.int (iI a1)]) (st := [.ref (ad 0)]) (o := 0) C 10 rfl (by decide) (ceM_0 _ _ _) rfl rfl ca_X12_stepsOn cv_X12_stepsOn w_1363 rfl ⟨Nat.le_of_ble_eq_true rfl, Nat.le_of_ble_eq_true rfl⟩ ⟨Nat.le_of_ble_eq_true rfl, Nat.le_of_ble_eq_true rfl⟩ (Nat.le_of_ble_eq_true rfl) dX12_step_7 (fun v7 μ7 e9 => c_X12_stepsOn _ _ v7 μ7 e9) h (fun v7 μ7 h => ?_) rfl
  refine xx_cVi (As := [.int (iI v7)]) (st := []) (o := 0) C 13 rfl (by decide) (ceM_0 _ _ _) rfl rfl ca_X12_ends cv_X12_ends w_1260 rfl ⟨Nat.le_of_ble_eq_true rfl, Nat.le_of_ble_eq_true rfl⟩ ⟨Nat.le_of_ble_eq_true rfl, Nat.le_of_ble_eq_true rfl⟩ (Nat.le_of_ble_eq_true rfl) dX12_step_10 (fun v10 μ10 e9 => c_X12_ends _ _ v10 μ10 e9) h (fun v10 μ10 h => ?_) rfl
  exact xx_iret C E rfl ⟨Nat.le_of_ble_eq_true rfl, Nat.le_of_ble_eq_true rfl⟩ dX12_step_13 h

def f_X12_round (μ : mu_T)  : Option (Int × mu_T) :=
  bd_ (f_X12_remembers μ) (fun μ1 => bp_ (f_X12_wholeRound μ1) (fun v6 μ6 => bp_ (f_X12_ends μ6 v6) (fun v9 μ9 => some (v9, μ9))))
set_option maxHeartbeats 4000000 in
set_option maxRecDepth 100000 in
theorem c_X12_round {G : gp_} {ad : Nat → Nat} (μ : mu_T)  (a : Int) (μr : mu_T) (h : f_X12_round μ  = some (a, μr)) : mi_ yX12_round cX12_round 1 (some .int) ({ frames := 7, cells := 0, slots := 0, locals := 152 } : Room) G 9 ad (ceM G ad) [.ref (ad 0)] μ a μr := by
  refine mi_in (own := "UrnHeapModel") (lv := [(0, .ref (ad 0))]) (by decide) rfl rfl (Nat.le_of_ble_eq_true rfl) (fun X C E => ?_)
  unfold f_X12_round at h
  refine xx_aload_n C 1 rfl 0 dX12_round_0 rfl rfl ?_
  refine xx_cVv (As := []) (st := []) (o := 0) C 4 rfl (by decide) (ceM_0 _ _ _) rfl rfl ca_X12_remembers cv_X12_remembers w_1244 rfl ⟨Nat.le_of_ble_eq_true rfl, Nat.le_of_ble_eq_true rfl⟩ ⟨Nat.le_of_ble_eq_true rfl, Nat.le_of_ble_eq_true rfl⟩ (Nat.le_of_ble_eq_true rfl) dX12_round_1 (fun μ1 e9 => c_X12_remembers _ μ1 e9) h (fun μ1 h => ?_) rfl
  refine xx_aload_n C 5 rfl 0 dX12_round_4 rfl rfl ?_
  refine xx_aload_n C 6 rfl 0 dX12_round_5 rfl rfl ?_
  refine xx_cVi (As := []) (st := [.ref (ad 0)]) (o := 0) C 9 rfl (by decide) (ceM_0 _ _ _) rfl rfl ca_X12_wholeRound cv_X12_wholeRound w_1399 rfl ⟨Nat.le_of_ble_eq_true rfl, Nat.le_of_ble_eq_true rfl⟩ ⟨Nat.le_of_ble_eq_true rfl, Nat.le_of_ble_eq_true rfl⟩ (Nat.le_of_ble_eq_true rfl) dX12_round_6 (fun v6 μ6 e9 => c_X12_wholeRound _ v6 μ6 e9) h (fun v6 μ6 h => ?_) rfl
  refine xx_cVi (As := [.int (iI v6)]) (st := []) (o := 0) C 12 rfl (by decide) (ceM_0 _ _ _) rfl rfl ca_X12_ends cv_X12_ends w_1260 rfl ⟨Nat.le_of_ble_eq_true rfl, Nat.le_of_ble_eq_true rfl⟩ ⟨Nat.le_of_ble_eq_true rfl, Nat.le_of_ble_eq_true rfl⟩ (Nat.le_of_ble_eq_true rfl) dX12_round_9 (fun v9 μ9 e9 => c_X12_ends _ _ v9 μ9 e9) h (fun v9 μ9 h => ?_) rfl
  exact xx_iret C E rfl ⟨Nat.le_of_ble_eq_true rfl, Nat.le_of_ble_eq_true rfl⟩ dX12_round_12 h

def f_X12_rite (μ : mu_T)  : Option (Int × mu_T) :=
  bd_ (f_X12_remembers μ) (fun μ1 => bp_ (f_X12_doesRite μ1) (fun v6 μ6 => bp_ (f_X12_ends μ6 v6) (fun v9 μ9 => some (v9, μ9))))
set_option maxHeartbeats 4000000 in
set_option maxRecDepth 100000 in
theorem c_X12_rite {G : gp_} {ad : Nat → Nat} (μ : mu_T)  (a : Int) (μr : mu_T) (h : f_X12_rite μ  = some (a, μr)) : mi_ yX12_rite cX12_rite 1 (some .int) ({ frames := 2, cells := 0, slots := 0, locals := 44 } : Room) G 9 ad (ceM G ad) [.ref (ad 0)] μ a μr := by
  refine mi_in (own := "UrnHeapModel") (lv := [(0, .ref (ad 0))]) (by decide) rfl rfl (Nat.le_of_ble_eq_true rfl) (fun X C E => ?_)
  unfold f_X12_rite at h
  refine xx_aload_n C 1 rfl 0 dX12_rite_0 rfl rfl ?_
  refine xx_cVv (As := []) (st := []) (o := 0) C 4 rfl (by decide) (ceM_0 _ _ _) rfl rfl ca_X12_remembers cv_X12_remembers w_1244 rfl ⟨Nat.le_of_ble_eq_true rfl, Nat.le_of_ble_eq_true rfl⟩ ⟨Nat.le_of_ble_eq_true rfl, Nat.le_of_ble_eq_true rfl⟩ (Nat.le_of_ble_eq_true rfl) dX12_rite_1 (fun μ1 e9 => c_X12_remembers _ μ1 e9) h (fun μ1 h => ?_) rfl
  refine xx_aload_n C 5 rfl 0 dX12_rite_4 rfl rfl ?_
  refine xx_aload_n C 6 rfl 0 dX12_rite_5 rfl rfl ?_
  refine xx_cVi (As := []) (st := [.ref (ad 0)]) (o := 0) C 9 rfl (by decide) (ceM_0 _ _ _) rfl rfl ca_X12_doesRite cv_X12_doesRite w_1407 rfl ⟨Nat.le_of_ble_eq_true rfl, Nat.le_of_ble_eq_true rfl⟩ ⟨Nat.le_of_ble_eq_true rfl, Nat.le_of_ble_eq_true rfl⟩ (Nat.le_of_ble_eq_true rfl) dX12_rite_6 (fun v6 μ6 e9 => c_X12_doesRite _ v6 μ6 e9) h (fun v6 μ6 h => ?_) rfl
  refine xx_cVi (As := [.int (iI v6)]) (st := []) (o := 0) C 12 rfl (by decide) (ceM_0 _ _ _) rfl rfl ca_X12_ends cv_X12_ends w_1260 rfl ⟨Nat.le_of_ble_eq_true rfl, Nat.le_of_ble_eq_true rfl⟩ ⟨Nat.le_of_ble_eq_true rfl, Nat.le_of_ble_eq_true rfl⟩ (Nat.le_of_ble_eq_true rfl) dX12_rite_9 (fun v9 μ9 e9 => c_X12_ends _ _ v9 μ9 e9) h (fun v9 μ9 h => ?_) rfl
  exact xx_iret C E rfl ⟨Nat.le_of_ble_eq_true rfl, Nat.le_of_ble_eq_true rfl⟩ dX12_rite_12 h

def f_X12_due (μ : mu_T) (a1 : Int) : Option Int :=
  rd_ μ 1 293 9 (fun v8 => bd_ (f_X12_in μ a1 0 (v8 - 1)) (fun v11 => eq_ v11 0
      (some (-11))
      (rd_ μ 1 293 (257 + a1) (fun v26 => some v26))))
set_option maxHeartbeats 4000000 in
set_option maxRecDepth 100000 in
theorem c_X12_due {G : gp_} {ad : Nat → Nat} (μ : mu_T) (a1 : Int) (a : Int) (h : f_X12_due μ a1 = some a) : mi_ yX12_due cX12_due 2 (some .int) ({ frames := 1, cells := 0, slots := 0, locals := 22 } : Room) G 9 ad (ceM G ad) [.ref (ad 0), .int (iI a1)] μ a μ := by
  refine mi_in (own := "UrnHeapModel") (lv := [(0, .ref (ad 0)), (1, .int (iI a1))]) (by decide) rfl rfl (Nat.le_of_ble_eq_true rfl) (fun X C E => ?_)
  unfold f_X12_due at h
  refine xx_iload_n C 1 rfl 1 dX12_due_0 rfl rfl ?_
  refine xx_iconst C 2 rfl dX12_due_1 ?_
  refine xx_aload_n C 3 rfl 0 dX12_due_2 rfl rfl ?_
  refine xx_getr (fi := 0) C 6 rfl (by decide) (ceM_0 _ _ _) rfl in_X12 (by decide) rfl w_1179 dX12_due_3 ?_
  refine xx_bipush C 8 rfl dX12_due_6 (by decide) ?_
  refine xx_iaload C 9 rfl (by decide) (fun _ => rfl) (by decide) dX12_due_8 h (fun v8 h => ?_)
  refine xx_iconst C 10 rfl dX12_due_9 ?_
  refine xx_isub C 11 rfl dX12_due_10 ?_
  refine xx_cSip (As := [.int (iI a1), .int (iI 0), .int (iI (v8 - 1))]) (st := []) C 14 rfl  ca_X12_in cs_X12_in w_1280 rfl ⟨Nat.le_of_ble_eq_true rfl, Nat.le_of_ble_eq_true rfl⟩ ⟨Nat.le_of_ble_eq_true rfl, Nat.le_of_ble_eq_true rfl⟩ (Nat.le_of_ble_eq_true rfl) dX12_due_11 (fun v11 e9 => c_X12_in _ _ _ _ v11 e9) h (fun v11 h => ?_) rfl
  refine xx_if_eq (tgt := 30) C 17 rfl dX12_due_14 (by decide) h (fun h => ?_) (fun h => ?_)
  · refine xx_bipush C 32 rfl dX12_due_30 (by decide) ?_
    exact xx_iretp C E rfl ⟨Nat.le_of_ble_eq_true rfl, Nat.le_of_ble_eq_true rfl⟩ dX12_due_32 h
  · refine xx_aload_n C 18 rfl 0 dX12_due_17 rfl rfl ?_
    refine xx_getr (fi := 0) C 21 rfl (by decide) (ceM_0 _ _ _) rfl in_X12 (by decide) rfl w_1179 dX12_due_18 ?_
    refine xx_sipush C 24 rfl dX12_due_21 (by decide) ?_
    refine xx_iload_n C 25 rfl 1 dX12_due_24 rfl rfl ?_
    refine xx_iadd C 26 rfl dX12_due_25 ?_
    refine xx_iaload C 27 rfl (by decide) (fun _ => rfl) (by decide) dX12_due_26 h (fun v26 h => ?_)
    refine xx_goto C 32 dX12_due_27 (by decide) ?_
    exact xx_iretp C E rfl ⟨Nat.le_of_ble_eq_true rfl, Nat.le_of_ble_eq_true rfl⟩ dX12_due_32 h

def f_X12_grey (μ : mu_T) (a1 : Int) : Option Int :=
  rd_ μ 1 293 8 (fun v8 => bd_ (f_X12_in μ a1 0 (v8 - 1)) (fun v11 => eq_ v11 0
      (some (-11))
      (rd_ μ 1 293 (233 + a1) (fun v26 => some v26))))
set_option maxHeartbeats 4000000 in
set_option maxRecDepth 100000 in
theorem c_X12_grey {G : gp_} {ad : Nat → Nat} (μ : mu_T) (a1 : Int) (a : Int) (h : f_X12_grey μ a1 = some a) : mi_ yX12_grey cX12_grey 2 (some .int) ({ frames := 1, cells := 0, slots := 0, locals := 22 } : Room) G 9 ad (ceM G ad) [.ref (ad 0), .int (iI a1)] μ a μ := by
  refine mi_in (own := "UrnHeapModel") (lv := [(0, .ref (ad 0)), (1, .int (iI a1))]) (by decide) rfl rfl (Nat.le_of_ble_eq_true rfl) (fun X C E => ?_)
  unfold f_X12_grey at h
  refine xx_iload_n C 1 rfl 1 dX12_grey_0 rfl rfl ?_
  refine xx_iconst C 2 rfl dX12_grey_1 ?_
  refine xx_aload_n C 3 rfl 0 dX12_grey_2 rfl rfl ?_
  refine xx_getr (fi := 0) C 6 rfl (by decide) (ceM_0 _ _ _) rfl in_X12 (by decide) rfl w_1179 dX12_grey_3 ?_
  refine xx_bipush C 8 rfl dX12_grey_6 (by decide) ?_
  refine xx_iaload C 9 rfl (by decide) (fun _ => rfl) (by decide) dX12_grey_8 h (fun v8 h => ?_)
  refine xx_iconst C 10 rfl dX12_grey_9 ?_
  refine xx_isub C 11 rfl dX12_grey_10 ?_
  refine xx_cSip (As := [.int (iI a1), .int (iI 0), .int (iI (v8 - 1))]) (st := []) C 14 rfl  ca_X12_in cs_X12_in w_1280 rfl ⟨Nat.le_of_ble_eq_true rfl, Nat.le_of_ble_eq_true rfl⟩ ⟨Nat.le_of_ble_eq_true rfl, Nat.le_of_ble_eq_true rfl⟩ (Nat.le_of_ble_eq_true rfl) dX12_grey_11 (fun v11 e9 => c_X12_in _ _ _ _ v11 e9) h (fun v11 h => ?_) rfl
  refine xx_if_eq (tgt := 30) C 17 rfl dX12_grey_14 (by decide) h (fun h => ?_) (fun h => ?_)
  · refine xx_bipush C 32 rfl dX12_grey_30 (by decide) ?_
    exact xx_iretp C E rfl ⟨Nat.le_of_ble_eq_true rfl, Nat.le_of_ble_eq_true rfl⟩ dX12_grey_32 h
  · refine xx_aload_n C 18 rfl 0 dX12_grey_17 rfl rfl ?_
    refine xx_getr (fi := 0) C 21 rfl (by decide) (ceM_0 _ _ _) rfl in_X12 (by decide) rfl w_1179 dX12_grey_18 ?_
    refine xx_sipush C 24 rfl dX12_grey_21 (by decide) ?_
    refine xx_iload_n C 25 rfl 1 dX12_grey_24 rfl rfl ?_
    refine xx_iadd C 26 rfl dX12_grey_25 ?_
    refine xx_iaload C 27 rfl (by decide) (fun _ => rfl) (by decide) dX12_grey_26 h (fun v26 h => ?_)
    refine xx_goto C 32 dX12_grey_27 (by decide) ?_
    exact xx_iretp C E rfl ⟨Nat.le_of_ble_eq_true rfl, Nat.le_of_ble_eq_true rfl⟩ dX12_grey_32 h

def f_X12_freed (μ : mu_T) (a1 : Int) : Option Int :=
  rd_ μ 1 293 10 (fun v8 => bd_ (f_X12_in μ a1 0 (v8 - 1)) (fun v11 => eq_ v11 0
      (some (-11))
      (rd_ μ 1 293 (281 + a1) (fun v26 => some v26))))
set_option maxHeartbeats 4000000 in
set_option maxRecDepth 100000 in
theorem c_X12_freed {G : gp_} {ad : Nat → Nat} (μ : mu_T) (a1 : Int) (a : Int) (h : f_X12_freed μ a1 = some a) : mi_ yX12_freed cX12_freed 2 (some .int) ({ frames := 1, cells := 0, slots := 0, locals := 22 } : Room) G 9 ad (ceM G ad) [.ref (ad 0), .int (iI a1)] μ a μ := by
  refine mi_in (own := "UrnHeapModel") (lv := [(0, .ref (ad 0)), (1, .int (iI a1))]) (by decide) rfl rfl (Nat.le_of_ble_eq_true rfl) (fun X C E => ?_)
  unfold f_X12_freed at h
  refine xx_iload_n C 1 rfl 1 dX12_freed_0 rfl rfl ?_
  refine xx_iconst C 2 rfl dX12_freed_1 ?_
  refine xx_aload_n C 3 rfl 0 dX12_freed_2 rfl rfl ?_
  refine xx_getr (fi := 0) C 6 rfl (by decide) (ceM_0 _ _ _) rfl in_X12 (by decide) rfl w_1179 dX12_freed_3 ?_
  refine xx_bipush C 8 rfl dX12_freed_6 (by decide) ?_
  refine xx_iaload C 9 rfl (by decide) (fun _ => rfl) (by decide) dX12_freed_8 h (fun v8 h => ?_)
  refine xx_iconst C 10 rfl dX12_freed_9 ?_
  refine xx_isub C 11 rfl dX12_freed_10 ?_
  refine xx_cSip (As := [.int (iI a1), .int (iI 0), .int (iI (v8 - 1))]) (st := []) C 14 rfl  ca_X12_in cs_X12_in w_1280 rfl ⟨Nat.le_of_ble_eq_true rfl, Nat.le_of_ble_eq_true rfl⟩ ⟨Nat.le_of_ble_eq_true rfl, Nat.le_of_ble_eq_true rfl⟩ (Nat.le_of_ble_eq_true rfl) dX12_freed_11 (fun v11 e9 => c_X12_in _ _ _ _ v11 e9) h (fun v11 h => ?_) rfl
  refine xx_if_eq (tgt := 30) C 17 rfl dX12_freed_14 (by decide) h (fun h => ?_) (fun h => ?_)
  · refine xx_bipush C 32 rfl dX12_freed_30 (by decide) ?_
    exact xx_iretp C E rfl ⟨Nat.le_of_ble_eq_true rfl, Nat.le_of_ble_eq_true rfl⟩ dX12_freed_32 h
  · refine xx_aload_n C 18 rfl 0 dX12_freed_17 rfl rfl ?_
    refine xx_getr (fi := 0) C 21 rfl (by decide) (ceM_0 _ _ _) rfl in_X12 (by decide) rfl w_1179 dX12_freed_18 ?_
    refine xx_sipush C 24 rfl dX12_freed_21 (by decide) ?_
    refine xx_iload_n C 25 rfl 1 dX12_freed_24 rfl rfl ?_
    refine xx_iadd C 26 rfl dX12_freed_25 ?_
    refine xx_iaload C 27 rfl (by decide) (fun _ => rfl) (by decide) dX12_freed_26 h (fun v26 h => ?_)
    refine xx_goto C 32 dX12_freed_27 (by decide) ?_
    exact xx_iretp C E rfl ⟨Nat.le_of_ble_eq_true rfl, Nat.le_of_ble_eq_true rfl⟩ dX12_freed_32 h

def f_X12_nears (μ : mu_T) (a1 : Int) (a2 : Int) : Option mu_T :=
  eq_ a1 (-15)
      (some μ)
      (rd_ μ 8 24 a1 (fun v12 => lt_ a2 v12
      (wr_ μ 8 24 a1 a2 (fun μ22 => some μ22))
      (some μ)))
set_option maxHeartbeats 4000000 in
set_option maxRecDepth 100000 in
theorem c_X12_nears {G : gp_} {ad : Nat → Nat} (μ : mu_T) (a1 : Int) (a2 : Int) (μr : mu_T) (h : f_X12_nears μ a1 a2 = some μr) : mv_ yX12_nears cX12_nears 3 ({ frames := 0, cells := 0, slots := 0, locals := 0 } : Room) G 9 ad (ceM G ad) [.ref (ad 0), .int (iI a1), .int (iI a2)] μ μr := by
  refine mv_in (own := "UrnHeapModel") (lv := [(0, .ref (ad 0)), (1, .int (iI a1)), (2, .int (iI a2))]) (by decide) rfl rfl (Nat.le_of_ble_eq_true rfl) (fun X C E => ?_)
  unfold f_X12_nears at h
  refine xx_iload_n C 1 rfl 1 dX12_nears_0 rfl rfl ?_
  refine xx_bipush C 3 rfl dX12_nears_1 (by decide) ?_
  refine xx_icmp_eq (tgt := 23) C 6 rfl dX12_nears_3 (by decide) h (fun h => ?_) (fun h => ?_)
  · exact xx_vret C E rfl ⟨Nat.le_of_ble_eq_true rfl, Nat.le_of_ble_eq_true rfl⟩ dX12_nears_23 h
  · refine xx_iload_n C 7 rfl 2 dX12_nears_6 rfl rfl ?_
    refine xx_aload_n C 8 rfl 0 dX12_nears_7 rfl rfl ?_
    refine xx_getr (fi := 9) C 11 rfl (by decide) (ceM_0 _ _ _) rfl in_X12 (by decide) rfl w_1188 dX12_nears_8 ?_
    refine xx_iload_n C 12 rfl 1 dX12_nears_11 rfl rfl ?_
    refine xx_iaload C 13 rfl (by decide) (fun _ => rfl) (by decide) dX12_nears_12 h (fun v12 h => ?_)
    refine xx_icmp_ge (tgt := 23) C 16 rfl dX12_nears_13 (by decide) h (fun h => ?_) (fun h => ?_)
    · exact xx_vret C E rfl ⟨Nat.le_of_ble_eq_true rfl, Nat.le_of_ble_eq_true rfl⟩ dX12_nears_23 h
    · refine xx_aload_n C 17 rfl 0 dX12_nears_16 rfl rfl ?_
      refine xx_getr (fi := 9) C 20 rfl (by decide) (ceM_0 _ _ _) rfl in_X12 (by decide) rfl w_1188 dX12_nears_17 ?_
      refine xx_iload_n C 21 rfl 1 dX12_nears_20 rfl rfl ?_
      refine xx_iload_n C 22 rfl 2 dX12_nears_21 rfl rfl ?_
      refine xx_iastore C 23 rfl (by decide) (fun _ => rfl) (by decide) dX12_nears_22 h (fun μ22 h => ?_)
      exact xx_vret C E rfl ⟨Nat.le_of_ble_eq_true rfl, Nat.le_of_ble_eq_true rfl⟩ dX12_nears_23 h

def f_X12_measures_L147 (J196 : mu_T → Option mu_T) (x4_137 : Int) : Nat → Int → mu_T → Option mu_T
  | 0, _, _ => none
  | fu147 + 1, x5_147, μ147 => lt_ x5_147 4
      (rd_ μ147 8 24 x4_137 (fun v159 => jn_ (φ := mu_T → Option mu_T) (fun μ190 => nm_ (x5_147 + 1) (fun n190 => (f_X12_measures_L147 J196 x4_137 fu147) n190 μ190))
      (fun J190 => lt_ v159 99
      (bd_ (f_X12_at μ147 x4_137 x5_147) (fun v174 => rd_ μ147 1 293 v174 (fun v177 => rd_ μ147 8 24 x4_137 (fun v184 => bd_ (f_X12_nears μ147 v177 (v184 + 1)) (fun μ187 => J190 μ187)))))
      (J190 μ147))))
      (J196 μ147)
def f_X12_measures_L137 (J202 : mu_T → Option mu_T) : Nat → Int → mu_T → Option mu_T
  | 0, _, _ => none
  | fu137 + 1, x4_137, μ137 => lt_ x4_137 24
      (jn_ (φ := mu_T → Option mu_T) (fun μ196 => nm_ (x4_137 + 1) (fun n196 => (f_X12_measures_L137 J202 fu137) n196 μ196))
      (fun J196 => f_X12_measures_L147 J196 x4_137 20000 0 μ137))
      (J202 μ137)
def f_X12_measures_L128  : Nat → Int → mu_T → Option mu_T
  | 0, _, _ => none
  | fu128 + 1, x3_128, μ128 => lt_ x3_128 24
      (jn_ (φ := mu_T → Option mu_T) (fun μ202 => nm_ (x3_128 + 1) (fun n202 => (f_X12_measures_L128 fu128) n202 μ202))
      (fun J202 => f_X12_measures_L137 J202 20000 0 μ128))
      (some μ128)
def f_X12_measures_L91 (J126 : mu_T → Option mu_T) (a2 : Int) : Nat → Int → mu_T → Option mu_T
  | 0, _, _ => none
  | fu91 + 1, x3_91, μ91 => lt_ x3_91 24
      (jn_ (φ := mu_T → Option mu_T) (fun μ120 => nm_ (x3_91 + 1) (fun n120 => (f_X12_measures_L91 J126 a2 fu91) n120 μ120))
      (fun J120 => eq_ a2 0
      (J120 μ91)
      (rd_ μ91 1 293 (65 + x3_91) (fun v109 => eq_ v109 1
      (bd_ (f_X12_nears μ91 x3_91 0) (fun μ117 => J120 μ117))
      (J120 μ91)))))
      (J126 μ91)
def f_X12_measures_L57 (J89 : mu_T → Option mu_T) : Nat → Int → mu_T → Option mu_T
  | 0, _, _ => none
  | fu57 + 1, x3_57, μ57 => rd_ μ57 1 293 9 (fun v64 => lt_ x3_57 v64
      (rd_ μ57 1 293 (257 + x3_57) (fun v78 => bd_ (f_X12_nears μ57 v78 0) (fun μ80 => nm_ (x3_57 + 1) (fun n83 => (f_X12_measures_L57 J89 fu57) n83 μ80))))
      (J89 μ57))
def f_X12_measures_L24 (J55 : mu_T → Option mu_T) (a1 : Int) : Nat → Int → mu_T → Option mu_T
  | 0, _, _ => none
  | fu24 + 1, x3_24, μ24 => lt_ x3_24 6
      (jn_ (φ := mu_T → Option mu_T) (fun μ49 => nm_ (x3_24 + 1) (fun n49 => (f_X12_measures_L24 J55 a1 fu24) n49 μ49))
      (fun J49 => eq_ x3_24 a1
      (J49 μ24)
      (rd_ μ24 1 293 (11 + x3_24) (fun v44 => bd_ (f_X12_nears μ24 v44 0) (fun μ46 => J49 μ46)))))
      (J55 μ24)
def f_X12_measures_L2 (J22 : mu_T → Option mu_T) : Nat → Int → mu_T → Option mu_T
  | 0, _, _ => none
  | fu2 + 1, x3_2, μ2 => lt_ x3_2 24
      (wr_ μ2 8 24 x3_2 99 (fun μ15 => nm_ (x3_2 + 1) (fun n16 => (f_X12_measures_L2 J22 fu2) n16 μ15)))
      (J22 μ2)
def f_X12_measures (μ : mu_T) (a1 : Int) (a2 : Int) : Option mu_T :=
  jn_ (φ := mu_T → Option mu_T) (fun μ22 => jn_ (φ := mu_T → Option mu_T) (fun μ55 => jn_ (φ := mu_T → Option mu_T) (fun μ89 => jn_ (φ := mu_T → Option mu_T) (fun μ126 => f_X12_measures_L128 20000 0 μ126)
      (fun J126 => f_X12_measures_L91 J126 a2 20000 0 μ89))
      (fun J89 => f_X12_measures_L57 J89 20000 0 μ55))
      (fun J55 => f_X12_measures_L24 J55 a1 20000 0 μ22))
      (fun J22 => f_X12_measures_L2 J22 20000 0 μ)
set_option maxHeartbeats 4000000 in
set_option maxRecDepth 100000 in
theorem c_X12_measures {G : gp_} {ad : Nat → Nat} (μ : mu_T) (a1 : Int) (a2 : Int) (μr : mu_T) (h : f_X12_measures μ a1 a2 = some μr) : mv_ yX12_measures cX12_measures 6 ({ frames := 1, cells := 0, slots := 0, locals := 22 } : Room) G 9 ad (ceM G ad) [.ref (ad 0), .int (iI a1), .int (iI a2)] μ μr := by
  refine mv_in (own := "UrnHeapModel") (lv := [(0, .ref (ad 0)), (1, .int (iI a1)), (2, .int (iI a2))]) (by decide) rfl rfl (Nat.le_of_ble_eq_true rfl) (fun X C E => ?_)
  unfold f_X12_measures at h
  refine xx_iconst C 1 rfl dX12_measures_0 ?_
  refine xx_istore_n (lv1 := [(3, .int (iI 0)), (0, .ref (ad 0)), (1, .int (iI a1)), (2, .int (iI a2))]) C 2 rfl (by decide) dX12_measures_1 rfl rfl ?_
  refine jn_r (fun J => ∀ (μ22 : mu_T), J μ22 = some μr → wx_ G X 9 ad (ceM G ad) μ22 0 0 22 [(0, .ref (ad 0)), (1, .int (iI a1)), (2, .int (iI a2))] []) h (fun μ22 h => ?_) (fun J22 K22 h => ?_)
  · refine xx_iconst C 23 rfl dX12_measures_22 ?_
    refine xx_istore_n (lv1 := [(3, .int (iI 0)), (0, .ref (ad 0)), (1, .int (iI a1)), (2, .int (iI a2))]) C 24 rfl (by decide) dX12_measures_23 rfl rfl ?_
    refine jn_r (fun J => ∀ (μ55 : mu_T), J μ55 = some μr → wx_ G X 9 ad (ceM G ad) μ55 0 0 55 [(0, .ref (ad 0)), (2, .int (iI a2))] []) h (fun μ55 h => ?_) (fun J55 K55 h => ?_)
    · refine xx_iconst C 56 rfl dX12_measures_55 ?_
      refine xx_istore_n (lv1 := [(3, .int (iI 0)), (0, .ref (ad 0)), (2, .int (iI a2))]) C 57 rfl (by decide) dX12_measures_56 rfl rfl ?_
      refine jn_r (fun J => ∀ (μ89 : mu_T), J μ89 = some μr → wx_ G X 9 ad (ceM G ad) μ89 0 0 89 [(0, .ref (ad 0)), (2, .int (iI a2))] []) h (fun μ89 h => ?_) (fun J89 K89 h => ?_)
      · refine xx_iconst C 90 rfl dX12_measures_89 ?_
        refine xx_istore_n (lv1 := [(3, .int (iI 0)), (0, .ref (ad 0)), (2, .int (iI a2))]) C 91 rfl (by decide) dX12_measures_90 rfl rfl ?_
        refine jn_r (fun J => ∀ (μ126 : mu_T), J μ126 = some μr → wx_ G X 9 ad (ceM G ad) μ126 0 0 126 [(0, .ref (ad 0))] []) h (fun μ126 h => ?_) (fun J126 K126 h => ?_)
        · refine xx_iconst C 127 rfl dX12_measures_126 ?_
          refine xx_istore_n (lv1 := [(3, .int (iI 0)), (0, .ref (ad 0))]) C 128 rfl (by decide) dX12_measures_127 rfl rfl ?_
          have L128 : ∀ (fu128 : Nat) (x3_128 : Int) (μ128 : mu_T), f_X12_measures_L128 fu128 x3_128 μ128 = some μr → wx_ G X 9 ad (ceM G ad) μ128 0 0 128 [(0, .ref (ad 0)), (3, .int (iI x3_128))] [] := by
            intro fu128
            induction fu128 with
            | zero => intro x3_128 μ128 h; exact nn_ h
            | succ fu128 K128 =>
              intro x3_128 μ128 h
              rw [f_X12_measures_L128] at h
              generalize f_X12_measures_L128 fu128 = R128 at K128 h
              refine xx_iload_n C 129 rfl 1 dX12_measures_128 rfl rfl ?_
              refine xx_bipush C 131 rfl dX12_measures_129 (by decide) ?_
              refine xx_icmp_ge (tgt := 208) C 134 rfl dX12_measures_131 (by decide) h (fun h => ?_) (fun h => ?_)
              · exact xx_vret C E rfl ⟨Nat.le_of_ble_eq_true rfl, Nat.le_of_ble_eq_true rfl⟩ dX12_measures_208 h
              · refine xx_iconst C 135 rfl dX12_measures_134 ?_
                refine xx_istore (lv1 := [(4, .int (iI 0)), (0, .ref (ad 0)), (3, .int (iI x3_128))]) C 137 rfl (by decide) dX12_measures_135 rfl ?_
                refine jn_r (fun J => ∀ (μ202 : mu_T), J μ202 = some μr → wx_ G X 9 ad (ceM G ad) μ202 0 0 202 [(0, .ref (ad 0)), (3, .int (iI x3_128))] []) h (fun μ202 h => ?_) (fun J202 K202 h => ?_)
                · refine xx_iincn C 205 rfl 1 (by decide) dX12_measures_202 rfl h (fun n202 h => ?_)
                  refine xx_lv (lv1 := [(3, .int (iI n202)), (0, .ref (ad 0))]) rfl ?_
                  refine xx_goto C 128 dX12_measures_205 (by decide) ?_
                  refine xx_sub [1, 0] rfl ?_
                  exact K128 n202 μ202 h
                · have L137 : ∀ (fu137 : Nat) (x4_137 : Int) (μ137 : mu_T), f_X12_measures_L137 J202 fu137 x4_137 μ137 = some μr → wx_ G X 9 ad (ceM G ad) μ137 0 0 137 [(0, .ref (ad 0)), (3, .int (iI x3_128)), (4, .int (iI x4_137))] [] := by
                    intro fu137
                    induction fu137 with
                    | zero => intro x4_137 μ137 h; exact nn_ h
                    | succ fu137 K137 =>
                      intro x4_137 μ137 h
                      rw [f_X12_measures_L137] at h
                      generalize f_X12_measures_L137 J202 fu137 = R137 at K137 h
                      refine xx_iload C 139 rfl 2 dX12_measures_137 rfl ?_
                      refine xx_bipush C 141 rfl dX12_measures_139 (by decide) ?_
                      refine xx_icmp_ge (tgt := 202) C 144 rfl dX12_measures_141 (by decide) h (fun h => ?_) (fun h => ?_)
                      · refine xx_sub [0, 1] rfl ?_
                        exact K202 μ137 h
                      · refine xx_iconst C 145 rfl dX12_measures_144 ?_
                        refine xx_istore (lv1 := [(5, .int (iI 0)), (0, .ref (ad 0)), (3, .int (iI x3_128)), (4, .int (iI x4_137))]) C 147 rfl (by decide) dX12_measures_145 rfl ?_
                        refine jn_r (fun J => ∀ (μ196 : mu_T), J μ196 = some μr → wx_ G X 9 ad (ceM G ad) μ196 0 0 196 [(0, .ref (ad 0)), (3, .int (iI x3_128)), (4, .int (iI x4_137))] []) h (fun μ196 h => ?_) (fun J196 K196 h => ?_)
                        · refine xx_iincn C 199 rfl 2 (by decide) dX12_measures_196 rfl h (fun n196 h => ?_)
                          refine xx_lv (lv1 := [(4, .int (iI n196)), (0, .ref (ad 0)), (3, .int (iI x3_128))]) rfl ?_
                          refine xx_goto C 137 dX12_measures_199 (by decide) ?_
                          refine xx_sub [1, 2, 0] rfl ?_
                          exact K137 n196 μ196 h
                        · have L147 : ∀ (fu147 : Nat) (x5_147 : Int) (μ147 : mu_T), f_X12_measures_L147 J196 x4_137 fu147 x5_147 μ147 = some μr → wx_ G X 9 ad (ceM G ad) μ147 0 0 147 [(0, .ref (ad 0)), (3, .int (iI x3_128)), (4, .int (iI x4_137)), (5, .int (iI x5_147))] [] := by
                            intro fu147
                            induction fu147 with
                            | zero => intro x5_147 μ147 h; exact nn_ h
                            | succ fu147 K147 =>
                              intro x5_147 μ147 h
                              rw [f_X12_measures_L147] at h
                              generalize f_X12_measures_L147 J196 x4_137 fu147 = R147 at K147 h
                              refine xx_iload C 149 rfl 3 dX12_measures_147 rfl ?_
                              refine xx_iconst C 150 rfl dX12_measures_149 ?_
                              refine xx_icmp_ge (tgt := 196) C 153 rfl dX12_measures_150 (by decide) h (fun h => ?_) (fun h => ?_)
                              · refine xx_sub [0, 1, 2] rfl ?_
                                exact K196 μ147 h
                              · refine xx_aload_n C 154 rfl 0 dX12_measures_153 rfl rfl ?_
                                refine xx_getr (fi := 9) C 157 rfl (by decide) (ceM_0 _ _ _) rfl in_X12 (by decide) rfl w_1188 dX12_measures_154 ?_
                                refine xx_iload C 159 rfl 2 dX12_measures_157 rfl ?_
                                refine xx_iaload C 160 rfl (by decide) (fun _ => rfl) (by decide) dX12_measures_159 h (fun v159 h => ?_)
                                refine xx_bipush C 162 rfl dX12_measures_160 (by decide) ?_
                                refine jn_r (fun J => ∀ (μ190 : mu_T), J μ190 = some μr → wx_ G X 9 ad (ceM G ad) μ190 0 0 190 [(0, .ref (ad 0)), (3, .int (iI x3_128)), (4, .int (iI x4_137)), (5, .int (iI x5_147))] []) h (fun μ190 h => ?_) (fun J190 K190 h => ?_)
                                · refine xx_iincn C 193 rfl 3 (by decide) dX12_measures_190 rfl h (fun n190 h => ?_)
                                  refine xx_lv (lv1 := [(5, .int (iI n190)), (0, .ref (ad 0)), (3, .int (iI x3_128)), (4, .int (iI x4_137))]) rfl ?_
                                  refine xx_goto C 147 dX12_measures_193 (by decide) ?_
                                  refine xx_sub [1, 2, 3, 0] rfl ?_
                                  exact K147 n190 μ190 h
                                · refine xx_icmp_ge (tgt := 190) C 165 rfl dX12_measures_162 (by decide) h (fun h => ?_) (fun h => ?_)
                                  · exact K190 μ147 h
                                  · refine xx_aload_n C 166 rfl 0 dX12_measures_165 rfl rfl ?_
                                    refine xx_aload_n C 167 rfl 0 dX12_measures_166 rfl rfl ?_
                                    refine xx_getr (fi := 0) C 170 rfl (by decide) (ceM_0 _ _ _) rfl in_X12 (by decide) rfl w_1179 dX12_measures_167 ?_
                                    refine xx_iload C 172 rfl 2 dX12_measures_170 rfl ?_
                                    refine xx_iload C 174 rfl 3 dX12_measures_172 rfl ?_
                                    refine xx_cSip (As := [.int (iI x4_137), .int (iI x5_147)]) (st := [.ref (ad 1), .ref (ad 0)]) C 177 rfl  ca_X12_at cs_X12_at w_1176 rfl ⟨Nat.le_of_ble_eq_true rfl, Nat.le_of_ble_eq_true rfl⟩ ⟨Nat.le_of_ble_eq_true rfl, Nat.le_of_ble_eq_true rfl⟩ (Nat.le_of_ble_eq_true rfl) dX12_measures_174 (fun v174 e9 => c_X12_at _ _ _ v174 e9) h (fun v174 h => ?_) rfl
                                    refine xx_iaload C 178 rfl (by decide) (fun _ => rfl) (by decide) dX12_measures_177 h (fun v177 h => ?_)
                                    refine xx_aload_n C 179 rfl 0 dX12_measures_178 rfl rfl ?_
                                    refine xx_getr (fi := 9) C 182 rfl (by decide) (ceM_0 _ _ _) rfl in_X12 (by decide) rfl w_1188 dX12_measures_179 ?_
                                    refine xx_iload C 184 rfl 2 dX12_measures_182 rfl ?_
                                    refine xx_iaload C 185 rfl (by decide) (fun _ => rfl) (by decide) dX12_measures_184 h (fun v184 h => ?_)
                                    refine xx_iconst C 186 rfl dX12_measures_185 ?_
                                    refine xx_iadd C 187 rfl dX12_measures_186 ?_
                                    refine xx_cVv (As := [.int (iI v177), .int (iI (v184 + 1))]) (st := []) (o := 0) C 190 rfl (by decide) (ceM_0 _ _ _) rfl rfl ca_X12_nears cv_X12_nears w_1431 rfl ⟨Nat.le_of_ble_eq_true rfl, Nat.le_of_ble_eq_true rfl⟩ ⟨Nat.le_of_ble_eq_true rfl, Nat.le_of_ble_eq_true rfl⟩ (Nat.le_of_ble_eq_true rfl) dX12_measures_187 (fun μ187 e9 => c_X12_nears _ _ _ μ187 e9) h (fun μ187 h => ?_) rfl
                                    exact K190 μ187 h
                          refine xx_sub [1, 2, 3, 0] rfl ?_
                          exact L147 _ _ _ h
                  refine xx_sub [1, 2, 0] rfl ?_
                  exact L137 _ _ _ h
          refine xx_sub [1, 0] rfl ?_
          exact L128 _ _ _ h
        · have L91 : ∀ (fu91 : Nat) (x3_91 : Int) (μ91 : mu_T), f_X12_measures_L91 J126 a2 fu91 x3_91 μ91 = some μr → wx_ G X 9 ad (ceM G ad) μ91 0 0 91 [(0, .ref (ad 0)), (2, .int (iI a2)), (3, .int (iI x3_91))] [] := by
            intro fu91
            induction fu91 with
            | zero => intro x3_91 μ91 h; exact nn_ h
            | succ fu91 K91 =>
              intro x3_91 μ91 h
              rw [f_X12_measures_L91] at h
              generalize f_X12_measures_L91 J126 a2 fu91 = R91 at K91 h
              refine xx_iload_n C 92 rfl 2 dX12_measures_91 rfl rfl ?_
              refine xx_bipush C 94 rfl dX12_measures_92 (by decide) ?_
              refine xx_icmp_ge (tgt := 126) C 97 rfl dX12_measures_94 (by decide) h (fun h => ?_) (fun h => ?_)
              · refine xx_sub [0] rfl ?_
                exact K126 μ91 h
              · refine xx_iload_n C 98 rfl 1 dX12_measures_97 rfl rfl ?_
                refine jn_r (fun J => ∀ (μ120 : mu_T), J μ120 = some μr → wx_ G X 9 ad (ceM G ad) μ120 0 0 120 [(0, .ref (ad 0)), (2, .int (iI a2)), (3, .int (iI x3_91))] []) h (fun μ120 h => ?_) (fun J120 K120 h => ?_)
                · refine xx_iincn C 123 rfl 2 (by decide) dX12_measures_120 rfl h (fun n120 h => ?_)
                  refine xx_lv (lv1 := [(3, .int (iI n120)), (0, .ref (ad 0)), (2, .int (iI a2))]) rfl ?_
                  refine xx_goto C 91 dX12_measures_123 (by decide) ?_
                  refine xx_sub [1, 2, 0] rfl ?_
                  exact K91 n120 μ120 h
                · refine xx_if_eq (tgt := 120) C 101 rfl dX12_measures_98 (by decide) h (fun h => ?_) (fun h => ?_)
                  · exact K120 μ91 h
                  · refine xx_aload_n C 102 rfl 0 dX12_measures_101 rfl rfl ?_
                    refine xx_getr (fi := 0) C 105 rfl (by decide) (ceM_0 _ _ _) rfl in_X12 (by decide) rfl w_1179 dX12_measures_102 ?_
                    refine xx_bipush C 107 rfl dX12_measures_105 (by decide) ?_
                    refine xx_iload_n C 108 rfl 2 dX12_measures_107 rfl rfl ?_
                    refine xx_iadd C 109 rfl dX12_measures_108 ?_
                    refine xx_iaload C 110 rfl (by decide) (fun _ => rfl) (by decide) dX12_measures_109 h (fun v109 h => ?_)
                    refine xx_iconst C 111 rfl dX12_measures_110 ?_
                    refine xx_icmp_ne (tgt := 120) C 114 rfl dX12_measures_111 (by decide) h (fun h => ?_) (fun h => ?_)
                    · exact K120 μ91 h
                    · refine xx_aload_n C 115 rfl 0 dX12_measures_114 rfl rfl ?_
                      refine xx_iload_n C 116 rfl 2 dX12_measures_115 rfl rfl ?_
                      refine xx_iconst C 117 rfl dX12_measures_116 ?_
                      refine xx_cVv (As := [.int (iI x3_91), .int (iI 0)]) (st := []) (o := 0) C 120 rfl (by decide) (ceM_0 _ _ _) rfl rfl ca_X12_nears cv_X12_nears w_1431 rfl ⟨Nat.le_of_ble_eq_true rfl, Nat.le_of_ble_eq_true rfl⟩ ⟨Nat.le_of_ble_eq_true rfl, Nat.le_of_ble_eq_true rfl⟩ (Nat.le_of_ble_eq_true rfl) dX12_measures_117 (fun μ117 e9 => c_X12_nears _ _ _ μ117 e9) h (fun μ117 h => ?_) rfl
                      exact K120 μ117 h
          refine xx_sub [1, 2, 0] rfl ?_
          exact L91 _ _ _ h
      · have L57 : ∀ (fu57 : Nat) (x3_57 : Int) (μ57 : mu_T), f_X12_measures_L57 J89 fu57 x3_57 μ57 = some μr → wx_ G X 9 ad (ceM G ad) μ57 0 0 57 [(0, .ref (ad 0)), (2, .int (iI a2)), (3, .int (iI x3_57))] [] := by
          intro fu57
          induction fu57 with
          | zero => intro x3_57 μ57 h; exact nn_ h
          | succ fu57 K57 =>
            intro x3_57 μ57 h
            rw [f_X12_measures_L57] at h
            generalize f_X12_measures_L57 J89 fu57 = R57 at K57 h
            refine xx_iload_n C 58 rfl 2 dX12_measures_57 rfl rfl ?_
            refine xx_aload_n C 59 rfl 0 dX12_measures_58 rfl rfl ?_
            refine xx_getr (fi := 0) C 62 rfl (by decide) (ceM_0 _ _ _) rfl in_X12 (by decide) rfl w_1179 dX12_measures_59 ?_
            refine xx_bipush C 64 rfl dX12_measures_62 (by decide) ?_
            refine xx_iaload C 65 rfl (by decide) (fun _ => rfl) (by decide) dX12_measures_64 h (fun v64 h => ?_)
            refine xx_icmp_ge (tgt := 89) C 68 rfl dX12_measures_65 (by decide) h (fun h => ?_) (fun h => ?_)
            · refine xx_sub [0, 1] rfl ?_
              exact K89 μ57 h
            · refine xx_aload_n C 69 rfl 0 dX12_measures_68 rfl rfl ?_
              refine xx_aload_n C 70 rfl 0 dX12_measures_69 rfl rfl ?_
              refine xx_getr (fi := 0) C 73 rfl (by decide) (ceM_0 _ _ _) rfl in_X12 (by decide) rfl w_1179 dX12_measures_70 ?_
              refine xx_sipush C 76 rfl dX12_measures_73 (by decide) ?_
              refine xx_iload_n C 77 rfl 2 dX12_measures_76 rfl rfl ?_
              refine xx_iadd C 78 rfl dX12_measures_77 ?_
              refine xx_iaload C 79 rfl (by decide) (fun _ => rfl) (by decide) dX12_measures_78 h (fun v78 h => ?_)
              refine xx_iconst C 80 rfl dX12_measures_79 ?_
              refine xx_cVv (As := [.int (iI v78), .int (iI 0)]) (st := []) (o := 0) C 83 rfl (by decide) (ceM_0 _ _ _) rfl rfl ca_X12_nears cv_X12_nears w_1431 rfl ⟨Nat.le_of_ble_eq_true rfl, Nat.le_of_ble_eq_true rfl⟩ ⟨Nat.le_of_ble_eq_true rfl, Nat.le_of_ble_eq_true rfl⟩ (Nat.le_of_ble_eq_true rfl) dX12_measures_80 (fun μ80 e9 => c_X12_nears _ _ _ μ80 e9) h (fun μ80 h => ?_) rfl
              refine xx_iincn C 86 rfl 2 (by decide) dX12_measures_83 rfl h (fun n83 h => ?_)
              refine xx_lv (lv1 := [(3, .int (iI n83)), (0, .ref (ad 0)), (2, .int (iI a2))]) rfl ?_
              refine xx_goto C 57 dX12_measures_86 (by decide) ?_
              refine xx_sub [1, 2, 0] rfl ?_
              exact K57 n83 μ80 h
        refine xx_sub [1, 2, 0] rfl ?_
        exact L57 _ _ _ h
    · have L24 : ∀ (fu24 : Nat) (x3_24 : Int) (μ24 : mu_T), f_X12_measures_L24 J55 a1 fu24 x3_24 μ24 = some μr → wx_ G X 9 ad (ceM G ad) μ24 0 0 24 [(0, .ref (ad 0)), (1, .int (iI a1)), (2, .int (iI a2)), (3, .int (iI x3_24))] [] := by
        intro fu24
        induction fu24 with
        | zero => intro x3_24 μ24 h; exact nn_ h
        | succ fu24 K24 =>
          intro x3_24 μ24 h
          rw [f_X12_measures_L24] at h
          generalize f_X12_measures_L24 J55 a1 fu24 = R24 at K24 h
          refine xx_iload_n C 25 rfl 3 dX12_measures_24 rfl rfl ?_
          refine xx_bipush C 27 rfl dX12_measures_25 (by decide) ?_
          refine xx_icmp_ge (tgt := 55) C 30 rfl dX12_measures_27 (by decide) h (fun h => ?_) (fun h => ?_)
          · refine xx_sub [0, 2] rfl ?_
            exact K55 μ24 h
          · refine xx_iload_n C 31 rfl 3 dX12_measures_30 rfl rfl ?_
            refine xx_iload_n C 32 rfl 1 dX12_measures_31 rfl rfl ?_
            refine jn_r (fun J => ∀ (μ49 : mu_T), J μ49 = some μr → wx_ G X 9 ad (ceM G ad) μ49 0 0 49 [(0, .ref (ad 0)), (1, .int (iI a1)), (2, .int (iI a2)), (3, .int (iI x3_24))] []) h (fun μ49 h => ?_) (fun J49 K49 h => ?_)
            · refine xx_iincn C 52 rfl 3 (by decide) dX12_measures_49 rfl h (fun n49 h => ?_)
              refine xx_lv (lv1 := [(3, .int (iI n49)), (0, .ref (ad 0)), (1, .int (iI a1)), (2, .int (iI a2))]) rfl ?_
              refine xx_goto C 24 dX12_measures_52 (by decide) ?_
              refine xx_sub [1, 2, 3, 0] rfl ?_
              exact K24 n49 μ49 h
            · refine xx_icmp_eq (tgt := 49) C 35 rfl dX12_measures_32 (by decide) h (fun h => ?_) (fun h => ?_)
              · exact K49 μ24 h
              · refine xx_aload_n C 36 rfl 0 dX12_measures_35 rfl rfl ?_
                refine xx_aload_n C 37 rfl 0 dX12_measures_36 rfl rfl ?_
                refine xx_getr (fi := 0) C 40 rfl (by decide) (ceM_0 _ _ _) rfl in_X12 (by decide) rfl w_1179 dX12_measures_37 ?_
                refine xx_bipush C 42 rfl dX12_measures_40 (by decide) ?_
                refine xx_iload_n C 43 rfl 3 dX12_measures_42 rfl rfl ?_
                refine xx_iadd C 44 rfl dX12_measures_43 ?_
                refine xx_iaload C 45 rfl (by decide) (fun _ => rfl) (by decide) dX12_measures_44 h (fun v44 h => ?_)
                refine xx_iconst C 46 rfl dX12_measures_45 ?_
                refine xx_cVv (As := [.int (iI v44), .int (iI 0)]) (st := []) (o := 0) C 49 rfl (by decide) (ceM_0 _ _ _) rfl rfl ca_X12_nears cv_X12_nears w_1431 rfl ⟨Nat.le_of_ble_eq_true rfl, Nat.le_of_ble_eq_true rfl⟩ ⟨Nat.le_of_ble_eq_true rfl, Nat.le_of_ble_eq_true rfl⟩ (Nat.le_of_ble_eq_true rfl) dX12_measures_46 (fun μ46 e9 => c_X12_nears _ _ _ μ46 e9) h (fun μ46 h => ?_) rfl
                exact K49 μ46 h
      refine xx_sub [1, 2, 3, 0] rfl ?_
      exact L24 _ _ _ h
  · have L2 : ∀ (fu2 : Nat) (x3_2 : Int) (μ2 : mu_T), f_X12_measures_L2 J22 fu2 x3_2 μ2 = some μr → wx_ G X 9 ad (ceM G ad) μ2 0 0 2 [(0, .ref (ad 0)), (1, .int (iI a1)), (2, .int (iI a2)), (3, .int (iI x3_2))] [] := by
      intro fu2
      induction fu2 with
      | zero => intro x3_2 μ2 h; exact nn_ h
      | succ fu2 K2 =>
        intro x3_2 μ2 h
        rw [f_X12_measures_L2] at h
        generalize f_X12_measures_L2 J22 fu2 = R2 at K2 h
        refine xx_iload_n C 3 rfl 3 dX12_measures_2 rfl rfl ?_
        refine xx_bipush C 5 rfl dX12_measures_3 (by decide) ?_
        refine xx_icmp_ge (tgt := 22) C 8 rfl dX12_measures_5 (by decide) h (fun h => ?_) (fun h => ?_)
        · refine xx_sub [0, 1, 2] rfl ?_
          exact K22 μ2 h
        · refine xx_aload_n C 9 rfl 0 dX12_measures_8 rfl rfl ?_
          refine xx_getr (fi := 9) C 12 rfl (by decide) (ceM_0 _ _ _) rfl in_X12 (by decide) rfl w_1188 dX12_measures_9 ?_
          refine xx_iload_n C 13 rfl 3 dX12_measures_12 rfl rfl ?_
          refine xx_bipush C 15 rfl dX12_measures_13 (by decide) ?_
          refine xx_iastore C 16 rfl (by decide) (fun _ => rfl) (by decide) dX12_measures_15 h (fun μ15 h => ?_)
          refine xx_iincn C 19 rfl 3 (by decide) dX12_measures_16 rfl h (fun n16 h => ?_)
          refine xx_lv (lv1 := [(3, .int (iI n16)), (0, .ref (ad 0)), (1, .int (iI a1)), (2, .int (iI a2))]) rfl ?_
          refine xx_goto C 2 dX12_measures_19 (by decide) ?_
          refine xx_sub [1, 2, 3, 0] rfl ?_
          exact K2 n16 μ15 h
    refine xx_sub [1, 2, 3, 0] rfl ?_
    exact L2 _ _ _ h

def f_X12_reached_L4 (μ : mu_T) : Nat → Int → Int → Option Int
  | 0, _, _ => none
  | fu4 + 1, x1_4, x2_4 => lt_ x2_4 24
      (rd_ μ 8 24 x2_4 (fun v16 => jn_ (φ := Int → Option Int) (fun s0_29 => nm_ ((or_ x1_4 s0_29)) (fun n30 => nm_ (x2_4 + 1) (fun n31 => (f_X12_reached_L4 μ fu4) n30 n31)))
      (fun J29 => lt_ v16 99
      (J29 (sl_ 1 x2_4))
      (J29 0))))
      (some x1_4)
def f_X12_reached (μ : mu_T)  : Option Int :=
  f_X12_reached_L4 μ 20000 0 0
set_option maxHeartbeats 4000000 in
set_option maxRecDepth 100000 in
theorem c_X12_reached {G : gp_} {ad : Nat → Nat} (μ : mu_T)  (a : Int) (h : f_X12_reached μ  = some a) : mi_ yX12_reached cX12_reached 3 (some .int) ({ frames := 0, cells := 0, slots := 0, locals := 0 } : Room) G 9 ad (ceM G ad) [.ref (ad 0)] μ a μ := by
  refine mi_in (own := "UrnHeapModel") (lv := [(0, .ref (ad 0))]) (by decide) rfl rfl (Nat.le_of_ble_eq_true rfl) (fun X C E => ?_)
  unfold f_X12_reached at h
  refine xx_iconst C 1 rfl dX12_reached_0 ?_
  refine xx_istore_n (lv1 := [(1, .int (iI 0)), (0, .ref (ad 0))]) C 2 rfl (by decide) dX12_reached_1 rfl rfl ?_
  refine xx_iconst C 3 rfl dX12_reached_2 ?_
  refine xx_istore_n (lv1 := [(2, .int (iI 0)), (1, .int (iI 0)), (0, .ref (ad 0))]) C 4 rfl (by decide) dX12_reached_3 rfl rfl ?_
  have L4 : ∀ (fu4 : Nat) (x1_4 : Int) (x2_4 : Int), f_X12_reached_L4 μ fu4 x1_4 x2_4 = some a → wx_ G X 9 ad (ceM G ad) μ 0 0 4 [(0, .ref (ad 0)), (1, .int (iI x1_4)), (2, .int (iI x2_4))] [] := by
    intro fu4
    induction fu4 with
    | zero => intro x1_4 x2_4 h; exact nn_ h
    | succ fu4 K4 =>
      intro x1_4 x2_4 h
      rw [f_X12_reached_L4] at h
      generalize f_X12_reached_L4 μ fu4 = R4 at K4 h
      refine xx_iload_n C 5 rfl 2 dX12_reached_4 rfl rfl ?_
      refine xx_bipush C 7 rfl dX12_reached_5 (by decide) ?_
      refine xx_icmp_ge (tgt := 37) C 10 rfl dX12_reached_7 (by decide) h (fun h => ?_) (fun h => ?_)
      · refine xx_iload_n C 38 rfl 1 dX12_reached_37 rfl rfl ?_
        exact xx_iretp C E rfl ⟨Nat.le_of_ble_eq_true rfl, Nat.le_of_ble_eq_true rfl⟩ dX12_reached_38 h
      · refine xx_iload_n C 11 rfl 1 dX12_reached_10 rfl rfl ?_
        refine xx_aload_n C 12 rfl 0 dX12_reached_11 rfl rfl ?_
        refine xx_getr (fi := 9) C 15 rfl (by decide) (ceM_0 _ _ _) rfl in_X12 (by decide) rfl w_1188 dX12_reached_12 ?_
        refine xx_iload_n C 16 rfl 2 dX12_reached_15 rfl rfl ?_
        refine xx_iaload C 17 rfl (by decide) (fun _ => rfl) (by decide) dX12_reached_16 h (fun v16 h => ?_)
        refine xx_bipush C 19 rfl dX12_reached_17 (by decide) ?_
        refine jn_r (fun J => ∀ (s0_29 : Int), J s0_29 = some a → wx_ G X 9 ad (ceM G ad) μ 0 0 29 [(0, .ref (ad 0)), (2, .int (iI x2_4))] [.int (iI s0_29), .int (iI x1_4)]) h (fun s0_29 h => ?_) (fun J29 K29 h => ?_)
        · refine xx_ior C 30 rfl dX12_reached_29 ?_
          refine xx_nm C h (fun n30 h => ?_)
          refine xx_istore_n (lv1 := [(1, .int (iI n30)), (0, .ref (ad 0)), (2, .int (iI x2_4))]) C 31 rfl (by decide) dX12_reached_30 rfl rfl ?_
          refine xx_iincn C 34 rfl 2 (by decide) dX12_reached_31 rfl h (fun n31 h => ?_)
          refine xx_lv (lv1 := [(2, .int (iI n31)), (1, .int (iI n30)), (0, .ref (ad 0))]) rfl ?_
          refine xx_goto C 4 dX12_reached_34 (by decide) ?_
          refine xx_sub [2, 1, 0] rfl ?_
          exact K4 n30 n31 h
        · refine xx_icmp_ge (tgt := 28) C 22 rfl dX12_reached_19 (by decide) h (fun h => ?_) (fun h => ?_)
          · refine xx_iconst C 29 rfl dX12_reached_28 ?_
            refine xx_sub [0, 2] rfl ?_
            exact K29 0 h
          · refine xx_iconst C 23 rfl dX12_reached_22 ?_
            refine xx_iload_n C 24 rfl 2 dX12_reached_23 rfl rfl ?_
            refine xx_ishl C 25 rfl dX12_reached_24 ?_
            refine xx_goto C 29 dX12_reached_25 (by decide) ?_
            refine xx_sub [0, 2] rfl ?_
            exact K29 (sl_ 1 x2_4) h
  refine xx_sub [2, 1, 0] rfl ?_
  exact L4 _ _ _ h

def f_X12_live (μ : mu_T)  : Option (Int × mu_T) :=
  bd_ (f_X12_measures μ (-11) 0) (fun μ4 => bd_ (f_X12_reached μ4) (fun v8 => some (v8, μ4)))
set_option maxHeartbeats 4000000 in
set_option maxRecDepth 100000 in
theorem c_X12_live {G : gp_} {ad : Nat → Nat} (μ : mu_T)  (a : Int) (μr : mu_T) (h : f_X12_live μ  = some (a, μr)) : mi_ yX12_live cX12_live 1 (some .int) ({ frames := 2, cells := 0, slots := 0, locals := 47 } : Room) G 9 ad (ceM G ad) [.ref (ad 0)] μ a μr := by
  refine mi_in (own := "UrnHeapModel") (lv := [(0, .ref (ad 0))]) (by decide) rfl rfl (Nat.le_of_ble_eq_true rfl) (fun X C E => ?_)
  unfold f_X12_live at h
  refine xx_aload_n C 1 rfl 0 dX12_live_0 rfl rfl ?_
  refine xx_bipush C 3 rfl dX12_live_1 (by decide) ?_
  refine xx_iconst C 4 rfl dX12_live_3 ?_
  refine xx_cVv (As := [.int (iI (-11)), .int (iI 0)]) (st := []) (o := 0) C 7 rfl (by decide) (ceM_0 _ _ _) rfl rfl ca_X12_measures cv_X12_measures w_1427 rfl ⟨Nat.le_of_ble_eq_true rfl, Nat.le_of_ble_eq_true rfl⟩ ⟨Nat.le_of_ble_eq_true rfl, Nat.le_of_ble_eq_true rfl⟩ (Nat.le_of_ble_eq_true rfl) dX12_live_4 (fun μ4 e9 => c_X12_measures _ _ _ μ4 e9) h (fun μ4 h => ?_) rfl
  refine xx_aload_n C 8 rfl 0 dX12_live_7 rfl rfl ?_
  refine xx_cVip (As := []) (st := []) (o := 0) C 11 rfl (by decide) (ceM_0 _ _ _) rfl rfl ca_X12_reached cv_X12_reached w_1435 rfl ⟨Nat.le_of_ble_eq_true rfl, Nat.le_of_ble_eq_true rfl⟩ ⟨Nat.le_of_ble_eq_true rfl, Nat.le_of_ble_eq_true rfl⟩ (Nat.le_of_ble_eq_true rfl) dX12_live_8 (fun v8 e9 => c_X12_reached _ v8 e9) h (fun v8 h => ?_) rfl
  exact xx_iret C E rfl ⟨Nat.le_of_ble_eq_true rfl, Nat.le_of_ble_eq_true rfl⟩ dX12_live_11 h

def f_X12_liveAgain (μ : mu_T)  : Option (Int × mu_T) :=
  bp_ (f_X12_live μ) (fun v1 μ1 => some (v1, μ1))
set_option maxHeartbeats 4000000 in
set_option maxRecDepth 100000 in
theorem c_X12_liveAgain {G : gp_} {ad : Nat → Nat} (μ : mu_T)  (a : Int) (μr : mu_T) (h : f_X12_liveAgain μ  = some (a, μr)) : mi_ yX12_liveAgain cX12_liveAgain 1 (some .int) ({ frames := 3, cells := 0, slots := 0, locals := 67 } : Room) G 9 ad (ceM G ad) [.ref (ad 0)] μ a μr := by
  refine mi_in (own := "UrnHeapModel") (lv := [(0, .ref (ad 0))]) (by decide) rfl rfl (Nat.le_of_ble_eq_true rfl) (fun X C E => ?_)
  unfold f_X12_liveAgain at h
  refine xx_aload_n C 1 rfl 0 dX12_liveAgain_0 rfl rfl ?_
  refine xx_cVi (As := []) (st := []) (o := 0) C 4 rfl (by decide) (ceM_0 _ _ _) rfl rfl ca_X12_live cv_X12_live w_1443 rfl ⟨Nat.le_of_ble_eq_true rfl, Nat.le_of_ble_eq_true rfl⟩ ⟨Nat.le_of_ble_eq_true rfl, Nat.le_of_ble_eq_true rfl⟩ (Nat.le_of_ble_eq_true rfl) dX12_liveAgain_1 (fun v1 μ1 e9 => c_X12_live _ v1 μ1 e9) h (fun v1 μ1 h => ?_) rfl
  exact xx_iret C E rfl ⟨Nat.le_of_ble_eq_true rfl, Nat.le_of_ble_eq_true rfl⟩ dX12_liveAgain_4 h

