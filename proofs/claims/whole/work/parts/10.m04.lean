theorem dX12_depth_0 : decode cX12_depth 0 = .ok (.aload_n 0, 1) := by decide +kernel
theorem dX12_depth_1 : decode cX12_depth 1 = .ok (.iload_n 1, 1) := by decide +kernel
theorem dX12_depth_2 : decode cX12_depth 2 = .ok (.invokevirtual 97, 3) := by decide +kernel
theorem dX12_depth_5 : decode cX12_depth 5 = .ok (.ifCond .ne 6, 3) := by decide +kernel
theorem dX12_depth_8 : decode cX12_depth 8 = .ok (.bipush (-11), 2) := by decide +kernel
theorem dX12_depth_10 : decode cX12_depth 10 = .ok (.ireturn, 1) := by decide +kernel
theorem dX12_depth_11 : decode cX12_depth 11 = .ok (.aload_n 0, 1) := by decide +kernel
theorem dX12_depth_12 : decode cX12_depth 12 = .ok (.bipush (-11), 2) := by decide +kernel
theorem dX12_depth_14 : decode cX12_depth 14 = .ok (.iconst 0, 1) := by decide +kernel
theorem dX12_depth_15 : decode cX12_depth 15 = .ok (.invokevirtual 156, 3) := by decide +kernel
theorem dX12_depth_18 : decode cX12_depth 18 = .ok (.aload_n 0, 1) := by decide +kernel
theorem dX12_depth_19 : decode cX12_depth 19 = .ok (.getfield 31, 3) := by decide +kernel
theorem dX12_depth_22 : decode cX12_depth 22 = .ok (.iload_n 1, 1) := by decide +kernel
theorem dX12_depth_23 : decode cX12_depth 23 = .ok (.iaload, 1) := by decide +kernel
theorem dX12_depth_24 : decode cX12_depth 24 = .ok (.bipush 99, 2) := by decide +kernel
theorem dX12_depth_26 : decode cX12_depth 26 = .ok (.if_icmp .ge 12, 3) := by decide +kernel
theorem dX12_depth_29 : decode cX12_depth 29 = .ok (.aload_n 0, 1) := by decide +kernel
theorem dX12_depth_30 : decode cX12_depth 30 = .ok (.getfield 31, 3) := by decide +kernel
theorem dX12_depth_33 : decode cX12_depth 33 = .ok (.iload_n 1, 1) := by decide +kernel
theorem dX12_depth_34 : decode cX12_depth 34 = .ok (.iaload, 1) := by decide +kernel
theorem dX12_depth_35 : decode cX12_depth 35 = .ok (.goto 5, 3) := by decide +kernel
theorem dX12_depth_38 : decode cX12_depth 38 = .ok (.bipush (-15), 2) := by decide +kernel
theorem dX12_depth_40 : decode cX12_depth 40 = .ok (.ireturn, 1) := by decide +kernel
theorem dX12_keepers_0 : decode cX12_keepers 0 = .ok (.aload_n 0, 1) := by decide +kernel
theorem dX12_keepers_1 : decode cX12_keepers 1 = .ok (.iload_n 1, 1) := by decide +kernel
theorem dX12_keepers_2 : decode cX12_keepers 2 = .ok (.invokevirtual 97, 3) := by decide +kernel
theorem dX12_keepers_5 : decode cX12_keepers 5 = .ok (.ifCond .ne 6, 3) := by decide +kernel
theorem dX12_keepers_8 : decode cX12_keepers 8 = .ok (.bipush (-11), 2) := by decide +kernel
theorem dX12_keepers_10 : decode cX12_keepers 10 = .ok (.ireturn, 1) := by decide +kernel
theorem dX12_keepers_11 : decode cX12_keepers 11 = .ok (.aload_n 0, 1) := by decide +kernel
theorem dX12_keepers_12 : decode cX12_keepers 12 = .ok (.bipush (-11), 2) := by decide +kernel
theorem dX12_keepers_14 : decode cX12_keepers 14 = .ok (.iconst 0, 1) := by decide +kernel
theorem dX12_keepers_15 : decode cX12_keepers 15 = .ok (.invokevirtual 156, 3) := by decide +kernel
theorem dX12_keepers_18 : decode cX12_keepers 18 = .ok (.aload_n 0, 1) := by decide +kernel
theorem dX12_keepers_19 : decode cX12_keepers 19 = .ok (.getfield 31, 3) := by decide +kernel
theorem dX12_keepers_22 : decode cX12_keepers 22 = .ok (.iload_n 1, 1) := by decide +kernel
theorem dX12_keepers_23 : decode cX12_keepers 23 = .ok (.iaload, 1) := by decide +kernel
theorem dX12_keepers_24 : decode cX12_keepers 24 = .ok (.bipush 99, 2) := by decide +kernel
theorem dX12_keepers_26 : decode cX12_keepers 26 = .ok (.if_icmp .ne 5, 3) := by decide +kernel
theorem dX12_keepers_29 : decode cX12_keepers 29 = .ok (.iconst 0, 1) := by decide +kernel
theorem dX12_keepers_30 : decode cX12_keepers 30 = .ok (.ireturn, 1) := by decide +kernel
theorem dX12_keepers_31 : decode cX12_keepers 31 = .ok (.iconst 0, 1) := by decide +kernel
theorem dX12_keepers_32 : decode cX12_keepers 32 = .ok (.istore_n 2, 1) := by decide +kernel
theorem dX12_keepers_33 : decode cX12_keepers 33 = .ok (.iconst 0, 1) := by decide +kernel
theorem dX12_keepers_34 : decode cX12_keepers 34 = .ok (.istore_n 3, 1) := by decide +kernel
theorem dX12_keepers_35 : decode cX12_keepers 35 = .ok (.iload_n 3, 1) := by decide +kernel
theorem dX12_keepers_36 : decode cX12_keepers 36 = .ok (.bipush 6, 2) := by decide +kernel
theorem dX12_keepers_38 : decode cX12_keepers 38 = .ok (.if_icmp .ge 36, 3) := by decide +kernel
theorem dX12_keepers_41 : decode cX12_keepers 41 = .ok (.aload_n 0, 1) := by decide +kernel
theorem dX12_keepers_42 : decode cX12_keepers 42 = .ok (.iload_n 3, 1) := by decide +kernel
theorem dX12_keepers_43 : decode cX12_keepers 43 = .ok (.iconst 0, 1) := by decide +kernel
theorem dX12_keepers_44 : decode cX12_keepers 44 = .ok (.invokevirtual 156, 3) := by decide +kernel
theorem dX12_keepers_47 : decode cX12_keepers 47 = .ok (.iload_n 2, 1) := by decide +kernel
theorem dX12_keepers_48 : decode cX12_keepers 48 = .ok (.aload_n 0, 1) := by decide +kernel
theorem dX12_keepers_49 : decode cX12_keepers 49 = .ok (.getfield 31, 3) := by decide +kernel
theorem dX12_keepers_52 : decode cX12_keepers 52 = .ok (.iload_n 1, 1) := by decide +kernel
theorem dX12_keepers_53 : decode cX12_keepers 53 = .ok (.iaload, 1) := by decide +kernel
theorem dX12_keepers_54 : decode cX12_keepers 54 = .ok (.bipush 99, 2) := by decide +kernel
theorem dX12_keepers_56 : decode cX12_keepers 56 = .ok (.if_icmp .ne 9, 3) := by decide +kernel
theorem dX12_keepers_59 : decode cX12_keepers 59 = .ok (.iconst 1, 1) := by decide +kernel
theorem dX12_keepers_60 : decode cX12_keepers 60 = .ok (.iload_n 3, 1) := by decide +kernel
theorem dX12_keepers_61 : decode cX12_keepers 61 = .ok (.ishl, 1) := by decide +kernel
theorem dX12_keepers_62 : decode cX12_keepers 62 = .ok (.goto 4, 3) := by decide +kernel
theorem dX12_keepers_65 : decode cX12_keepers 65 = .ok (.iconst 0, 1) := by decide +kernel
theorem dX12_keepers_66 : decode cX12_keepers 66 = .ok (.ior, 1) := by decide +kernel
theorem dX12_keepers_67 : decode cX12_keepers 67 = .ok (.istore_n 2, 1) := by decide +kernel
theorem dX12_keepers_68 : decode cX12_keepers 68 = .ok (.iinc 3 1, 3) := by decide +kernel
theorem dX12_keepers_71 : decode cX12_keepers 71 = .ok (.goto (-36), 3) := by decide +kernel
theorem dX12_keepers_74 : decode cX12_keepers 74 = .ok (.iload_n 2, 1) := by decide +kernel
theorem dX12_keepers_75 : decode cX12_keepers 75 = .ok (.ireturn, 1) := by decide +kernel
theorem dX12_ring_0 : decode cX12_ring 0 = .ok (.aload_n 0, 1) := by decide +kernel
theorem dX12_ring_1 : decode cX12_ring 1 = .ok (.iload_n 1, 1) := by decide +kernel
theorem dX12_ring_2 : decode cX12_ring 2 = .ok (.invokevirtual 97, 3) := by decide +kernel
theorem dX12_ring_5 : decode cX12_ring 5 = .ok (.ifCond .ne 6, 3) := by decide +kernel
theorem dX12_ring_8 : decode cX12_ring 8 = .ok (.bipush (-11), 2) := by decide +kernel
theorem dX12_ring_10 : decode cX12_ring 10 = .ok (.ireturn, 1) := by decide +kernel
theorem dX12_ring_11 : decode cX12_ring 11 = .ok (.iconst 0, 1) := by decide +kernel
theorem dX12_ring_12 : decode cX12_ring 12 = .ok (.istore_n 2, 1) := by decide +kernel
theorem dX12_ring_13 : decode cX12_ring 13 = .ok (.iload_n 2, 1) := by decide +kernel
theorem dX12_ring_14 : decode cX12_ring 14 = .ok (.bipush 24, 2) := by decide +kernel
theorem dX12_ring_16 : decode cX12_ring 16 = .ok (.if_icmp .ge 17, 3) := by decide +kernel
theorem dX12_ring_19 : decode cX12_ring 19 = .ok (.aload_n 0, 1) := by decide +kernel
theorem dX12_ring_20 : decode cX12_ring 20 = .ok (.getfield 31, 3) := by decide +kernel
theorem dX12_ring_23 : decode cX12_ring 23 = .ok (.iload_n 2, 1) := by decide +kernel
theorem dX12_ring_24 : decode cX12_ring 24 = .ok (.bipush 99, 2) := by decide +kernel
theorem dX12_ring_26 : decode cX12_ring 26 = .ok (.iastore, 1) := by decide +kernel
theorem dX12_ring_27 : decode cX12_ring 27 = .ok (.iinc 2 1, 3) := by decide +kernel
theorem dX12_ring_30 : decode cX12_ring 30 = .ok (.goto (-17), 3) := by decide +kernel
theorem dX12_ring_33 : decode cX12_ring 33 = .ok (.iconst 0, 1) := by decide +kernel
theorem dX12_ring_34 : decode cX12_ring 34 = .ok (.istore_n 2, 1) := by decide +kernel
theorem dX12_ring_35 : decode cX12_ring 35 = .ok (.iload_n 2, 1) := by decide +kernel
theorem dX12_ring_36 : decode cX12_ring 36 = .ok (.iconst 4, 1) := by decide +kernel
theorem dX12_ring_37 : decode cX12_ring 37 = .ok (.if_icmp .ge 24, 3) := by decide +kernel
theorem dX12_ring_40 : decode cX12_ring 40 = .ok (.aload_n 0, 1) := by decide +kernel
theorem dX12_ring_41 : decode cX12_ring 41 = .ok (.aload_n 0, 1) := by decide +kernel
theorem dX12_ring_42 : decode cX12_ring 42 = .ok (.getfield 7, 3) := by decide +kernel
theorem dX12_ring_45 : decode cX12_ring 45 = .ok (.iload_n 1, 1) := by decide +kernel
theorem dX12_ring_46 : decode cX12_ring 46 = .ok (.iload_n 2, 1) := by decide +kernel
theorem dX12_ring_47 : decode cX12_ring 47 = .ok (.invokestatic 62, 3) := by decide +kernel
theorem dX12_ring_50 : decode cX12_ring 50 = .ok (.iaload, 1) := by decide +kernel
theorem dX12_ring_51 : decode cX12_ring 51 = .ok (.iconst 1, 1) := by decide +kernel
theorem dX12_ring_52 : decode cX12_ring 52 = .ok (.invokevirtual 152, 3) := by decide +kernel
theorem dX12_ring_55 : decode cX12_ring 55 = .ok (.iinc 2 1, 3) := by decide +kernel
theorem dX12_ring_58 : decode cX12_ring 58 = .ok (.goto (-23), 3) := by decide +kernel
theorem dX12_ring_61 : decode cX12_ring 61 = .ok (.iconst 0, 1) := by decide +kernel
theorem dX12_ring_62 : decode cX12_ring 62 = .ok (.istore_n 2, 1) := by decide +kernel
theorem dX12_ring_63 : decode cX12_ring 63 = .ok (.iload_n 2, 1) := by decide +kernel
theorem dX12_ring_64 : decode cX12_ring 64 = .ok (.bipush 24, 2) := by decide +kernel
theorem dX12_ring_66 : decode cX12_ring 66 = .ok (.if_icmp .ge 72, 3) := by decide +kernel
theorem dX12_ring_69 : decode cX12_ring 69 = .ok (.iconst 0, 1) := by decide +kernel
theorem dX12_ring_70 : decode cX12_ring 70 = .ok (.istore_n 3, 1) := by decide +kernel
theorem dX12_ring_71 : decode cX12_ring 71 = .ok (.iload_n 3, 1) := by decide +kernel
theorem dX12_ring_72 : decode cX12_ring 72 = .ok (.bipush 24, 2) := by decide +kernel
theorem dX12_ring_74 : decode cX12_ring 74 = .ok (.if_icmp .ge 58, 3) := by decide +kernel
theorem dX12_ring_77 : decode cX12_ring 77 = .ok (.iconst 0, 1) := by decide +kernel
theorem dX12_ring_78 : decode cX12_ring 78 = .ok (.istore 4, 2) := by decide +kernel
theorem dX12_ring_80 : decode cX12_ring 80 = .ok (.iload 4, 2) := by decide +kernel
theorem dX12_ring_82 : decode cX12_ring 82 = .ok (.iconst 4, 1) := by decide +kernel
theorem dX12_ring_83 : decode cX12_ring 83 = .ok (.if_icmp .ge 43, 3) := by decide +kernel
theorem dX12_ring_86 : decode cX12_ring 86 = .ok (.aload_n 0, 1) := by decide +kernel
theorem dX12_ring_87 : decode cX12_ring 87 = .ok (.getfield 31, 3) := by decide +kernel
theorem dX12_ring_90 : decode cX12_ring 90 = .ok (.iload_n 3, 1) := by decide +kernel
theorem dX12_ring_91 : decode cX12_ring 91 = .ok (.iaload, 1) := by decide +kernel
theorem dX12_ring_92 : decode cX12_ring 92 = .ok (.bipush 99, 2) := by decide +kernel
theorem dX12_ring_94 : decode cX12_ring 94 = .ok (.if_icmp .ge 26, 3) := by decide +kernel
theorem dX12_ring_97 : decode cX12_ring 97 = .ok (.aload_n 0, 1) := by decide +kernel
theorem dX12_ring_98 : decode cX12_ring 98 = .ok (.aload_n 0, 1) := by decide +kernel
theorem dX12_ring_99 : decode cX12_ring 99 = .ok (.getfield 7, 3) := by decide +kernel
theorem dX12_ring_102 : decode cX12_ring 102 = .ok (.iload_n 3, 1) := by decide +kernel
theorem dX12_ring_103 : decode cX12_ring 103 = .ok (.iload 4, 2) := by decide +kernel
theorem dX12_ring_105 : decode cX12_ring 105 = .ok (.invokestatic 62, 3) := by decide +kernel
theorem dX12_ring_108 : decode cX12_ring 108 = .ok (.iaload, 1) := by decide +kernel
theorem dX12_ring_109 : decode cX12_ring 109 = .ok (.aload_n 0, 1) := by decide +kernel
theorem dX12_ring_110 : decode cX12_ring 110 = .ok (.getfield 31, 3) := by decide +kernel
theorem dX12_ring_113 : decode cX12_ring 113 = .ok (.iload_n 3, 1) := by decide +kernel
theorem dX12_ring_114 : decode cX12_ring 114 = .ok (.iaload, 1) := by decide +kernel
theorem dX12_ring_115 : decode cX12_ring 115 = .ok (.iconst 1, 1) := by decide +kernel
theorem dX12_ring_116 : decode cX12_ring 116 = .ok (.iadd, 1) := by decide +kernel
theorem dX12_ring_117 : decode cX12_ring 117 = .ok (.invokevirtual 152, 3) := by decide +kernel
theorem dX12_ring_120 : decode cX12_ring 120 = .ok (.iinc 4 1, 3) := by decide +kernel
theorem dX12_ring_123 : decode cX12_ring 123 = .ok (.goto (-43), 3) := by decide +kernel
theorem dX12_ring_126 : decode cX12_ring 126 = .ok (.iinc 3 1, 3) := by decide +kernel
theorem dX12_ring_129 : decode cX12_ring 129 = .ok (.goto (-58), 3) := by decide +kernel
theorem dX12_ring_132 : decode cX12_ring 132 = .ok (.iinc 2 1, 3) := by decide +kernel
theorem dX12_ring_135 : decode cX12_ring 135 = .ok (.goto (-72), 3) := by decide +kernel
theorem dX12_ring_138 : decode cX12_ring 138 = .ok (.aload_n 0, 1) := by decide +kernel
theorem dX12_ring_139 : decode cX12_ring 139 = .ok (.getfield 31, 3) := by decide +kernel
theorem dX12_ring_142 : decode cX12_ring 142 = .ok (.iload_n 1, 1) := by decide +kernel
theorem dX12_ring_143 : decode cX12_ring 143 = .ok (.iaload, 1) := by decide +kernel
theorem dX12_ring_144 : decode cX12_ring 144 = .ok (.bipush 99, 2) := by decide +kernel
theorem dX12_ring_146 : decode cX12_ring 146 = .ok (.if_icmp .ge 12, 3) := by decide +kernel
theorem dX12_ring_149 : decode cX12_ring 149 = .ok (.aload_n 0, 1) := by decide +kernel
theorem dX12_ring_150 : decode cX12_ring 150 = .ok (.getfield 31, 3) := by decide +kernel
theorem dX12_ring_153 : decode cX12_ring 153 = .ok (.iload_n 1, 1) := by decide +kernel
theorem dX12_ring_154 : decode cX12_ring 154 = .ok (.iaload, 1) := by decide +kernel
theorem dX12_ring_155 : decode cX12_ring 155 = .ok (.goto 5, 3) := by decide +kernel
theorem dX12_ring_158 : decode cX12_ring 158 = .ok (.bipush (-15), 2) := by decide +kernel
theorem dX12_ring_160 : decode cX12_ring 160 = .ok (.ireturn, 1) := by decide +kernel
theorem dX12_urns_0 : decode cX12_urns 0 = .ok (.iconst 0, 1) := by decide +kernel
theorem dX12_urns_1 : decode cX12_urns 1 = .ok (.istore_n 1, 1) := by decide +kernel
theorem dX12_urns_2 : decode cX12_urns 2 = .ok (.iconst 0, 1) := by decide +kernel
theorem dX12_urns_3 : decode cX12_urns 3 = .ok (.istore_n 2, 1) := by decide +kernel
theorem dX12_urns_4 : decode cX12_urns 4 = .ok (.iload_n 2, 1) := by decide +kernel
theorem dX12_urns_5 : decode cX12_urns 5 = .ok (.bipush 24, 2) := by decide +kernel
theorem dX12_urns_7 : decode cX12_urns 7 = .ok (.if_icmp .ge 23, 3) := by decide +kernel
theorem dX12_urns_10 : decode cX12_urns 10 = .ok (.iload_n 1, 1) := by decide +kernel
theorem dX12_urns_11 : decode cX12_urns 11 = .ok (.aload_n 0, 1) := by decide +kernel
theorem dX12_urns_12 : decode cX12_urns 12 = .ok (.getfield 7, 3) := by decide +kernel
theorem dX12_urns_15 : decode cX12_urns 15 = .ok (.bipush 17, 2) := by decide +kernel
theorem dX12_urns_17 : decode cX12_urns 17 = .ok (.iload_n 2, 1) := by decide +kernel
theorem dX12_urns_18 : decode cX12_urns 18 = .ok (.iadd, 1) := by decide +kernel
theorem dX12_urns_19 : decode cX12_urns 19 = .ok (.iaload, 1) := by decide +kernel
theorem dX12_urns_20 : decode cX12_urns 20 = .ok (.iload_n 2, 1) := by decide +kernel
theorem dX12_urns_21 : decode cX12_urns 21 = .ok (.ishl, 1) := by decide +kernel
theorem dX12_urns_22 : decode cX12_urns 22 = .ok (.ior, 1) := by decide +kernel
theorem dX12_urns_23 : decode cX12_urns 23 = .ok (.istore_n 1, 1) := by decide +kernel
theorem dX12_urns_24 : decode cX12_urns 24 = .ok (.iinc 2 1, 3) := by decide +kernel
theorem dX12_urns_27 : decode cX12_urns 27 = .ok (.goto (-23), 3) := by decide +kernel
theorem dX12_urns_30 : decode cX12_urns 30 = .ok (.iload_n 1, 1) := by decide +kernel
theorem dX12_urns_31 : decode cX12_urns 31 = .ok (.ireturn, 1) := by decide +kernel
theorem dX12_wouldFree_0 : decode cX12_wouldFree 0 = .ok (.aload_n 0, 1) := by decide +kernel
theorem dX12_wouldFree_1 : decode cX12_wouldFree 1 = .ok (.bipush (-11), 2) := by decide +kernel
theorem dX12_wouldFree_3 : decode cX12_wouldFree 3 = .ok (.iconst 1, 1) := by decide +kernel
theorem dX12_wouldFree_4 : decode cX12_wouldFree 4 = .ok (.invokevirtual 156, 3) := by decide +kernel
theorem dX12_wouldFree_7 : decode cX12_wouldFree 7 = .ok (.aload_n 0, 1) := by decide +kernel
theorem dX12_wouldFree_8 : decode cX12_wouldFree 8 = .ok (.invokevirtual 166, 3) := by decide +kernel
theorem dX12_wouldFree_11 : decode cX12_wouldFree 11 = .ok (.aload_n 0, 1) := by decide +kernel
theorem dX12_wouldFree_12 : decode cX12_wouldFree 12 = .ok (.invokevirtual 160, 3) := by decide +kernel
theorem dX12_wouldFree_15 : decode cX12_wouldFree 15 = .ok (.iconst (-1), 1) := by decide +kernel
theorem dX12_wouldFree_16 : decode cX12_wouldFree 16 = .ok (.ixor, 1) := by decide +kernel
theorem dX12_wouldFree_17 : decode cX12_wouldFree 17 = .ok (.iand, 1) := by decide +kernel
theorem dX12_wouldFree_18 : decode cX12_wouldFree 18 = .ok (.ireturn, 1) := by decide +kernel
theorem dX12_isAhead_0 : decode cX12_isAhead 0 = .ok (.aload_n 0, 1) := by decide +kernel
theorem dX12_isAhead_1 : decode cX12_isAhead 1 = .ok (.iload_n 1, 1) := by decide +kernel
theorem dX12_isAhead_2 : decode cX12_isAhead 2 = .ok (.invokevirtual 140, 3) := by decide +kernel
theorem dX12_isAhead_5 : decode cX12_isAhead 5 = .ok (.aload_n 0, 1) := by decide +kernel
theorem dX12_isAhead_6 : decode cX12_isAhead 6 = .ok (.iload_n 2, 1) := by decide +kernel
theorem dX12_isAhead_7 : decode cX12_isAhead 7 = .ok (.invokevirtual 140, 3) := by decide +kernel
theorem dX12_isAhead_10 : decode cX12_isAhead 10 = .ok (.if_icmp .eq 22, 3) := by decide +kernel
theorem dX12_isAhead_13 : decode cX12_isAhead 13 = .ok (.aload_n 0, 1) := by decide +kernel
theorem dX12_isAhead_14 : decode cX12_isAhead 14 = .ok (.iload_n 1, 1) := by decide +kernel
theorem dX12_isAhead_15 : decode cX12_isAhead 15 = .ok (.invokevirtual 140, 3) := by decide +kernel
theorem dX12_isAhead_18 : decode cX12_isAhead 18 = .ok (.aload_n 0, 1) := by decide +kernel
theorem dX12_isAhead_19 : decode cX12_isAhead 19 = .ok (.iload_n 2, 1) := by decide +kernel
theorem dX12_isAhead_20 : decode cX12_isAhead 20 = .ok (.invokevirtual 140, 3) := by decide +kernel
theorem dX12_isAhead_23 : decode cX12_isAhead 23 = .ok (.if_icmp .le 7, 3) := by decide +kernel
theorem dX12_isAhead_26 : decode cX12_isAhead 26 = .ok (.iconst 1, 1) := by decide +kernel
theorem dX12_isAhead_27 : decode cX12_isAhead 27 = .ok (.goto 4, 3) := by decide +kernel
theorem dX12_isAhead_30 : decode cX12_isAhead 30 = .ok (.iconst 0, 1) := by decide +kernel
theorem dX12_isAhead_31 : decode cX12_isAhead 31 = .ok (.ireturn, 1) := by decide +kernel
theorem dX12_isAhead_32 : decode cX12_isAhead 32 = .ok (.aload_n 0, 1) := by decide +kernel
theorem dX12_isAhead_33 : decode cX12_isAhead 33 = .ok (.iload_n 1, 1) := by decide +kernel
theorem dX12_isAhead_34 : decode cX12_isAhead 34 = .ok (.invokevirtual 137, 3) := by decide +kernel
theorem dX12_isAhead_37 : decode cX12_isAhead 37 = .ok (.aload_n 0, 1) := by decide +kernel
theorem dX12_isAhead_38 : decode cX12_isAhead 38 = .ok (.iload_n 2, 1) := by decide +kernel
theorem dX12_isAhead_39 : decode cX12_isAhead 39 = .ok (.invokevirtual 137, 3) := by decide +kernel
theorem dX12_isAhead_42 : decode cX12_isAhead 42 = .ok (.if_icmp .gt 21, 3) := by decide +kernel
theorem dX12_isAhead_45 : decode cX12_isAhead 45 = .ok (.aload_n 0, 1) := by decide +kernel
theorem dX12_isAhead_46 : decode cX12_isAhead 46 = .ok (.iload_n 1, 1) := by decide +kernel
theorem dX12_isAhead_47 : decode cX12_isAhead 47 = .ok (.invokevirtual 137, 3) := by decide +kernel
theorem dX12_isAhead_50 : decode cX12_isAhead 50 = .ok (.aload_n 0, 1) := by decide +kernel
theorem dX12_isAhead_51 : decode cX12_isAhead 51 = .ok (.iload_n 2, 1) := by decide +kernel
theorem dX12_isAhead_52 : decode cX12_isAhead 52 = .ok (.invokevirtual 137, 3) := by decide +kernel
theorem dX12_isAhead_55 : decode cX12_isAhead 55 = .ok (.if_icmp .ne 12, 3) := by decide +kernel
theorem dX12_isAhead_58 : decode cX12_isAhead 58 = .ok (.iload_n 1, 1) := by decide +kernel
theorem dX12_isAhead_59 : decode cX12_isAhead 59 = .ok (.iload_n 2, 1) := by decide +kernel
theorem dX12_isAhead_60 : decode cX12_isAhead 60 = .ok (.if_icmp .ge 7, 3) := by decide +kernel
theorem dX12_isAhead_63 : decode cX12_isAhead 63 = .ok (.iconst 1, 1) := by decide +kernel
theorem dX12_isAhead_64 : decode cX12_isAhead 64 = .ok (.goto 4, 3) := by decide +kernel
theorem dX12_isAhead_67 : decode cX12_isAhead 67 = .ok (.iconst 0, 1) := by decide +kernel
theorem dX12_isAhead_68 : decode cX12_isAhead 68 = .ok (.ireturn, 1) := by decide +kernel
theorem dX12_ranked_0 : decode cX12_ranked 0 = .ok (.iconst 0, 1) := by decide +kernel
theorem dX12_ranked_1 : decode cX12_ranked 1 = .ok (.istore_n 2, 1) := by decide +kernel
theorem dX12_ranked_2 : decode cX12_ranked 2 = .ok (.iload_n 2, 1) := by decide +kernel
theorem dX12_ranked_3 : decode cX12_ranked 3 = .ok (.bipush 24, 2) := by decide +kernel
theorem dX12_ranked_5 : decode cX12_ranked 5 = .ok (.if_icmp .ge 85, 3) := by decide +kernel
theorem dX12_ranked_8 : decode cX12_ranked 8 = .ok (.iconst 0, 1) := by decide +kernel
theorem dX12_ranked_9 : decode cX12_ranked 9 = .ok (.istore_n 3, 1) := by decide +kernel
theorem dX12_ranked_10 : decode cX12_ranked 10 = .ok (.iconst 0, 1) := by decide +kernel
theorem dX12_ranked_11 : decode cX12_ranked 11 = .ok (.istore 4, 2) := by decide +kernel
theorem dX12_ranked_13 : decode cX12_ranked 13 = .ok (.iload 4, 2) := by decide +kernel
theorem dX12_ranked_15 : decode cX12_ranked 15 = .ok (.bipush 24, 2) := by decide +kernel
theorem dX12_ranked_17 : decode cX12_ranked 17 = .ok (.if_icmp .ge 47, 3) := by decide +kernel
theorem dX12_ranked_20 : decode cX12_ranked 20 = .ok (.iload_n 3, 1) := by decide +kernel
theorem dX12_ranked_21 : decode cX12_ranked 21 = .ok (.aload_n 0, 1) := by decide +kernel
theorem dX12_ranked_22 : decode cX12_ranked 22 = .ok (.getfield 7, 3) := by decide +kernel
theorem dX12_ranked_25 : decode cX12_ranked 25 = .ok (.bipush 17, 2) := by decide +kernel
theorem dX12_ranked_27 : decode cX12_ranked 27 = .ok (.iload 4, 2) := by decide +kernel
theorem dX12_ranked_29 : decode cX12_ranked 29 = .ok (.iadd, 1) := by decide +kernel
theorem dX12_ranked_30 : decode cX12_ranked 30 = .ok (.iaload, 1) := by decide +kernel
theorem dX12_ranked_31 : decode cX12_ranked 31 = .ok (.iconst 1, 1) := by decide +kernel
theorem dX12_ranked_32 : decode cX12_ranked 32 = .ok (.if_icmp .ne 23, 3) := by decide +kernel
theorem dX12_ranked_35 : decode cX12_ranked 35 = .ok (.iload 4, 2) := by decide +kernel
theorem dX12_ranked_37 : decode cX12_ranked 37 = .ok (.iload_n 2, 1) := by decide +kernel
theorem dX12_ranked_38 : decode cX12_ranked 38 = .ok (.if_icmp .eq 17, 3) := by decide +kernel
theorem dX12_ranked_41 : decode cX12_ranked 41 = .ok (.aload_n 0, 1) := by decide +kernel
theorem dX12_ranked_42 : decode cX12_ranked 42 = .ok (.iload 4, 2) := by decide +kernel
theorem dX12_ranked_44 : decode cX12_ranked 44 = .ok (.iload_n 2, 1) := by decide +kernel
theorem dX12_ranked_45 : decode cX12_ranked 45 = .ok (.invokevirtual 169, 3) := by decide +kernel
theorem dX12_ranked_48 : decode cX12_ranked 48 = .ok (.ifCond .eq 7, 3) := by decide +kernel
theorem dX12_ranked_51 : decode cX12_ranked 51 = .ok (.iconst 1, 1) := by decide +kernel
theorem dX12_ranked_52 : decode cX12_ranked 52 = .ok (.goto 4, 3) := by decide +kernel
theorem dX12_ranked_55 : decode cX12_ranked 55 = .ok (.iconst 0, 1) := by decide +kernel
theorem dX12_ranked_56 : decode cX12_ranked 56 = .ok (.iadd, 1) := by decide +kernel
theorem dX12_ranked_57 : decode cX12_ranked 57 = .ok (.istore_n 3, 1) := by decide +kernel
theorem dX12_ranked_58 : decode cX12_ranked 58 = .ok (.iinc 4 1, 3) := by decide +kernel
theorem dX12_ranked_61 : decode cX12_ranked 61 = .ok (.goto (-48), 3) := by decide +kernel
theorem dX12_ranked_64 : decode cX12_ranked 64 = .ok (.aload_n 0, 1) := by decide +kernel
theorem dX12_ranked_65 : decode cX12_ranked 65 = .ok (.getfield 7, 3) := by decide +kernel
theorem dX12_ranked_68 : decode cX12_ranked 68 = .ok (.bipush 17, 2) := by decide +kernel
theorem dX12_ranked_70 : decode cX12_ranked 70 = .ok (.iload_n 2, 1) := by decide +kernel
theorem dX12_ranked_71 : decode cX12_ranked 71 = .ok (.iadd, 1) := by decide +kernel
theorem dX12_ranked_72 : decode cX12_ranked 72 = .ok (.iaload, 1) := by decide +kernel
theorem dX12_ranked_73 : decode cX12_ranked 73 = .ok (.iconst 1, 1) := by decide +kernel
theorem dX12_ranked_74 : decode cX12_ranked 74 = .ok (.if_icmp .ne 10, 3) := by decide +kernel
theorem dX12_ranked_77 : decode cX12_ranked 77 = .ok (.iload_n 3, 1) := by decide +kernel
theorem dX12_ranked_78 : decode cX12_ranked 78 = .ok (.iload_n 1, 1) := by decide +kernel
theorem dX12_ranked_79 : decode cX12_ranked 79 = .ok (.if_icmp .ne 5, 3) := by decide +kernel
theorem dX12_ranked_82 : decode cX12_ranked 82 = .ok (.iload_n 2, 1) := by decide +kernel
theorem dX12_ranked_83 : decode cX12_ranked 83 = .ok (.ireturn, 1) := by decide +kernel
theorem dX12_ranked_84 : decode cX12_ranked 84 = .ok (.iinc 2 1, 3) := by decide +kernel
theorem dX12_ranked_87 : decode cX12_ranked 87 = .ok (.goto (-85), 3) := by decide +kernel
theorem dX12_ranked_90 : decode cX12_ranked 90 = .ok (.bipush (-11), 2) := by decide +kernel
theorem dX12_ranked_92 : decode cX12_ranked 92 = .ok (.ireturn, 1) := by decide +kernel
theorem dX12_append_0 : decode cX12_append 0 = .ok (.iload_n 1, 1) := by decide +kernel
theorem dX12_append_1 : decode cX12_append 1 = .ok (.bipush 32, 2) := by decide +kernel
theorem dX12_append_3 : decode cX12_append 3 = .ok (.bipush 126, 2) := by decide +kernel
theorem dX12_append_5 : decode cX12_append 5 = .ok (.invokestatic 58, 3) := by decide +kernel
theorem dX12_append_8 : decode cX12_append 8 = .ok (.ifCond .ne 6, 3) := by decide +kernel
theorem dX12_append_11 : decode cX12_append 11 = .ok (.bipush (-12), 2) := by decide +kernel
theorem dX12_append_13 : decode cX12_append 13 = .ok (.ireturn, 1) := by decide +kernel
theorem dX12_append_14 : decode cX12_append 14 = .ok (.aload_n 0, 1) := by decide +kernel
theorem dX12_append_15 : decode cX12_append 15 = .ok (.getfield 173, 3) := by decide +kernel
theorem dX12_append_18 : decode cX12_append 18 = .ok (.bipush 60, 2) := by decide +kernel
theorem dX12_append_20 : decode cX12_append 20 = .ok (.if_icmp .ne 6, 3) := by decide +kernel
theorem dX12_append_23 : decode cX12_append 23 = .ok (.bipush (-13), 2) := by decide +kernel
theorem dX12_append_25 : decode cX12_append 25 = .ok (.ireturn, 1) := by decide +kernel
theorem dX12_append_26 : decode cX12_append 26 = .ok (.aload_n 0, 1) := by decide +kernel
theorem dX12_append_27 : decode cX12_append 27 = .ok (.getfield 22, 3) := by decide +kernel
theorem dX12_append_30 : decode cX12_append 30 = .ok (.aload_n 0, 1) := by decide +kernel
theorem dX12_append_31 : decode cX12_append 31 = .ok (.getfield 173, 3) := by decide +kernel
theorem dX12_append_34 : decode cX12_append 34 = .ok (.iload_n 1, 1) := by decide +kernel
theorem dX12_append_35 : decode cX12_append 35 = .ok (.iastore, 1) := by decide +kernel
theorem dX12_append_36 : decode cX12_append 36 = .ok (.aload_n 0, 1) := by decide +kernel
theorem dX12_append_37 : decode cX12_append 37 = .ok (.dup, 1) := by decide +kernel
theorem dX12_append_38 : decode cX12_append 38 = .ok (.getfield 173, 3) := by decide +kernel
theorem dX12_append_41 : decode cX12_append 41 = .ok (.iconst 1, 1) := by decide +kernel
theorem dX12_append_42 : decode cX12_append 42 = .ok (.iadd, 1) := by decide +kernel
theorem dX12_append_43 : decode cX12_append 43 = .ok (.putfield 173, 3) := by decide +kernel
theorem dX12_append_46 : decode cX12_append 46 = .ok (.aload_n 0, 1) := by decide +kernel
theorem dX12_append_47 : decode cX12_append 47 = .ok (.getfield 173, 3) := by decide +kernel
theorem dX12_append_50 : decode cX12_append 50 = .ok (.ireturn, 1) := by decide +kernel
theorem dX12_here_0 : decode cX12_here 0 = .ok (.aload_n 0, 1) := by decide +kernel
theorem dX12_here_1 : decode cX12_here 1 = .ok (.getfield 176, 3) := by decide +kernel
theorem dX12_here_4 : decode cX12_here 4 = .ok (.aload_n 0, 1) := by decide +kernel
theorem dX12_here_5 : decode cX12_here 5 = .ok (.getfield 179, 3) := by decide +kernel
theorem dX12_here_8 : decode cX12_here 8 = .ok (.if_icmp .ge 15, 3) := by decide +kernel
theorem dX12_here_11 : decode cX12_here 11 = .ok (.aload_n 0, 1) := by decide +kernel
theorem dX12_here_12 : decode cX12_here 12 = .ok (.getfield 22, 3) := by decide +kernel
theorem dX12_here_15 : decode cX12_here 15 = .ok (.aload_n 0, 1) := by decide +kernel
theorem dX12_here_16 : decode cX12_here 16 = .ok (.getfield 176, 3) := by decide +kernel
theorem dX12_here_19 : decode cX12_here 19 = .ok (.iaload, 1) := by decide +kernel
theorem dX12_here_20 : decode cX12_here 20 = .ok (.goto 5, 3) := by decide +kernel
theorem dX12_here_23 : decode cX12_here 23 = .ok (.bipush (-11), 2) := by decide +kernel
theorem dX12_here_25 : decode cX12_here 25 = .ok (.ireturn, 1) := by decide +kernel
theorem dX12_next_0 : decode cX12_next 0 = .ok (.aload_n 0, 1) := by decide +kernel
theorem dX12_next_1 : decode cX12_next 1 = .ok (.getfield 176, 3) := by decide +kernel
theorem dX12_next_4 : decode cX12_next 4 = .ok (.iconst 1, 1) := by decide +kernel
theorem dX12_next_5 : decode cX12_next 5 = .ok (.iadd, 1) := by decide +kernel
theorem dX12_next_6 : decode cX12_next 6 = .ok (.aload_n 0, 1) := by decide +kernel
theorem dX12_next_7 : decode cX12_next 7 = .ok (.getfield 179, 3) := by decide +kernel
theorem dX12_next_10 : decode cX12_next 10 = .ok (.if_icmp .ge 17, 3) := by decide +kernel
theorem dX12_next_13 : decode cX12_next 13 = .ok (.aload_n 0, 1) := by decide +kernel
theorem dX12_next_14 : decode cX12_next 14 = .ok (.getfield 22, 3) := by decide +kernel
theorem dX12_next_17 : decode cX12_next 17 = .ok (.aload_n 0, 1) := by decide +kernel
theorem dX12_next_18 : decode cX12_next 18 = .ok (.getfield 176, 3) := by decide +kernel
theorem dX12_next_21 : decode cX12_next 21 = .ok (.iconst 1, 1) := by decide +kernel
theorem dX12_next_22 : decode cX12_next 22 = .ok (.iadd, 1) := by decide +kernel
theorem dX12_next_23 : decode cX12_next 23 = .ok (.iaload, 1) := by decide +kernel
theorem dX12_next_24 : decode cX12_next 24 = .ok (.goto 5, 3) := by decide +kernel
theorem dX12_next_27 : decode cX12_next 27 = .ok (.bipush (-11), 2) := by decide +kernel
theorem dX12_next_29 : decode cX12_next 29 = .ok (.ireturn, 1) := by decide +kernel
theorem dX12_tells_0 : decode cX12_tells 0 = .ok (.aload_n 0, 1) := by decide +kernel
theorem dX12_tells_1 : decode cX12_tells 1 = .ok (.getfield 25, 3) := by decide +kernel
theorem dX12_tells_4 : decode cX12_tells 4 = .ok (.iconst 4, 1) := by decide +kernel
theorem dX12_tells_5 : decode cX12_tells 5 = .ok (.aload_n 0, 1) := by decide +kernel
theorem dX12_tells_6 : decode cX12_tells 6 = .ok (.getfield 197, 3) := by decide +kernel
theorem dX12_tells_9 : decode cX12_tells 9 = .ok (.imul, 1) := by decide +kernel
theorem dX12_tells_10 : decode cX12_tells 10 = .ok (.iload_n 1, 1) := by decide +kernel
theorem dX12_tells_11 : decode cX12_tells 11 = .ok (.iadd, 1) := by decide +kernel
theorem dX12_tells_12 : decode cX12_tells 12 = .ok (.iload_n 2, 1) := by decide +kernel
theorem dX12_tells_13 : decode cX12_tells 13 = .ok (.iastore, 1) := by decide +kernel
theorem dX12_tells_14 : decode cX12_tells 14 = .ok (.return_, 1) := by decide +kernel
theorem dX12_number_0 : decode cX12_number 0 = .ok (.iconst 0, 1) := by decide +kernel
theorem dX12_number_1 : decode cX12_number 1 = .ok (.istore_n 3, 1) := by decide +kernel
theorem dX12_number_2 : decode cX12_number 2 = .ok (.iconst 0, 1) := by decide +kernel
theorem dX12_number_3 : decode cX12_number 3 = .ok (.istore 4, 2) := by decide +kernel
theorem dX12_number_5 : decode cX12_number 5 = .ok (.aload_n 0, 1) := by decide +kernel
theorem dX12_number_6 : decode cX12_number 6 = .ok (.getfield 186, 3) := by decide +kernel
theorem dX12_number_9 : decode cX12_number 9 = .ok (.ifCond .ne 52, 3) := by decide +kernel
theorem dX12_number_12 : decode cX12_number 12 = .ok (.iload 4, 2) := by decide +kernel
theorem dX12_number_14 : decode cX12_number 14 = .ok (.iload_n 2, 1) := by decide +kernel
theorem dX12_number_15 : decode cX12_number 15 = .ok (.if_icmp .ge 46, 3) := by decide +kernel
theorem dX12_number_18 : decode cX12_number 18 = .ok (.aload_n 0, 1) := by decide +kernel
theorem dX12_number_19 : decode cX12_number 19 = .ok (.invokevirtual 190, 3) := by decide +kernel
theorem dX12_number_22 : decode cX12_number 22 = .ok (.bipush 48, 2) := by decide +kernel
theorem dX12_number_24 : decode cX12_number 24 = .ok (.bipush 57, 2) := by decide +kernel
theorem dX12_number_26 : decode cX12_number 26 = .ok (.invokestatic 58, 3) := by decide +kernel
theorem dX12_number_29 : decode cX12_number 29 = .ok (.ifCond .eq 32, 3) := by decide +kernel
theorem dX12_number_32 : decode cX12_number 32 = .ok (.bipush 10, 2) := by decide +kernel
theorem dX12_number_34 : decode cX12_number 34 = .ok (.iload_n 3, 1) := by decide +kernel
theorem dX12_number_35 : decode cX12_number 35 = .ok (.imul, 1) := by decide +kernel
theorem dX12_number_36 : decode cX12_number 36 = .ok (.aload_n 0, 1) := by decide +kernel
theorem dX12_number_37 : decode cX12_number 37 = .ok (.invokevirtual 190, 3) := by decide +kernel
theorem dX12_number_40 : decode cX12_number 40 = .ok (.iadd, 1) := by decide +kernel
theorem dX12_number_41 : decode cX12_number 41 = .ok (.bipush 48, 2) := by decide +kernel
theorem dX12_number_43 : decode cX12_number 43 = .ok (.isub, 1) := by decide +kernel
theorem dX12_number_44 : decode cX12_number 44 = .ok (.istore_n 3, 1) := by decide +kernel
theorem dX12_number_45 : decode cX12_number 45 = .ok (.aload_n 0, 1) := by decide +kernel
theorem dX12_number_46 : decode cX12_number 46 = .ok (.dup, 1) := by decide +kernel
theorem dX12_number_47 : decode cX12_number 47 = .ok (.getfield 176, 3) := by decide +kernel
theorem dX12_number_50 : decode cX12_number 50 = .ok (.iconst 1, 1) := by decide +kernel
theorem dX12_number_51 : decode cX12_number 51 = .ok (.iadd, 1) := by decide +kernel
theorem dX12_number_52 : decode cX12_number 52 = .ok (.putfield 176, 3) := by decide +kernel
theorem dX12_number_55 : decode cX12_number 55 = .ok (.iinc 4 1, 3) := by decide +kernel
theorem dX12_number_58 : decode cX12_number 58 = .ok (.goto (-53), 3) := by decide +kernel
theorem dX12_number_61 : decode cX12_number 61 = .ok (.aload_n 0, 1) := by decide +kernel
theorem dX12_number_62 : decode cX12_number 62 = .ok (.aload_n 0, 1) := by decide +kernel
theorem dX12_number_63 : decode cX12_number 63 = .ok (.getfield 186, 3) := by decide +kernel
theorem dX12_number_66 : decode cX12_number 66 = .ok (.ifCond .ne 8, 3) := by decide +kernel
theorem dX12_number_69 : decode cX12_number 69 = .ok (.iload 4, 2) := by decide +kernel
theorem dX12_number_71 : decode cX12_number 71 = .ok (.ifCond .ne 7, 3) := by decide +kernel
theorem dX12_number_74 : decode cX12_number 74 = .ok (.iconst 1, 1) := by decide +kernel
theorem dX12_number_75 : decode cX12_number 75 = .ok (.goto 4, 3) := by decide +kernel
theorem dX12_number_78 : decode cX12_number 78 = .ok (.iconst 0, 1) := by decide +kernel
theorem dX12_number_79 : decode cX12_number 79 = .ok (.putfield 186, 3) := by decide +kernel
theorem dX12_number_82 : decode cX12_number 82 = .ok (.aload_n 0, 1) := by decide +kernel
theorem dX12_number_83 : decode cX12_number 83 = .ok (.iload_n 1, 1) := by decide +kernel
theorem dX12_number_84 : decode cX12_number 84 = .ok (.iload_n 3, 1) := by decide +kernel
theorem dX12_number_85 : decode cX12_number 85 = .ok (.invokevirtual 200, 3) := by decide +kernel
theorem dX12_number_88 : decode cX12_number 88 = .ok (.return_, 1) := by decide +kernel
theorem dX12_letter_0 : decode cX12_letter 0 = .ok (.aload_n 0, 1) := by decide +kernel
theorem dX12_letter_1 : decode cX12_letter 1 = .ok (.aload_n 0, 1) := by decide +kernel
theorem dX12_letter_2 : decode cX12_letter 2 = .ok (.getfield 186, 3) := by decide +kernel
theorem dX12_letter_5 : decode cX12_letter 5 = .ok (.ifCond .ne 17, 3) := by decide +kernel
theorem dX12_letter_8 : decode cX12_letter 8 = .ok (.aload_n 0, 1) := by decide +kernel
theorem dX12_letter_9 : decode cX12_letter 9 = .ok (.invokevirtual 190, 3) := by decide +kernel
theorem dX12_letter_12 : decode cX12_letter 12 = .ok (.bipush 97, 2) := by decide +kernel
theorem dX12_letter_14 : decode cX12_letter 14 = .ok (.bipush 102, 2) := by decide +kernel
theorem dX12_letter_16 : decode cX12_letter 16 = .ok (.invokestatic 58, 3) := by decide +kernel
theorem dX12_letter_19 : decode cX12_letter 19 = .ok (.ifCond .ne 7, 3) := by decide +kernel
theorem dX12_letter_22 : decode cX12_letter 22 = .ok (.iconst 1, 1) := by decide +kernel
theorem dX12_letter_23 : decode cX12_letter 23 = .ok (.goto 4, 3) := by decide +kernel
theorem dX12_letter_26 : decode cX12_letter 26 = .ok (.iconst 0, 1) := by decide +kernel
theorem dX12_letter_27 : decode cX12_letter 27 = .ok (.putfield 186, 3) := by decide +kernel
theorem dX12_letter_30 : decode cX12_letter 30 = .ok (.aload_n 0, 1) := by decide +kernel
theorem dX12_letter_31 : decode cX12_letter 31 = .ok (.iload_n 1, 1) := by decide +kernel
theorem dX12_letter_32 : decode cX12_letter 32 = .ok (.aload_n 0, 1) := by decide +kernel
theorem dX12_letter_33 : decode cX12_letter 33 = .ok (.invokevirtual 190, 3) := by decide +kernel
theorem dX12_letter_36 : decode cX12_letter 36 = .ok (.bipush 97, 2) := by decide +kernel
theorem dX12_letter_38 : decode cX12_letter 38 = .ok (.isub, 1) := by decide +kernel
theorem dX12_letter_39 : decode cX12_letter 39 = .ok (.invokevirtual 200, 3) := by decide +kernel
theorem dX12_letter_42 : decode cX12_letter 42 = .ok (.aload_n 0, 1) := by decide +kernel
theorem dX12_letter_43 : decode cX12_letter 43 = .ok (.dup, 1) := by decide +kernel
theorem dX12_letter_44 : decode cX12_letter 44 = .ok (.getfield 176, 3) := by decide +kernel
theorem dX12_letter_47 : decode cX12_letter 47 = .ok (.aload_n 0, 1) := by decide +kernel
theorem dX12_letter_48 : decode cX12_letter 48 = .ok (.getfield 186, 3) := by decide +kernel
theorem dX12_letter_51 : decode cX12_letter 51 = .ok (.ifCond .eq 7, 3) := by decide +kernel
theorem dX12_letter_54 : decode cX12_letter 54 = .ok (.iconst 0, 1) := by decide +kernel
theorem dX12_letter_55 : decode cX12_letter 55 = .ok (.goto 4, 3) := by decide +kernel
theorem dX12_letter_58 : decode cX12_letter 58 = .ok (.iconst 1, 1) := by decide +kernel
theorem dX12_letter_59 : decode cX12_letter 59 = .ok (.iadd, 1) := by decide +kernel
theorem dX12_letter_60 : decode cX12_letter 60 = .ok (.putfield 176, 3) := by decide +kernel
theorem dX12_letter_63 : decode cX12_letter 63 = .ok (.return_, 1) := by decide +kernel
theorem dX12_word_0 : decode cX12_word 0 = .ok (.iconst 0, 1) := by decide +kernel
theorem dX12_word_1 : decode cX12_word 1 = .ok (.istore_n 2, 1) := by decide +kernel
theorem dX12_word_2 : decode cX12_word 2 = .ok (.iload_n 2, 1) := by decide +kernel
theorem dX12_word_3 : decode cX12_word 3 = .ok (.aload_n 1, 1) := by decide +kernel
theorem dX12_word_4 : decode cX12_word 4 = .ok (.invokevirtual 182, 3) := by decide +kernel
theorem dX12_word_7 : decode cX12_word 7 = .ok (.if_icmp .ge 58, 3) := by decide +kernel
theorem dX12_word_10 : decode cX12_word 10 = .ok (.aload_n 0, 1) := by decide +kernel
theorem dX12_word_11 : decode cX12_word 11 = .ok (.getfield 186, 3) := by decide +kernel
theorem dX12_word_14 : decode cX12_word 14 = .ok (.ifCond .ne 51, 3) := by decide +kernel
theorem dX12_word_17 : decode cX12_word 17 = .ok (.aload_n 0, 1) := by decide +kernel
theorem dX12_word_18 : decode cX12_word 18 = .ok (.aload_n 0, 1) := by decide +kernel
theorem dX12_word_19 : decode cX12_word 19 = .ok (.invokevirtual 190, 3) := by decide +kernel
theorem dX12_word_22 : decode cX12_word 22 = .ok (.aload_n 1, 1) := by decide +kernel
theorem dX12_word_23 : decode cX12_word 23 = .ok (.iload_n 2, 1) := by decide +kernel
theorem dX12_word_24 : decode cX12_word 24 = .ok (.invokevirtual 193, 3) := by decide +kernel
theorem dX12_word_27 : decode cX12_word 27 = .ok (.if_icmp .eq 7, 3) := by decide +kernel
theorem dX12_word_30 : decode cX12_word 30 = .ok (.iconst 1, 1) := by decide +kernel
theorem dX12_word_31 : decode cX12_word 31 = .ok (.goto 4, 3) := by decide +kernel
theorem dX12_word_34 : decode cX12_word 34 = .ok (.iconst 0, 1) := by decide +kernel
theorem dX12_word_35 : decode cX12_word 35 = .ok (.putfield 186, 3) := by decide +kernel
theorem dX12_word_38 : decode cX12_word 38 = .ok (.aload_n 0, 1) := by decide +kernel
theorem dX12_word_39 : decode cX12_word 39 = .ok (.dup, 1) := by decide +kernel
theorem dX12_word_40 : decode cX12_word 40 = .ok (.getfield 176, 3) := by decide +kernel
theorem dX12_word_43 : decode cX12_word 43 = .ok (.aload_n 0, 1) := by decide +kernel
theorem dX12_word_44 : decode cX12_word 44 = .ok (.getfield 186, 3) := by decide +kernel
theorem dX12_word_47 : decode cX12_word 47 = .ok (.ifCond .eq 7, 3) := by decide +kernel
theorem dX12_word_50 : decode cX12_word 50 = .ok (.iconst 0, 1) := by decide +kernel
theorem dX12_word_51 : decode cX12_word 51 = .ok (.goto 4, 3) := by decide +kernel
theorem dX12_word_54 : decode cX12_word 54 = .ok (.iconst 1, 1) := by decide +kernel
theorem dX12_word_55 : decode cX12_word 55 = .ok (.iadd, 1) := by decide +kernel
theorem dX12_word_56 : decode cX12_word 56 = .ok (.putfield 176, 3) := by decide +kernel
theorem dX12_word_59 : decode cX12_word 59 = .ok (.iinc 2 1, 3) := by decide +kernel
theorem dX12_word_62 : decode cX12_word 62 = .ok (.goto (-60), 3) := by decide +kernel
theorem dX12_word_65 : decode cX12_word 65 = .ok (.return_, 1) := by decide +kernel
theorem dX12_slotOf_0 : decode cX12_slotOf 0 = .ok (.aload_n 0, 1) := by decide +kernel
theorem dX12_slotOf_1 : decode cX12_slotOf 1 = .ok (.aload_n 1, 1) := by decide +kernel
theorem dX12_slotOf_2 : decode cX12_slotOf 2 = .ok (.invokevirtual 203, 3) := by decide +kernel
theorem dX12_slotOf_5 : decode cX12_slotOf 5 = .ok (.aload_n 0, 1) := by decide +kernel
theorem dX12_slotOf_6 : decode cX12_slotOf 6 = .ok (.iconst 1, 1) := by decide +kernel
theorem dX12_slotOf_7 : decode cX12_slotOf 7 = .ok (.iconst 2, 1) := by decide +kernel
theorem dX12_slotOf_8 : decode cX12_slotOf 8 = .ok (.invokevirtual 207, 3) := by decide +kernel
theorem dX12_slotOf_11 : decode cX12_slotOf 11 = .ok (.aload_n 0, 1) := by decide +kernel
theorem dX12_slotOf_12 : decode cX12_slotOf 12 = .ok (.ldc 210, 2) := by decide +kernel
theorem dX12_slotOf_14 : decode cX12_slotOf 14 = .ok (.invokevirtual 203, 3) := by decide +kernel
theorem dX12_slotOf_17 : decode cX12_slotOf 17 = .ok (.aload_n 0, 1) := by decide +kernel
theorem dX12_slotOf_18 : decode cX12_slotOf 18 = .ok (.iconst 2, 1) := by decide +kernel
theorem dX12_slotOf_19 : decode cX12_slotOf 19 = .ok (.iconst 1, 1) := by decide +kernel
theorem dX12_slotOf_20 : decode cX12_slotOf 20 = .ok (.invokevirtual 207, 3) := by decide +kernel
theorem dX12_slotOf_23 : decode cX12_slotOf 23 = .ok (.return_, 1) := by decide +kernel
theorem dX12_readsOne_0 : decode cX12_readsOne 0 = .ok (.aload_n 0, 1) := by decide +kernel
theorem dX12_readsOne_1 : decode cX12_readsOne 1 = .ok (.invokevirtual 190, 3) := by decide +kernel
theorem dX12_readsOne_4 : decode cX12_readsOne 4 = .ok (.istore_n 1, 1) := by decide +kernel
theorem dX12_readsOne_5 : decode cX12_readsOne 5 = .ok (.iload_n 1, 1) := by decide +kernel
theorem dX12_readsOne_6 : decode cX12_readsOne 6 = .ok (.bipush 117, 2) := by decide +kernel
theorem dX12_readsOne_8 : decode cX12_readsOne 8 = .ok (.if_icmp .ne 17, 3) := by decide +kernel
theorem dX12_readsOne_11 : decode cX12_readsOne 11 = .ok (.aload_n 0, 1) := by decide +kernel
theorem dX12_readsOne_12 : decode cX12_readsOne 12 = .ok (.invokevirtual 212, 3) := by decide +kernel
theorem dX12_readsOne_15 : decode cX12_readsOne 15 = .ok (.bipush 110, 2) := by decide +kernel
theorem dX12_readsOne_17 : decode cX12_readsOne 17 = .ok (.if_icmp .ne 8, 3) := by decide +kernel
theorem dX12_readsOne_20 : decode cX12_readsOne 20 = .ok (.bipush 118, 2) := by decide +kernel
theorem dX12_readsOne_22 : decode cX12_readsOne 22 = .ok (.goto 24, 3) := by decide +kernel
theorem dX12_readsOne_25 : decode cX12_readsOne 25 = .ok (.iload_n 1, 1) := by decide +kernel
theorem dX12_readsOne_26 : decode cX12_readsOne 26 = .ok (.bipush 114, 2) := by decide +kernel
theorem dX12_readsOne_28 : decode cX12_readsOne 28 = .ok (.if_icmp .ne 17, 3) := by decide +kernel
theorem dX12_readsOne_31 : decode cX12_readsOne 31 = .ok (.aload_n 0, 1) := by decide +kernel
theorem dX12_readsOne_32 : decode cX12_readsOne 32 = .ok (.invokevirtual 212, 3) := by decide +kernel
theorem dX12_readsOne_35 : decode cX12_readsOne 35 = .ok (.bipush 105, 2) := by decide +kernel
theorem dX12_readsOne_37 : decode cX12_readsOne 37 = .ok (.if_icmp .ne 8, 3) := by decide +kernel
theorem dX12_readsOne_40 : decode cX12_readsOne 40 = .ok (.bipush 105, 2) := by decide +kernel
theorem dX12_readsOne_42 : decode cX12_readsOne 42 = .ok (.goto 4, 3) := by decide +kernel
theorem dX12_readsOne_45 : decode cX12_readsOne 45 = .ok (.iload_n 1, 1) := by decide +kernel
theorem dX12_readsOne_46 : decode cX12_readsOne 46 = .ok (.istore_n 2, 1) := by decide +kernel
theorem dX12_readsOne_47 : decode cX12_readsOne 47 = .ok (.aload_n 0, 1) := by decide +kernel
theorem dX12_readsOne_48 : decode cX12_readsOne 48 = .ok (.iconst 0, 1) := by decide +kernel
theorem dX12_readsOne_49 : decode cX12_readsOne 49 = .ok (.iload_n 2, 1) := by decide +kernel
theorem dX12_readsOne_50 : decode cX12_readsOne 50 = .ok (.invokevirtual 200, 3) := by decide +kernel
theorem dX12_readsOne_53 : decode cX12_readsOne 53 = .ok (.iload_n 2, 1) := by decide +kernel
theorem dX12_readsOne_54 : decode cX12_readsOne 54 = .ok (.tableswitch 281 100 119 #[207, 281, 281, 281, 281, 272, 281, 281, 281, 281, 181, 281, 281, 281, 248, 257, 151, 94, 172, 221], 94) := by decide +kernel
theorem dX12_readsOne_148 : decode cX12_readsOne 148 = .ok (.aload_n 0, 1) := by decide +kernel
theorem dX12_readsOne_149 : decode cX12_readsOne 149 = .ok (.ldc 215, 2) := by decide +kernel
theorem dX12_readsOne_151 : decode cX12_readsOne 151 = .ok (.invokevirtual 203, 3) := by decide +kernel
theorem dX12_readsOne_154 : decode cX12_readsOne 154 = .ok (.aload_n 0, 1) := by decide +kernel
theorem dX12_readsOne_155 : decode cX12_readsOne 155 = .ok (.iconst 1, 1) := by decide +kernel
theorem dX12_readsOne_156 : decode cX12_readsOne 156 = .ok (.aload_n 0, 1) := by decide +kernel
theorem dX12_readsOne_157 : decode cX12_readsOne 157 = .ok (.getfield 186, 3) := by decide +kernel
theorem dX12_readsOne_160 : decode cX12_readsOne 160 = .ok (.ifCond .ne 16, 3) := by decide +kernel
theorem dX12_readsOne_163 : decode cX12_readsOne 163 = .ok (.aload_n 0, 1) := by decide +kernel
theorem dX12_readsOne_164 : decode cX12_readsOne 164 = .ok (.invokevirtual 190, 3) := by decide +kernel
theorem dX12_readsOne_167 : decode cX12_readsOne 167 = .ok (.bipush 33, 2) := by decide +kernel
theorem dX12_readsOne_169 : decode cX12_readsOne 169 = .ok (.if_icmp .ne 7, 3) := by decide +kernel
theorem dX12_readsOne_172 : decode cX12_readsOne 172 = .ok (.iconst 1, 1) := by decide +kernel
theorem dX12_readsOne_173 : decode cX12_readsOne 173 = .ok (.goto 4, 3) := by decide +kernel
theorem dX12_readsOne_176 : decode cX12_readsOne 176 = .ok (.iconst 0, 1) := by decide +kernel
theorem dX12_readsOne_177 : decode cX12_readsOne 177 = .ok (.invokevirtual 200, 3) := by decide +kernel
theorem dX12_readsOne_180 : decode cX12_readsOne 180 = .ok (.aload_n 0, 1) := by decide +kernel
theorem dX12_readsOne_181 : decode cX12_readsOne 181 = .ok (.dup, 1) := by decide +kernel
theorem dX12_readsOne_182 : decode cX12_readsOne 182 = .ok (.getfield 176, 3) := by decide +kernel
theorem dX12_readsOne_185 : decode cX12_readsOne 185 = .ok (.aload_n 0, 1) := by decide +kernel
theorem dX12_readsOne_186 : decode cX12_readsOne 186 = .ok (.getfield 25, 3) := by decide +kernel
theorem dX12_readsOne_189 : decode cX12_readsOne 189 = .ok (.iconst 4, 1) := by decide +kernel
theorem dX12_readsOne_190 : decode cX12_readsOne 190 = .ok (.aload_n 0, 1) := by decide +kernel
theorem dX12_readsOne_191 : decode cX12_readsOne 191 = .ok (.getfield 197, 3) := by decide +kernel
theorem dX12_readsOne_194 : decode cX12_readsOne 194 = .ok (.imul, 1) := by decide +kernel
theorem dX12_readsOne_195 : decode cX12_readsOne 195 = .ok (.iconst 1, 1) := by decide +kernel
theorem dX12_readsOne_196 : decode cX12_readsOne 196 = .ok (.iadd, 1) := by decide +kernel
theorem dX12_readsOne_197 : decode cX12_readsOne 197 = .ok (.iaload, 1) := by decide +kernel
theorem dX12_readsOne_198 : decode cX12_readsOne 198 = .ok (.iadd, 1) := by decide +kernel
theorem dX12_readsOne_199 : decode cX12_readsOne 199 = .ok (.putfield 176, 3) := by decide +kernel
theorem dX12_readsOne_202 : decode cX12_readsOne 202 = .ok (.goto 138, 3) := by decide +kernel
theorem dX12_readsOne_205 : decode cX12_readsOne 205 = .ok (.aload_n 0, 1) := by decide +kernel
theorem dX12_readsOne_206 : decode cX12_readsOne 206 = .ok (.ldc 217, 2) := by decide +kernel
theorem dX12_readsOne_208 : decode cX12_readsOne 208 = .ok (.invokevirtual 219, 3) := by decide +kernel
theorem dX12_readsOne_211 : decode cX12_readsOne 211 = .ok (.aload_n 0, 1) := by decide +kernel
theorem dX12_readsOne_212 : decode cX12_readsOne 212 = .ok (.ldc 222, 2) := by decide +kernel
theorem dX12_readsOne_214 : decode cX12_readsOne 214 = .ok (.invokevirtual 203, 3) := by decide +kernel
theorem dX12_readsOne_217 : decode cX12_readsOne 217 = .ok (.aload_n 0, 1) := by decide +kernel
theorem dX12_readsOne_218 : decode cX12_readsOne 218 = .ok (.iconst 3, 1) := by decide +kernel
theorem dX12_readsOne_219 : decode cX12_readsOne 219 = .ok (.iconst 2, 1) := by decide +kernel
theorem dX12_readsOne_220 : decode cX12_readsOne 220 = .ok (.invokevirtual 207, 3) := by decide +kernel
theorem dX12_readsOne_223 : decode cX12_readsOne 223 = .ok (.goto 117, 3) := by decide +kernel
theorem dX12_readsOne_226 : decode cX12_readsOne 226 = .ok (.aload_n 0, 1) := by decide +kernel
theorem dX12_readsOne_227 : decode cX12_readsOne 227 = .ok (.ldc 224, 2) := by decide +kernel
theorem dX12_readsOne_229 : decode cX12_readsOne 229 = .ok (.invokevirtual 219, 3) := by decide +kernel
theorem dX12_readsOne_232 : decode cX12_readsOne 232 = .ok (.goto 108, 3) := by decide +kernel
theorem dX12_readsOne_235 : decode cX12_readsOne 235 = .ok (.aload_n 0, 1) := by decide +kernel
theorem dX12_readsOne_236 : decode cX12_readsOne 236 = .ok (.ldc 226, 2) := by decide +kernel
theorem dX12_readsOne_238 : decode cX12_readsOne 238 = .ok (.invokevirtual 203, 3) := by decide +kernel
theorem dX12_readsOne_241 : decode cX12_readsOne 241 = .ok (.aload_n 0, 1) := by decide +kernel
theorem dX12_readsOne_242 : decode cX12_readsOne 242 = .ok (.iconst 1, 1) := by decide +kernel
theorem dX12_readsOne_243 : decode cX12_readsOne 243 = .ok (.invokevirtual 228, 3) := by decide +kernel
theorem dX12_readsOne_246 : decode cX12_readsOne 246 = .ok (.aload_n 0, 1) := by decide +kernel
theorem dX12_readsOne_247 : decode cX12_readsOne 247 = .ok (.ldc 222, 2) := by decide +kernel
theorem dX12_readsOne_249 : decode cX12_readsOne 249 = .ok (.invokevirtual 203, 3) := by decide +kernel
theorem dX12_readsOne_252 : decode cX12_readsOne 252 = .ok (.aload_n 0, 1) := by decide +kernel
theorem dX12_readsOne_253 : decode cX12_readsOne 253 = .ok (.iconst 2, 1) := by decide +kernel
theorem dX12_readsOne_254 : decode cX12_readsOne 254 = .ok (.iconst 2, 1) := by decide +kernel
theorem dX12_readsOne_255 : decode cX12_readsOne 255 = .ok (.invokevirtual 207, 3) := by decide +kernel
theorem dX12_readsOne_258 : decode cX12_readsOne 258 = .ok (.goto 82, 3) := by decide +kernel
theorem dX12_readsOne_261 : decode cX12_readsOne 261 = .ok (.aload_n 0, 1) := by decide +kernel
theorem dX12_readsOne_262 : decode cX12_readsOne 262 = .ok (.ldc 231, 2) := by decide +kernel
theorem dX12_readsOne_264 : decode cX12_readsOne 264 = .ok (.invokevirtual 203, 3) := by decide +kernel
theorem dX12_readsOne_267 : decode cX12_readsOne 267 = .ok (.aload_n 0, 1) := by decide +kernel
theorem dX12_readsOne_268 : decode cX12_readsOne 268 = .ok (.iconst 1, 1) := by decide +kernel
theorem dX12_readsOne_269 : decode cX12_readsOne 269 = .ok (.invokevirtual 228, 3) := by decide +kernel
theorem dX12_readsOne_272 : decode cX12_readsOne 272 = .ok (.goto 68, 3) := by decide +kernel
theorem dX12_readsOne_275 : decode cX12_readsOne 275 = .ok (.aload_n 0, 1) := by decide +kernel
theorem dX12_readsOne_276 : decode cX12_readsOne 276 = .ok (.ldc 233, 2) := by decide +kernel
theorem dX12_readsOne_278 : decode cX12_readsOne 278 = .ok (.invokevirtual 203, 3) := by decide +kernel
theorem dX12_readsOne_281 : decode cX12_readsOne 281 = .ok (.aload_n 0, 1) := by decide +kernel
theorem dX12_readsOne_282 : decode cX12_readsOne 282 = .ok (.iconst 1, 1) := by decide +kernel
theorem dX12_readsOne_283 : decode cX12_readsOne 283 = .ok (.iconst 2, 1) := by decide +kernel
theorem dX12_readsOne_284 : decode cX12_readsOne 284 = .ok (.invokevirtual 207, 3) := by decide +kernel
theorem dX12_readsOne_287 : decode cX12_readsOne 287 = .ok (.aload_n 0, 1) := by decide +kernel
theorem dX12_readsOne_288 : decode cX12_readsOne 288 = .ok (.ldc 222, 2) := by decide +kernel
theorem dX12_readsOne_290 : decode cX12_readsOne 290 = .ok (.invokevirtual 203, 3) := by decide +kernel
theorem dX12_readsOne_293 : decode cX12_readsOne 293 = .ok (.aload_n 0, 1) := by decide +kernel
theorem dX12_readsOne_294 : decode cX12_readsOne 294 = .ok (.iconst 2, 1) := by decide +kernel
theorem dX12_readsOne_295 : decode cX12_readsOne 295 = .ok (.iconst 2, 1) := by decide +kernel
theorem dX12_readsOne_296 : decode cX12_readsOne 296 = .ok (.invokevirtual 207, 3) := by decide +kernel
theorem dX12_readsOne_299 : decode cX12_readsOne 299 = .ok (.goto 41, 3) := by decide +kernel
theorem dX12_readsOne_302 : decode cX12_readsOne 302 = .ok (.aload_n 0, 1) := by decide +kernel
theorem dX12_readsOne_303 : decode cX12_readsOne 303 = .ok (.ldc 235, 2) := by decide +kernel
theorem dX12_readsOne_305 : decode cX12_readsOne 305 = .ok (.invokevirtual 203, 3) := by decide +kernel
theorem dX12_readsOne_308 : decode cX12_readsOne 308 = .ok (.goto 32, 3) := by decide +kernel
theorem dX12_readsOne_311 : decode cX12_readsOne 311 = .ok (.aload_n 0, 1) := by decide +kernel
theorem dX12_readsOne_312 : decode cX12_readsOne 312 = .ok (.ldc 237, 2) := by decide +kernel
theorem dX12_readsOne_314 : decode cX12_readsOne 314 = .ok (.invokevirtual 203, 3) := by decide +kernel
theorem dX12_readsOne_317 : decode cX12_readsOne 317 = .ok (.aload_n 0, 1) := by decide +kernel
theorem dX12_readsOne_318 : decode cX12_readsOne 318 = .ok (.iconst 1, 1) := by decide +kernel
theorem dX12_readsOne_319 : decode cX12_readsOne 319 = .ok (.iconst 2, 1) := by decide +kernel
theorem dX12_readsOne_320 : decode cX12_readsOne 320 = .ok (.invokevirtual 207, 3) := by decide +kernel
theorem dX12_readsOne_323 : decode cX12_readsOne 323 = .ok (.goto 17, 3) := by decide +kernel
theorem dX12_readsOne_326 : decode cX12_readsOne 326 = .ok (.aload_n 0, 1) := by decide +kernel
theorem dX12_readsOne_327 : decode cX12_readsOne 327 = .ok (.ldc 239, 2) := by decide +kernel
theorem dX12_readsOne_329 : decode cX12_readsOne 329 = .ok (.invokevirtual 203, 3) := by decide +kernel
theorem dX12_readsOne_332 : decode cX12_readsOne 332 = .ok (.goto 8, 3) := by decide +kernel
theorem dX12_readsOne_335 : decode cX12_readsOne 335 = .ok (.aload_n 0, 1) := by decide +kernel
theorem dX12_readsOne_336 : decode cX12_readsOne 336 = .ok (.iconst 1, 1) := by decide +kernel
theorem dX12_readsOne_337 : decode cX12_readsOne 337 = .ok (.putfield 186, 3) := by decide +kernel
theorem dX12_readsOne_340 : decode cX12_readsOne 340 = .ok (.aload_n 0, 1) := by decide +kernel
theorem dX12_readsOne_341 : decode cX12_readsOne 341 = .ok (.dup, 1) := by decide +kernel
theorem dX12_readsOne_342 : decode cX12_readsOne 342 = .ok (.getfield 197, 3) := by decide +kernel
theorem dX12_readsOne_345 : decode cX12_readsOne 345 = .ok (.iconst 1, 1) := by decide +kernel
theorem dX12_readsOne_346 : decode cX12_readsOne 346 = .ok (.iadd, 1) := by decide +kernel
theorem dX12_readsOne_347 : decode cX12_readsOne 347 = .ok (.putfield 197, 3) := by decide +kernel
theorem dX12_readsOne_350 : decode cX12_readsOne 350 = .ok (.return_, 1) := by decide +kernel
def f_X12_depth (μ : mu_T) (a1 : Int) : Option (Int × mu_T) :=
  bd_ (f_X12_isUrn μ a1) (fun v2 => eq_ v2 0
      (some ((-11), μ))
      (bd_ (f_X12_measures μ (-11) 0) (fun μ15 => rd_ μ15 8 24 a1 (fun v23 => lt_ v23 99
      (rd_ μ15 8 24 a1 (fun v34 => some (v34, μ15)))
      (some ((-15), μ15))))))
set_option maxHeartbeats 4000000 in
set_option maxRecDepth 100000 in
theorem c_X12_depth {G : gp_} {ad : Nat → Nat} (μ : mu_T) (a1 : Int) (a : Int) (μr : mu_T) (h : f_X12_depth μ a1 = some (a, μr)) : mi_ yX12_depth cX12_depth 2 (some .int) ({ frames := 2, cells := 0, slots := 0, locals := 47 } : Room) G 9 ad (ceM G ad) [.ref (ad 0), .int (iI a1)] μ a μr := by
  refine mi_in (own := "UrnHeapModel") (lv := [(0, .ref (ad 0)), (1, .int (iI a1))]) (by decide) rfl rfl (Nat.le_of_ble_eq_true rfl) (fun X C E => ?_)
  unfold f_X12_depth at h
  refine xx_aload_n C 1 rfl 0 dX12_depth_0 rfl rfl ?_
  refine xx_iload_n C 2 rfl 1 dX12_depth_1 rfl rfl ?_
  refine xx_cVip (As := [.int (iI a1)]) (st := []) (o := 0) C 5 rfl (by decide) (ceM_0 _ _ _) rfl rfl ca_X12_isUrn cv_X12_isUrn w_1276 rfl ⟨Nat.le_of_ble_eq_true rfl, Nat.le_of_ble_eq_true rfl⟩ ⟨Nat.le_of_ble_eq_true rfl, Nat.le_of_ble_eq_true rfl⟩ (Nat.le_of_ble_eq_true rfl) dX12_depth_2 (fun v2 e9 => c_X12_isUrn _ _ v2 e9) h (fun v2 h => ?_) rfl
  refine xx_if_ne (tgt := 11) C 8 rfl dX12_depth_5 (by decide) h (fun h => ?_) (fun h => ?_)
  · refine xx_aload_n C 12 rfl 0 dX12_depth_11 rfl rfl ?_
    refine xx_bipush C 14 rfl dX12_depth_12 (by decide) ?_
    refine xx_iconst C 15 rfl dX12_depth_14 ?_
    refine xx_cVv (As := [.int (iI (-11)), .int (iI 0)]) (st := []) (o := 0) C 18 rfl (by decide) (ceM_0 _ _ _) rfl rfl ca_X12_measures cv_X12_measures w_1427 rfl ⟨Nat.le_of_ble_eq_true rfl, Nat.le_of_ble_eq_true rfl⟩ ⟨Nat.le_of_ble_eq_true rfl, Nat.le_of_ble_eq_true rfl⟩ (Nat.le_of_ble_eq_true rfl) dX12_depth_15 (fun μ15 e9 => c_X12_measures _ _ _ μ15 e9) h (fun μ15 h => ?_) rfl
    refine xx_aload_n C 19 rfl 0 dX12_depth_18 rfl rfl ?_
    refine xx_getr (fi := 9) C 22 rfl (by decide) (ceM_0 _ _ _) rfl in_X12 (by decide) rfl w_1188 dX12_depth_19 ?_
    refine xx_iload_n C 23 rfl 1 dX12_depth_22 rfl rfl ?_
    refine xx_iaload C 24 rfl (by decide) (fun _ => rfl) (by decide) dX12_depth_23 h (fun v23 h => ?_)
    refine xx_bipush C 26 rfl dX12_depth_24 (by decide) ?_
    refine xx_icmp_ge (tgt := 38) C 29 rfl dX12_depth_26 (by decide) h (fun h => ?_) (fun h => ?_)
    · refine xx_bipush C 40 rfl dX12_depth_38 (by decide) ?_
      exact xx_iret C E rfl ⟨Nat.le_of_ble_eq_true rfl, Nat.le_of_ble_eq_true rfl⟩ dX12_depth_40 h
    · refine xx_aload_n C 30 rfl 0 dX12_depth_29 rfl rfl ?_
      refine xx_getr (fi := 9) C 33 rfl (by decide) (ceM_0 _ _ _) rfl in_X12 (by decide) rfl w_1188 dX12_depth_30 ?_
      refine xx_iload_n C 34 rfl 1 dX12_depth_33 rfl rfl ?_
      refine xx_iaload C 35 rfl (by decide) (fun _ => rfl) (by decide) dX12_depth_34 h (fun v34 h => ?_)
      refine xx_goto C 40 dX12_depth_35 (by decide) ?_
      exact xx_iret C E rfl ⟨Nat.le_of_ble_eq_true rfl, Nat.le_of_ble_eq_true rfl⟩ dX12_depth_40 h
  · refine xx_bipush C 10 rfl dX12_depth_8 (by decide) ?_
    exact xx_iret C E rfl ⟨Nat.le_of_ble_eq_true rfl, Nat.le_of_ble_eq_true rfl⟩ dX12_depth_10 h

def f_X12_keepers_L35 (a1 : Int) : Nat → Int → Int → mu_T → Option (Int × mu_T)
  | 0, _, _, _ => none
  | fu35 + 1, x2_35, x3_35, μ35 => lt_ x3_35 6
      (bd_ (f_X12_measures μ35 x3_35 0) (fun μ44 => rd_ μ44 8 24 a1 (fun v53 => jn_ (φ := Int → Option (Int × mu_T)) (fun s0_66 => nm_ ((or_ x2_35 s0_66)) (fun n67 => nm_ (x3_35 + 1) (fun n68 => (f_X12_keepers_L35 a1 fu35) n67 n68 μ44)))
      (fun J66 => eq_ v53 99
      (J66 (sl_ 1 x3_35))
      (J66 0)))))
      (some (x2_35, μ35))
def f_X12_keepers (μ : mu_T) (a1 : Int) : Option (Int × mu_T) :=
  bd_ (f_X12_isUrn μ a1) (fun v2 => eq_ v2 0
      (some ((-11), μ))
      (bd_ (f_X12_measures μ (-11) 0) (fun μ15 => rd_ μ15 8 24 a1 (fun v23 => eq_ v23 99
      (some (0, μ15))
      (f_X12_keepers_L35 a1 20000 0 0 μ15)))))
set_option maxHeartbeats 4000000 in
set_option maxRecDepth 100000 in
theorem c_X12_keepers {G : gp_} {ad : Nat → Nat} (μ : mu_T) (a1 : Int) (a : Int) (μr : mu_T) (h : f_X12_keepers μ a1 = some (a, μr)) : mi_ yX12_keepers cX12_keepers 4 (some .int) ({ frames := 2, cells := 0, slots := 0, locals := 47 } : Room) G 9 ad (ceM G ad) [.ref (ad 0), .int (iI a1)] μ a μr := by
  refine mi_in (own := "UrnHeapModel") (lv := [(0, .ref (ad 0)), (1, .int (iI a1))]) (by decide) rfl rfl (Nat.le_of_ble_eq_true rfl) (fun X C E => ?_)
  unfold f_X12_keepers at h
  refine xx_aload_n C 1 rfl 0 dX12_keepers_0 rfl rfl ?_
  refine xx_iload_n C 2 rfl 1 dX12_keepers_1 rfl rfl ?_
  refine xx_cVip (As := [.int (iI a1)]) (st := []) (o := 0) C 5 rfl (by decide) (ceM_0 _ _ _) rfl rfl ca_X12_isUrn cv_X12_isUrn w_1276 rfl ⟨Nat.le_of_ble_eq_true rfl, Nat.le_of_ble_eq_true rfl⟩ ⟨Nat.le_of_ble_eq_true rfl, Nat.le_of_ble_eq_true rfl⟩ (Nat.le_of_ble_eq_true rfl) dX12_keepers_2 (fun v2 e9 => c_X12_isUrn _ _ v2 e9) h (fun v2 h => ?_) rfl
  refine xx_if_ne (tgt := 11) C 8 rfl dX12_keepers_5 (by decide) h (fun h => ?_) (fun h => ?_)
  · refine xx_aload_n C 12 rfl 0 dX12_keepers_11 rfl rfl ?_
    refine xx_bipush C 14 rfl dX12_keepers_12 (by decide) ?_
    refine xx_iconst C 15 rfl dX12_keepers_14 ?_
    refine xx_cVv (As := [.int (iI (-11)), .int (iI 0)]) (st := []) (o := 0) C 18 rfl (by decide) (ceM_0 _ _ _) rfl rfl ca_X12_measures cv_X12_measures w_1427 rfl ⟨Nat.le_of_ble_eq_true rfl, Nat.le_of_ble_eq_true rfl⟩ ⟨Nat.le_of_ble_eq_true rfl, Nat.le_of_ble_eq_true rfl⟩ (Nat.le_of_ble_eq_true rfl) dX12_keepers_15 (fun μ15 e9 => c_X12_measures _ _ _ μ15 e9) h (fun μ15 h => ?_) rfl
    refine xx_aload_n C 19 rfl 0 dX12_keepers_18 rfl rfl ?_
    refine xx_getr (fi := 9) C 22 rfl (by decide) (ceM_0 _ _ _) rfl in_X12 (by decide) rfl w_1188 dX12_keepers_19 ?_
    refine xx_iload_n C 23 rfl 1 dX12_keepers_22 rfl rfl ?_
    refine xx_iaload C 24 rfl (by decide) (fun _ => rfl) (by decide) dX12_keepers_23 h (fun v23 h => ?_)
    refine xx_bipush C 26 rfl dX12_keepers_24 (by decide) ?_
    refine xx_icmp_ne (tgt := 31) C 29 rfl dX12_keepers_26 (by decide) h (fun h => ?_) (fun h => ?_)
    · refine xx_iconst C 32 rfl dX12_keepers_31 ?_
      refine xx_istore_n (lv1 := [(2, .int (iI 0)), (0, .ref (ad 0)), (1, .int (iI a1))]) C 33 rfl (by decide) dX12_keepers_32 rfl rfl ?_
      refine xx_iconst C 34 rfl dX12_keepers_33 ?_
      refine xx_istore_n (lv1 := [(3, .int (iI 0)), (2, .int (iI 0)), (0, .ref (ad 0)), (1, .int (iI a1))]) C 35 rfl (by decide) dX12_keepers_34 rfl rfl ?_
      have L35 : ∀ (fu35 : Nat) (x2_35 : Int) (x3_35 : Int) (μ35 : mu_T), f_X12_keepers_L35 a1 fu35 x2_35 x3_35 μ35 = some (a, μr) → wx_ G X 9 ad (ceM G ad) μ35 0 0 35 [(0, .ref (ad 0)), (1, .int (iI a1)), (2, .int (iI x2_35)), (3, .int (iI x3_35))] [] := by
        intro fu35
        induction fu35 with
        | zero => intro x2_35 x3_35 μ35 h; exact nn_ h
        | succ fu35 K35 =>
          intro x2_35 x3_35 μ35 h
          rw [f_X12_keepers_L35] at h
          generalize f_X12_keepers_L35 a1 fu35 = R35 at K35 h
          refine xx_iload_n C 36 rfl 3 dX12_keepers_35 rfl rfl ?_
          refine xx_bipush C 38 rfl dX12_keepers_36 (by decide) ?_
          refine xx_icmp_ge (tgt := 74) C 41 rfl dX12_keepers_38 (by decide) h (fun h => ?_) (fun h => ?_)
          · refine xx_iload_n C 75 rfl 2 dX12_keepers_74 rfl rfl ?_
            exact xx_iret C E rfl ⟨Nat.le_of_ble_eq_true rfl, Nat.le_of_ble_eq_true rfl⟩ dX12_keepers_75 h
          · refine xx_aload_n C 42 rfl 0 dX12_keepers_41 rfl rfl ?_
            refine xx_iload_n C 43 rfl 3 dX12_keepers_42 rfl rfl ?_
            refine xx_iconst C 44 rfl dX12_keepers_43 ?_
            refine xx_cVv (As := [.int (iI x3_35), .int (iI 0)]) (st := []) (o := 0) C 47 rfl (by decide) (ceM_0 _ _ _) rfl rfl ca_X12_measures cv_X12_measures w_1427 rfl ⟨Nat.le_of_ble_eq_true rfl, Nat.le_of_ble_eq_true rfl⟩ ⟨Nat.le_of_ble_eq_true rfl, Nat.le_of_ble_eq_true rfl⟩ (Nat.le_of_ble_eq_true rfl) dX12_keepers_44 (fun μ44 e9 => c_X12_measures _ _ _ μ44 e9) h (fun μ44 h => ?_) rfl
            refine xx_iload_n C 48 rfl 2 dX12_keepers_47 rfl rfl ?_
            refine xx_aload_n C 49 rfl 0 dX12_keepers_48 rfl rfl ?_
            refine xx_getr (fi := 9) C 52 rfl (by decide) (ceM_0 _ _ _) rfl in_X12 (by decide) rfl w_1188 dX12_keepers_49 ?_
            refine xx_iload_n C 53 rfl 1 dX12_keepers_52 rfl rfl ?_
            refine xx_iaload C 54 rfl (by decide) (fun _ => rfl) (by decide) dX12_keepers_53 h (fun v53 h => ?_)
            refine xx_bipush C 56 rfl dX12_keepers_54 (by decide) ?_
            refine jn_r (fun J => ∀ (s0_66 : Int), J s0_66 = some (a, μr) → wx_ G X 9 ad (ceM G ad) μ44 0 0 66 [(0, .ref (ad 0)), (1, .int (iI a1)), (3, .int (iI x3_35))] [.int (iI s0_66), .int (iI x2_35)]) h (fun s0_66 h => ?_) (fun J66 K66 h => ?_)
            · refine xx_ior C 67 rfl dX12_keepers_66 ?_
              refine xx_nm C h (fun n67 h => ?_)
              refine xx_istore_n (lv1 := [(2, .int (iI n67)), (0, .ref (ad 0)), (1, .int (iI a1)), (3, .int (iI x3_35))]) C 68 rfl (by decide) dX12_keepers_67 rfl rfl ?_
              refine xx_iincn C 71 rfl 3 (by decide) dX12_keepers_68 rfl h (fun n68 h => ?_)
              refine xx_lv (lv1 := [(3, .int (iI n68)), (2, .int (iI n67)), (0, .ref (ad 0)), (1, .int (iI a1))]) rfl ?_
              refine xx_goto C 35 dX12_keepers_71 (by decide) ?_
              refine xx_sub [2, 3, 1, 0] rfl ?_
              exact K35 n67 n68 μ44 h
            · refine xx_icmp_ne (tgt := 65) C 59 rfl dX12_keepers_56 (by decide) h (fun h => ?_) (fun h => ?_)
              · refine xx_iconst C 66 rfl dX12_keepers_65 ?_
                refine xx_sub [0, 1, 3] rfl ?_
                exact K66 0 h
              · refine xx_iconst C 60 rfl dX12_keepers_59 ?_
                refine xx_iload_n C 61 rfl 3 dX12_keepers_60 rfl rfl ?_
                refine xx_ishl C 62 rfl dX12_keepers_61 ?_
                refine xx_goto C 66 dX12_keepers_62 (by decide) ?_
                refine xx_sub [0, 1, 3] rfl ?_
                exact K66 (sl_ 1 x3_35) h
      refine xx_sub [2, 3, 1, 0] rfl ?_
      exact L35 _ _ _ _ h
    · refine xx_iconst C 30 rfl dX12_keepers_29 ?_
      exact xx_iret C E rfl ⟨Nat.le_of_ble_eq_true rfl, Nat.le_of_ble_eq_true rfl⟩ dX12_keepers_30 h
  · refine xx_bipush C 10 rfl dX12_keepers_8 (by decide) ?_
    exact xx_iret C E rfl ⟨Nat.le_of_ble_eq_true rfl, Nat.le_of_ble_eq_true rfl⟩ dX12_keepers_10 h

def f_X12_ring_L80 (J126 : mu_T → Option (Int × mu_T)) (x3_71 : Int) : Nat → Int → mu_T → Option (Int × mu_T)
  | 0, _, _ => none
  | fu80 + 1, x4_80, μ80 => lt_ x4_80 4
      (rd_ μ80 8 24 x3_71 (fun v91 => jn_ (φ := mu_T → Option (Int × mu_T)) (fun μ120 => nm_ (x4_80 + 1) (fun n120 => (f_X12_ring_L80 J126 x3_71 fu80) n120 μ120))
      (fun J120 => lt_ v91 99
      (bd_ (f_X12_at μ80 x3_71 x4_80) (fun v105 => rd_ μ80 1 293 v105 (fun v108 => rd_ μ80 8 24 x3_71 (fun v114 => bd_ (f_X12_nears μ80 v108 (v114 + 1)) (fun μ117 => J120 μ117)))))
      (J120 μ80))))
      (J126 μ80)
def f_X12_ring_L71 (J132 : mu_T → Option (Int × mu_T)) : Nat → Int → mu_T → Option (Int × mu_T)
  | 0, _, _ => none
  | fu71 + 1, x3_71, μ71 => lt_ x3_71 24
      (jn_ (φ := mu_T → Option (Int × mu_T)) (fun μ126 => nm_ (x3_71 + 1) (fun n126 => (f_X12_ring_L71 J132 fu71) n126 μ126))
      (fun J126 => f_X12_ring_L80 J126 x3_71 20000 0 μ71))
      (J132 μ71)
def f_X12_ring_L63 (J138 : mu_T → Option (Int × mu_T)) : Nat → Int → mu_T → Option (Int × mu_T)
  | 0, _, _ => none
  | fu63 + 1, x2_63, μ63 => lt_ x2_63 24
      (jn_ (φ := mu_T → Option (Int × mu_T)) (fun μ132 => nm_ (x2_63 + 1) (fun n132 => (f_X12_ring_L63 J138 fu63) n132 μ132))
      (fun J132 => f_X12_ring_L71 J132 20000 0 μ63))
      (J138 μ63)
def f_X12_ring_L35 (J61 : mu_T → Option (Int × mu_T)) (a1 : Int) : Nat → Int → mu_T → Option (Int × mu_T)
  | 0, _, _ => none
  | fu35 + 1, x2_35, μ35 => lt_ x2_35 4
      (bd_ (f_X12_at μ35 a1 x2_35) (fun v47 => rd_ μ35 1 293 v47 (fun v50 => bd_ (f_X12_nears μ35 v50 1) (fun μ52 => nm_ (x2_35 + 1) (fun n55 => (f_X12_ring_L35 J61 a1 fu35) n55 μ52)))))
      (J61 μ35)
def f_X12_ring_L13 (J33 : mu_T → Option (Int × mu_T)) : Nat → Int → mu_T → Option (Int × mu_T)
  | 0, _, _ => none
  | fu13 + 1, x2_13, μ13 => lt_ x2_13 24
      (wr_ μ13 8 24 x2_13 99 (fun μ26 => nm_ (x2_13 + 1) (fun n27 => (f_X12_ring_L13 J33 fu13) n27 μ26)))
      (J33 μ13)
def f_X12_ring (μ : mu_T) (a1 : Int) : Option (Int × mu_T) :=
  bd_ (f_X12_isUrn μ a1) (fun v2 => eq_ v2 0
      (some ((-11), μ))
      (jn_ (φ := mu_T → Option (Int × mu_T)) (fun μ33 => jn_ (φ := mu_T → Option (Int × mu_T)) (fun μ61 => jn_ (φ := mu_T → Option (Int × mu_T)) (fun μ138 => rd_ μ138 8 24 a1 (fun v143 => lt_ v143 99
      (rd_ μ138 8 24 a1 (fun v154 => some (v154, μ138)))
      (some ((-15), μ138))))
      (fun J138 => f_X12_ring_L63 J138 20000 0 μ61))
      (fun J61 => f_X12_ring_L35 J61 a1 20000 0 μ33))
      (fun J33 => f_X12_ring_L13 J33 20000 0 μ)))
set_option maxHeartbeats 4000000 in
set_option maxRecDepth 100000 in
theorem c_X12_ring {G : gp_} {ad : Nat → Nat} (μ : mu_T) (a1 : Int) (a : Int) (μr : mu_T) (h : f_X12_ring μ a1 = some (a, μr)) : mi_ yX12_ring cX12_ring 5 (some .int) ({ frames := 2, cells := 0, slots := 0, locals := 43 } : Room) G 9 ad (ceM G ad) [.ref (ad 0), .int (iI a1)] μ a μr := by
  refine mi_in (own := "UrnHeapModel") (lv := [(0, .ref (ad 0)), (1, .int (iI a1))]) (by decide) rfl rfl (Nat.le_of_ble_eq_true rfl) (fun X C E => ?_)
  unfold f_X12_ring at h
  refine xx_aload_n C 1 rfl 0 dX12_ring_0 rfl rfl ?_
  refine xx_iload_n C 2 rfl 1 dX12_ring_1 rfl rfl ?_
  refine xx_cVip (As := [.int (iI a1)]) (st := []) (o := 0) C 5 rfl (by decide) (ceM_0 _ _ _) rfl rfl ca_X12_isUrn cv_X12_isUrn w_1276 rfl ⟨Nat.le_of_ble_eq_true rfl, Nat.le_of_ble_eq_true rfl⟩ ⟨Nat.le_of_ble_eq_true rfl, Nat.le_of_ble_eq_true rfl⟩ (Nat.le_of_ble_eq_true rfl) dX12_ring_2 (fun v2 e9 => c_X12_isUrn _ _ v2 e9) h (fun v2 h => ?_) rfl
  refine xx_if_ne (tgt := 11) C 8 rfl dX12_ring_5 (by decide) h (fun h => ?_) (fun h => ?_)
  · refine xx_iconst C 12 rfl dX12_ring_11 ?_
    refine xx_istore_n (lv1 := [(2, .int (iI 0)), (0, .ref (ad 0)), (1, .int (iI a1))]) C 13 rfl (by decide) dX12_ring_12 rfl rfl ?_
    refine jn_r (fun J => ∀ (μ33 : mu_T), J μ33 = some (a, μr) → wx_ G X 9 ad (ceM G ad) μ33 0 0 33 [(0, .ref (ad 0)), (1, .int (iI a1))] []) h (fun μ33 h => ?_) (fun J33 K33 h => ?_)
    · refine xx_iconst C 34 rfl dX12_ring_33 ?_
      refine xx_istore_n (lv1 := [(2, .int (iI 0)), (0, .ref (ad 0)), (1, .int (iI a1))]) C 35 rfl (by decide) dX12_ring_34 rfl rfl ?_
      refine jn_r (fun J => ∀ (μ61 : mu_T), J μ61 = some (a, μr) → wx_ G X 9 ad (ceM G ad) μ61 0 0 61 [(0, .ref (ad 0)), (1, .int (iI a1))] []) h (fun μ61 h => ?_) (fun J61 K61 h => ?_)
      · refine xx_iconst C 62 rfl dX12_ring_61 ?_
        refine xx_istore_n (lv1 := [(2, .int (iI 0)), (0, .ref (ad 0)), (1, .int (iI a1))]) C 63 rfl (by decide) dX12_ring_62 rfl rfl ?_
        refine jn_r (fun J => ∀ (μ138 : mu_T), J μ138 = some (a, μr) → wx_ G X 9 ad (ceM G ad) μ138 0 0 138 [(0, .ref (ad 0)), (1, .int (iI a1))] []) h (fun μ138 h => ?_) (fun J138 K138 h => ?_)
        · refine xx_aload_n C 139 rfl 0 dX12_ring_138 rfl rfl ?_
          refine xx_getr (fi := 9) C 142 rfl (by decide) (ceM_0 _ _ _) rfl in_X12 (by decide) rfl w_1188 dX12_ring_139 ?_
          refine xx_iload_n C 143 rfl 1 dX12_ring_142 rfl rfl ?_
          refine xx_iaload C 144 rfl (by decide) (fun _ => rfl) (by decide) dX12_ring_143 h (fun v143 h => ?_)
          refine xx_bipush C 146 rfl dX12_ring_144 (by decide) ?_
          refine xx_icmp_ge (tgt := 158) C 149 rfl dX12_ring_146 (by decide) h (fun h => ?_) (fun h => ?_)
          · refine xx_bipush C 160 rfl dX12_ring_158 (by decide) ?_
            exact xx_iret C E rfl ⟨Nat.le_of_ble_eq_true rfl, Nat.le_of_ble_eq_true rfl⟩ dX12_ring_160 h
          · refine xx_aload_n C 150 rfl 0 dX12_ring_149 rfl rfl ?_
            refine xx_getr (fi := 9) C 153 rfl (by decide) (ceM_0 _ _ _) rfl in_X12 (by decide) rfl w_1188 dX12_ring_150 ?_
            refine xx_iload_n C 154 rfl 1 dX12_ring_153 rfl rfl ?_
            refine xx_iaload C 155 rfl (by decide) (fun _ => rfl) (by decide) dX12_ring_154 h (fun v154 h => ?_)
            refine xx_goto C 160 dX12_ring_155 (by decide) ?_
            exact xx_iret C E rfl ⟨Nat.le_of_ble_eq_true rfl, Nat.le_of_ble_eq_true rfl⟩ dX12_ring_160 h
        · have L63 : ∀ (fu63 : Nat) (x2_63 : Int) (μ63 : mu_T), f_X12_ring_L63 J138 fu63 x2_63 μ63 = some (a, μr) → wx_ G X 9 ad (ceM G ad) μ63 0 0 63 [(0, .ref (ad 0)), (1, .int (iI a1)), (2, .int (iI x2_63))] [] := by
            intro fu63
            induction fu63 with
            | zero => intro x2_63 μ63 h; exact nn_ h
            | succ fu63 K63 =>
              intro x2_63 μ63 h
              rw [f_X12_ring_L63] at h
              generalize f_X12_ring_L63 J138 fu63 = R63 at K63 h
              refine xx_iload_n C 64 rfl 2 dX12_ring_63 rfl rfl ?_
              refine xx_bipush C 66 rfl dX12_ring_64 (by decide) ?_
              refine xx_icmp_ge (tgt := 138) C 69 rfl dX12_ring_66 (by decide) h (fun h => ?_) (fun h => ?_)
              · refine xx_sub [0, 1] rfl ?_
                exact K138 μ63 h
              · refine xx_iconst C 70 rfl dX12_ring_69 ?_
                refine xx_istore_n (lv1 := [(3, .int (iI 0)), (0, .ref (ad 0)), (1, .int (iI a1)), (2, .int (iI x2_63))]) C 71 rfl (by decide) dX12_ring_70 rfl rfl ?_
                refine jn_r (fun J => ∀ (μ132 : mu_T), J μ132 = some (a, μr) → wx_ G X 9 ad (ceM G ad) μ132 0 0 132 [(0, .ref (ad 0)), (1, .int (iI a1)), (2, .int (iI x2_63))] []) h (fun μ132 h => ?_) (fun J132 K132 h => ?_)
                · refine xx_iincn C 135 rfl 2 (by decide) dX12_ring_132 rfl h (fun n132 h => ?_)
                  refine xx_lv (lv1 := [(2, .int (iI n132)), (0, .ref (ad 0)), (1, .int (iI a1))]) rfl ?_
                  refine xx_goto C 63 dX12_ring_135 (by decide) ?_
                  refine xx_sub [1, 2, 0] rfl ?_
                  exact K63 n132 μ132 h
                · have L71 : ∀ (fu71 : Nat) (x3_71 : Int) (μ71 : mu_T), f_X12_ring_L71 J132 fu71 x3_71 μ71 = some (a, μr) → wx_ G X 9 ad (ceM G ad) μ71 0 0 71 [(0, .ref (ad 0)), (1, .int (iI a1)), (2, .int (iI x2_63)), (3, .int (iI x3_71))] [] := by
                    intro fu71
                    induction fu71 with
                    | zero => intro x3_71 μ71 h; exact nn_ h
                    | succ fu71 K71 =>
                      intro x3_71 μ71 h
                      rw [f_X12_ring_L71] at h
                      generalize f_X12_ring_L71 J132 fu71 = R71 at K71 h
                      refine xx_iload_n C 72 rfl 3 dX12_ring_71 rfl rfl ?_
                      refine xx_bipush C 74 rfl dX12_ring_72 (by decide) ?_
                      refine xx_icmp_ge (tgt := 132) C 77 rfl dX12_ring_74 (by decide) h (fun h => ?_) (fun h => ?_)
                      · refine xx_sub [0, 1, 2] rfl ?_
                        exact K132 μ71 h
                      · refine xx_iconst C 78 rfl dX12_ring_77 ?_
                        refine xx_istore (lv1 := [(4, .int (iI 0)), (0, .ref (ad 0)), (1, .int (iI a1)), (2, .int (iI x2_63)), (3, .int (iI x3_71))]) C 80 rfl (by decide) dX12_ring_78 rfl ?_
                        refine jn_r (fun J => ∀ (μ126 : mu_T), J μ126 = some (a, μr) → wx_ G X 9 ad (ceM G ad) μ126 0 0 126 [(0, .ref (ad 0)), (1, .int (iI a1)), (2, .int (iI x2_63)), (3, .int (iI x3_71))] []) h (fun μ126 h => ?_) (fun J126 K126 h => ?_)
                        · refine xx_iincn C 129 rfl 3 (by decide) dX12_ring_126 rfl h (fun n126 h => ?_)
                          refine xx_lv (lv1 := [(3, .int (iI n126)), (0, .ref (ad 0)), (1, .int (iI a1)), (2, .int (iI x2_63))]) rfl ?_
                          refine xx_goto C 71 dX12_ring_129 (by decide) ?_
                          refine xx_sub [1, 2, 3, 0] rfl ?_
                          exact K71 n126 μ126 h
                        · have L80 : ∀ (fu80 : Nat) (x4_80 : Int) (μ80 : mu_T), f_X12_ring_L80 J126 x3_71 fu80 x4_80 μ80 = some (a, μr) → wx_ G X 9 ad (ceM G ad) μ80 0 0 80 [(0, .ref (ad 0)), (1, .int (iI a1)), (2, .int (iI x2_63)), (3, .int (iI x3_71)), (4, .int (iI x4_80))] [] := by
                            intro fu80
                            induction fu80 with
                            | zero => intro x4_80 μ80 h; exact nn_ h
                            | succ fu80 K80 =>
                              intro x4_80 μ80 h
                              rw [f_X12_ring_L80] at h
                              generalize f_X12_ring_L80 J126 x3_71 fu80 = R80 at K80 h
                              refine xx_iload C 82 rfl 4 dX12_ring_80 rfl ?_
                              refine xx_iconst C 83 rfl dX12_ring_82 ?_
                              refine xx_icmp_ge (tgt := 126) C 86 rfl dX12_ring_83 (by decide) h (fun h => ?_) (fun h => ?_)
                              · refine xx_sub [0, 1, 2, 3] rfl ?_
                                exact K126 μ80 h
                              · refine xx_aload_n C 87 rfl 0 dX12_ring_86 rfl rfl ?_
                                refine xx_getr (fi := 9) C 90 rfl (by decide) (ceM_0 _ _ _) rfl in_X12 (by decide) rfl w_1188 dX12_ring_87 ?_
                                refine xx_iload_n C 91 rfl 3 dX12_ring_90 rfl rfl ?_
                                refine xx_iaload C 92 rfl (by decide) (fun _ => rfl) (by decide) dX12_ring_91 h (fun v91 h => ?_)
                                refine xx_bipush C 94 rfl dX12_ring_92 (by decide) ?_
                                refine jn_r (fun J => ∀ (μ120 : mu_T), J μ120 = some (a, μr) → wx_ G X 9 ad (ceM G ad) μ120 0 0 120 [(0, .ref (ad 0)), (1, .int (iI a1)), (2, .int (iI x2_63)), (3, .int (iI x3_71)), (4, .int (iI x4_80))] []) h (fun μ120 h => ?_) (fun J120 K120 h => ?_)
                                · refine xx_iincn C 123 rfl 4 (by decide) dX12_ring_120 rfl h (fun n120 h => ?_)
                                  refine xx_lv (lv1 := [(4, .int (iI n120)), (0, .ref (ad 0)), (1, .int (iI a1)), (2, .int (iI x2_63)), (3, .int (iI x3_71))]) rfl ?_
                                  refine xx_goto C 80 dX12_ring_123 (by decide) ?_
                                  refine xx_sub [1, 2, 3, 4, 0] rfl ?_
                                  exact K80 n120 μ120 h
                                · refine xx_icmp_ge (tgt := 120) C 97 rfl dX12_ring_94 (by decide) h (fun h => ?_) (fun h => ?_)
                                  · exact K120 μ80 h
                                  · refine xx_aload_n C 98 rfl 0 dX12_ring_97 rfl rfl ?_
                                    refine xx_aload_n C 99 rfl 0 dX12_ring_98 rfl rfl ?_
                                    refine xx_getr (fi := 0) C 102 rfl (by decide) (ceM_0 _ _ _) rfl in_X12 (by decide) rfl w_1179 dX12_ring_99 ?_
                                    refine xx_iload_n C 103 rfl 3 dX12_ring_102 rfl rfl ?_
                                    refine xx_iload C 105 rfl 4 dX12_ring_103 rfl ?_
                                    refine xx_cSip (As := [.int (iI x3_71), .int (iI x4_80)]) (st := [.ref (ad 1), .ref (ad 0)]) C 108 rfl  ca_X12_at cs_X12_at w_1176 rfl ⟨Nat.le_of_ble_eq_true rfl, Nat.le_of_ble_eq_true rfl⟩ ⟨Nat.le_of_ble_eq_true rfl, Nat.le_of_ble_eq_true rfl⟩ (Nat.le_of_ble_eq_true rfl) dX12_ring_105 (fun v105 e9 => c_X12_at _ _ _ v105 e9) h (fun v105 h => ?_) rfl
                                    refine xx_iaload C 109 rfl (by decide) (fun _ => rfl) (by decide) dX12_ring_108 h (fun v108 h => ?_)
                                    refine xx_aload_n C 110 rfl 0 dX12_ring_109 rfl rfl ?_
                                    refine xx_getr (fi := 9) C 113 rfl (by decide) (ceM_0 _ _ _) rfl in_X12 (by decide) rfl w_1188 dX12_ring_110 ?_
                                    refine xx_iload_n C 114 rfl 3 dX12_ring_113 rfl rfl ?_
                                    refine xx_iaload C 115 rfl (by decide) (fun _ => rfl) (by decide) dX12_ring_114 h (fun v114 h => ?_)
                                    refine xx_iconst C 116 rfl dX12_ring_115 ?_
                                    refine xx_iadd C 117 rfl dX12_ring_116 ?_
                                    refine xx_cVv (As := [.int (iI v108), .int (iI (v114 + 1))]) (st := []) (o := 0) C 120 rfl (by decide) (ceM_0 _ _ _) rfl rfl ca_X12_nears cv_X12_nears w_1431 rfl ⟨Nat.le_of_ble_eq_true rfl, Nat.le_of_ble_eq_true rfl⟩ ⟨Nat.le_of_ble_eq_true rfl, Nat.le_of_ble_eq_true rfl⟩ (Nat.le_of_ble_eq_true rfl) dX12_ring_117 (fun μ117 e9 => c_X12_nears _ _ _ μ117 e9) h (fun μ117 h => ?_) rfl
                                    exact K120 μ117 h
                          refine xx_sub [1, 2, 3, 4, 0] rfl ?_
                          exact L80 _ _ _ h
                  refine xx_sub [1, 2, 3, 0] rfl ?_
                  exact L71 _ _ _ h
          refine xx_sub [1, 2, 0] rfl ?_
          exact L63 _ _ _ h
      · have L35 : ∀ (fu35 : Nat) (x2_35 : Int) (μ35 : mu_T), f_X12_ring_L35 J61 a1 fu35 x2_35 μ35 = some (a, μr) → wx_ G X 9 ad (ceM G ad) μ35 0 0 35 [(0, .ref (ad 0)), (1, .int (iI a1)), (2, .int (iI x2_35))] [] := by
          intro fu35
          induction fu35 with
          | zero => intro x2_35 μ35 h; exact nn_ h
          | succ fu35 K35 =>
            intro x2_35 μ35 h
            rw [f_X12_ring_L35] at h
            generalize f_X12_ring_L35 J61 a1 fu35 = R35 at K35 h
            refine xx_iload_n C 36 rfl 2 dX12_ring_35 rfl rfl ?_
            refine xx_iconst C 37 rfl dX12_ring_36 ?_
            refine xx_icmp_ge (tgt := 61) C 40 rfl dX12_ring_37 (by decide) h (fun h => ?_) (fun h => ?_)
            · refine xx_sub [0, 1] rfl ?_
              exact K61 μ35 h
            · refine xx_aload_n C 41 rfl 0 dX12_ring_40 rfl rfl ?_
              refine xx_aload_n C 42 rfl 0 dX12_ring_41 rfl rfl ?_
              refine xx_getr (fi := 0) C 45 rfl (by decide) (ceM_0 _ _ _) rfl in_X12 (by decide) rfl w_1179 dX12_ring_42 ?_
              refine xx_iload_n C 46 rfl 1 dX12_ring_45 rfl rfl ?_
              refine xx_iload_n C 47 rfl 2 dX12_ring_46 rfl rfl ?_
              refine xx_cSip (As := [.int (iI a1), .int (iI x2_35)]) (st := [.ref (ad 1), .ref (ad 0)]) C 50 rfl  ca_X12_at cs_X12_at w_1176 rfl ⟨Nat.le_of_ble_eq_true rfl, Nat.le_of_ble_eq_true rfl⟩ ⟨Nat.le_of_ble_eq_true rfl, Nat.le_of_ble_eq_true rfl⟩ (Nat.le_of_ble_eq_true rfl) dX12_ring_47 (fun v47 e9 => c_X12_at _ _ _ v47 e9) h (fun v47 h => ?_) rfl
              refine xx_iaload C 51 rfl (by decide) (fun _ => rfl) (by decide) dX12_ring_50 h (fun v50 h => ?_)
              refine xx_iconst C 52 rfl dX12_ring_51 ?_
              refine xx_cVv (As := [.int (iI v50), .int (iI 1)]) (st := []) (o := 0) C 55 rfl (by decide) (ceM_0 _ _ _) rfl rfl ca_X12_nears cv_X12_nears w_1431 rfl ⟨Nat.le_of_ble_eq_true rfl, Nat.le_of_ble_eq_true rfl⟩ ⟨Nat.le_of_ble_eq_true rfl, Nat.le_of_ble_eq_true rfl⟩ (Nat.le_of_ble_eq_true rfl) dX12_ring_52 (fun μ52 e9 => c_X12_nears _ _ _ μ52 e9) h (fun μ52 h => ?_) rfl
              refine xx_iincn C 58 rfl 2 (by decide) dX12_ring_55 rfl h (fun n55 h => ?_)
              refine xx_lv (lv1 := [(2, .int (iI n55)), (0, .ref (ad 0)), (1, .int (iI a1))]) rfl ?_
              refine xx_goto C 35 dX12_ring_58 (by decide) ?_
              refine xx_sub [1, 2, 0] rfl ?_
              exact K35 n55 μ52 h
        refine xx_sub [1, 2, 0] rfl ?_
        exact L35 _ _ _ h
    · have L13 : ∀ (fu13 : Nat) (x2_13 : Int) (μ13 : mu_T), f_X12_ring_L13 J33 fu13 x2_13 μ13 = some (a, μr) → wx_ G X 9 ad (ceM G ad) μ13 0 0 13 [(0, .ref (ad 0)), (1, .int (iI a1)), (2, .int (iI x2_13))] [] := by
        intro fu13
        induction fu13 with
        | zero => intro x2_13 μ13 h; exact nn_ h
        | succ fu13 K13 =>
          intro x2_13 μ13 h
          rw [f_X12_ring_L13] at h
          generalize f_X12_ring_L13 J33 fu13 = R13 at K13 h
          refine xx_iload_n C 14 rfl 2 dX12_ring_13 rfl rfl ?_
          refine xx_bipush C 16 rfl dX12_ring_14 (by decide) ?_
          refine xx_icmp_ge (tgt := 33) C 19 rfl dX12_ring_16 (by decide) h (fun h => ?_) (fun h => ?_)
          · refine xx_sub [0, 1] rfl ?_
            exact K33 μ13 h
          · refine xx_aload_n C 20 rfl 0 dX12_ring_19 rfl rfl ?_
            refine xx_getr (fi := 9) C 23 rfl (by decide) (ceM_0 _ _ _) rfl in_X12 (by decide) rfl w_1188 dX12_ring_20 ?_
            refine xx_iload_n C 24 rfl 2 dX12_ring_23 rfl rfl ?_
            refine xx_bipush C 26 rfl dX12_ring_24 (by decide) ?_
            refine xx_iastore C 27 rfl (by decide) (fun _ => rfl) (by decide) dX12_ring_26 h (fun μ26 h => ?_)
            refine xx_iincn C 30 rfl 2 (by decide) dX12_ring_27 rfl h (fun n27 h => ?_)
            refine xx_lv (lv1 := [(2, .int (iI n27)), (0, .ref (ad 0)), (1, .int (iI a1))]) rfl ?_
            refine xx_goto C 13 dX12_ring_30 (by decide) ?_
            refine xx_sub [1, 2, 0] rfl ?_
            exact K13 n27 μ26 h
      refine xx_sub [1, 2, 0] rfl ?_
      exact L13 _ _ _ h
  · refine xx_bipush C 10 rfl dX12_ring_8 (by decide) ?_
    exact xx_iret C E rfl ⟨Nat.le_of_ble_eq_true rfl, Nat.le_of_ble_eq_true rfl⟩ dX12_ring_10 h

def f_X12_urns_L4 (μ : mu_T) : Nat → Int → Int → Option Int
  | 0, _, _ => none
  | fu4 + 1, x1_4, x2_4 => lt_ x2_4 24
      (rd_ μ 1 293 (17 + x2_4) (fun v19 => nm_ ((or_ x1_4 (sl_ v19 x2_4))) (fun n23 => nm_ (x2_4 + 1) (fun n24 => (f_X12_urns_L4 μ fu4) n23 n24))))
      (some x1_4)
def f_X12_urns (μ : mu_T)  : Option Int :=
  f_X12_urns_L4 μ 20000 0 0
set_option maxHeartbeats 4000000 in
set_option maxRecDepth 100000 in
theorem c_X12_urns {G : gp_} {ad : Nat → Nat} (μ : mu_T)  (a : Int) (h : f_X12_urns μ  = some a) : mi_ yX12_urns cX12_urns 3 (some .int) ({ frames := 0, cells := 0, slots := 0, locals := 0 } : Room) G 9 ad (ceM G ad) [.ref (ad 0)] μ a μ := by
  refine mi_in (own := "UrnHeapModel") (lv := [(0, .ref (ad 0))]) (by decide) rfl rfl (Nat.le_of_ble_eq_true rfl) (fun X C E => ?_)
  unfold f_X12_urns at h
  refine xx_iconst C 1 rfl dX12_urns_0 ?_
  refine xx_istore_n (lv1 := [(1, .int (iI 0)), (0, .ref (ad 0))]) C 2 rfl (by decide) dX12_urns_1 rfl rfl ?_
  refine xx_iconst C 3 rfl dX12_urns_2 ?_
  refine xx_istore_n (lv1 := [(2, .int (iI 0)), (1, .int (iI 0)), (0, .ref (ad 0))]) C 4 rfl (by decide) dX12_urns_3 rfl rfl ?_
  have L4 : ∀ (fu4 : Nat) (x1_4 : Int) (x2_4 : Int), f_X12_urns_L4 μ fu4 x1_4 x2_4 = some a → wx_ G X 9 ad (ceM G ad) μ 0 0 4 [(0, .ref (ad 0)), (1, .int (iI x1_4)), (2, .int (iI x2_4))] [] := by
    intro fu4
    induction fu4 with
    | zero => intro x1_4 x2_4 h; exact nn_ h
    | succ fu4 K4 =>
      intro x1_4 x2_4 h
      rw [f_X12_urns_L4] at h
      generalize f_X12_urns_L4 μ fu4 = R4 at K4 h
      refine xx_iload_n C 5 rfl 2 dX12_urns_4 rfl rfl ?_
      refine xx_bipush C 7 rfl dX12_urns_5 (by decide) ?_
      refine xx_icmp_ge (tgt := 30) C 10 rfl dX12_urns_7 (by decide) h (fun h => ?_) (fun h => ?_)
      · refine xx_iload_n C 31 rfl 1 dX12_urns_30 rfl rfl ?_
        exact xx_iretp C E rfl ⟨Nat.le_of_ble_eq_true rfl, Nat.le_of_ble_eq_true rfl⟩ dX12_urns_31 h
      · refine xx_iload_n C 11 rfl 1 dX12_urns_10 rfl rfl ?_
        refine xx_aload_n C 12 rfl 0 dX12_urns_11 rfl rfl ?_
        refine xx_getr (fi := 0) C 15 rfl (by decide) (ceM_0 _ _ _) rfl in_X12 (by decide) rfl w_1179 dX12_urns_12 ?_
        refine xx_bipush C 17 rfl dX12_urns_15 (by decide) ?_
        refine xx_iload_n C 18 rfl 2 dX12_urns_17 rfl rfl ?_
        refine xx_iadd C 19 rfl dX12_urns_18 ?_
        refine xx_iaload C 20 rfl (by decide) (fun _ => rfl) (by decide) dX12_urns_19 h (fun v19 h => ?_)
        refine xx_iload_n C 21 rfl 2 dX12_urns_20 rfl rfl ?_
        refine xx_ishl C 22 rfl dX12_urns_21 ?_
        refine xx_ior C 23 rfl dX12_urns_22 ?_
        refine xx_nm C h (fun n23 h => ?_)
        refine xx_istore_n (lv1 := [(1, .int (iI n23)), (0, .ref (ad 0)), (2, .int (iI x2_4))]) C 24 rfl (by decide) dX12_urns_23 rfl rfl ?_
        refine xx_iincn C 27 rfl 2 (by decide) dX12_urns_24 rfl h (fun n24 h => ?_)
        refine xx_lv (lv1 := [(2, .int (iI n24)), (1, .int (iI n23)), (0, .ref (ad 0))]) rfl ?_
        refine xx_goto C 4 dX12_urns_27 (by decide) ?_
        refine xx_sub [2, 1, 0] rfl ?_
        exact K4 n23 n24 h
  refine xx_sub [2, 1, 0] rfl ?_
  exact L4 _ _ _ h

def f_X12_wouldFree (μ : mu_T)  : Option (Int × mu_T) :=
  bd_ (f_X12_measures μ (-11) 1) (fun μ4 => bd_ (f_X12_urns μ4) (fun v8 => bd_ (f_X12_reached μ4) (fun v12 => some ((an_ v8 (xo_ v12 (-1))), μ4))))
set_option maxHeartbeats 4000000 in
set_option maxRecDepth 100000 in
theorem c_X12_wouldFree {G : gp_} {ad : Nat → Nat} (μ : mu_T)  (a : Int) (μr : mu_T) (h : f_X12_wouldFree μ  = some (a, μr)) : mi_ yX12_wouldFree cX12_wouldFree 1 (some .int) ({ frames := 2, cells := 0, slots := 0, locals := 47 } : Room) G 9 ad (ceM G ad) [.ref (ad 0)] μ a μr := by
  refine mi_in (own := "UrnHeapModel") (lv := [(0, .ref (ad 0))]) (by decide) rfl rfl (Nat.le_of_ble_eq_true rfl) (fun X C E => ?_)
  unfold f_X12_wouldFree at h
  refine xx_aload_n C 1 rfl 0 dX12_wouldFree_0 rfl rfl ?_
  refine xx_bipush C 3 rfl dX12_wouldFree_1 (by decide) ?_
  refine xx_iconst C 4 rfl dX12_wouldFree_3 ?_
  refine xx_cVv (As := [.int (iI (-11)), .int (iI 1)]) (st := []) (o := 0) C 7 rfl (by decide) (ceM_0 _ _ _) rfl rfl ca_X12_measures cv_X12_measures w_1427 rfl ⟨Nat.le_of_ble_eq_true rfl, Nat.le_of_ble_eq_true rfl⟩ ⟨Nat.le_of_ble_eq_true rfl, Nat.le_of_ble_eq_true rfl⟩ (Nat.le_of_ble_eq_true rfl) dX12_wouldFree_4 (fun μ4 e9 => c_X12_measures _ _ _ μ4 e9) h (fun μ4 h => ?_) rfl
  refine xx_aload_n C 8 rfl 0 dX12_wouldFree_7 rfl rfl ?_
  refine xx_cVip (As := []) (st := []) (o := 0) C 11 rfl (by decide) (ceM_0 _ _ _) rfl rfl ca_X12_urns cv_X12_urns w_1460 rfl ⟨Nat.le_of_ble_eq_true rfl, Nat.le_of_ble_eq_true rfl⟩ ⟨Nat.le_of_ble_eq_true rfl, Nat.le_of_ble_eq_true rfl⟩ (Nat.le_of_ble_eq_true rfl) dX12_wouldFree_8 (fun v8 e9 => c_X12_urns _ v8 e9) h (fun v8 h => ?_) rfl
  refine xx_aload_n C 12 rfl 0 dX12_wouldFree_11 rfl rfl ?_
  refine xx_cVip (As := []) (st := [.int (iI v8)]) (o := 0) C 15 rfl (by decide) (ceM_0 _ _ _) rfl rfl ca_X12_reached cv_X12_reached w_1435 rfl ⟨Nat.le_of_ble_eq_true rfl, Nat.le_of_ble_eq_true rfl⟩ ⟨Nat.le_of_ble_eq_true rfl, Nat.le_of_ble_eq_true rfl⟩ (Nat.le_of_ble_eq_true rfl) dX12_wouldFree_12 (fun v12 e9 => c_X12_reached _ v12 e9) h (fun v12 h => ?_) rfl
  refine xx_iconst C 16 rfl dX12_wouldFree_15 ?_
  refine xx_ixor C 17 rfl dX12_wouldFree_16 ?_
  refine xx_iand C 18 rfl dX12_wouldFree_17 ?_
  exact xx_iret C E rfl ⟨Nat.le_of_ble_eq_true rfl, Nat.le_of_ble_eq_true rfl⟩ dX12_wouldFree_18 h

def f_X12_isAhead (μ : mu_T) (a1 : Int) (a2 : Int) : Option Int :=
  bd_ (f_X12_held μ a1) (fun v2 => bd_ (f_X12_held μ a2) (fun v7 => eq_ v2 v7
      (bd_ (f_X12_holds μ a1) (fun v34 => bd_ (f_X12_holds μ a2) (fun v39 => lt_ v39 v34
      (some 1)
      (bd_ (f_X12_holds μ a1) (fun v47 => bd_ (f_X12_holds μ a2) (fun v52 => eq_ v47 v52
      (lt_ a1 a2
      (some 1)
      (some 0))
      (some 0)))))))
      (bd_ (f_X12_held μ a1) (fun v15 => bd_ (f_X12_held μ a2) (fun v20 => lt_ v20 v15
      (some 1)
      (some 0))))))
set_option maxHeartbeats 4000000 in
set_option maxRecDepth 100000 in
theorem c_X12_isAhead {G : gp_} {ad : Nat → Nat} (μ : mu_T) (a1 : Int) (a2 : Int) (a : Int) (h : f_X12_isAhead μ a1 a2 = some a) : mi_ yX12_isAhead cX12_isAhead 3 (some .boolean) ({ frames := 2, cells := 0, slots := 0, locals := 44 } : Room) G 9 ad (ceM G ad) [.ref (ad 0), .int (iI a1), .int (iI a2)] μ a μ := by
  refine mi_in (own := "UrnHeapModel") (lv := [(0, .ref (ad 0)), (1, .int (iI a1)), (2, .int (iI a2))]) (by decide) rfl rfl (Nat.le_of_ble_eq_true rfl) (fun X C E => ?_)
  unfold f_X12_isAhead at h
  refine xx_aload_n C 1 rfl 0 dX12_isAhead_0 rfl rfl ?_
  refine xx_iload_n C 2 rfl 1 dX12_isAhead_1 rfl rfl ?_
  refine xx_cVip (As := [.int (iI a1)]) (st := []) (o := 0) C 5 rfl (by decide) (ceM_0 _ _ _) rfl rfl ca_X12_held cv_X12_held w_1339 rfl ⟨Nat.le_of_ble_eq_true rfl, Nat.le_of_ble_eq_true rfl⟩ ⟨Nat.le_of_ble_eq_true rfl, Nat.le_of_ble_eq_true rfl⟩ (Nat.le_of_ble_eq_true rfl) dX12_isAhead_2 (fun v2 e9 => c_X12_held _ _ v2 e9) h (fun v2 h => ?_) rfl
  refine xx_aload_n C 6 rfl 0 dX12_isAhead_5 rfl rfl ?_
  refine xx_iload_n C 7 rfl 2 dX12_isAhead_6 rfl rfl ?_
  refine xx_cVip (As := [.int (iI a2)]) (st := [.int (iI v2)]) (o := 0) C 10 rfl (by decide) (ceM_0 _ _ _) rfl rfl ca_X12_held cv_X12_held w_1339 rfl ⟨Nat.le_of_ble_eq_true rfl, Nat.le_of_ble_eq_true rfl⟩ ⟨Nat.le_of_ble_eq_true rfl, Nat.le_of_ble_eq_true rfl⟩ (Nat.le_of_ble_eq_true rfl) dX12_isAhead_7 (fun v7 e9 => c_X12_held _ _ v7 e9) h (fun v7 h => ?_) rfl
  refine xx_icmp_eq (tgt := 32) C 13 rfl dX12_isAhead_10 (by decide) h (fun h => ?_) (fun h => ?_)
  · refine xx_aload_n C 33 rfl 0 dX12_isAhead_32 rfl rfl ?_
    refine xx_iload_n C 34 rfl 1 dX12_isAhead_33 rfl rfl ?_
    refine xx_cVip (As := [.int (iI a1)]) (st := []) (o := 0) C 37 rfl (by decide) (ceM_0 _ _ _) rfl rfl ca_X12_holds cv_X12_holds w_1335 rfl ⟨Nat.le_of_ble_eq_true rfl, Nat.le_of_ble_eq_true rfl⟩ ⟨Nat.le_of_ble_eq_true rfl, Nat.le_of_ble_eq_true rfl⟩ (Nat.le_of_ble_eq_true rfl) dX12_isAhead_34 (fun v34 e9 => c_X12_holds _ _ v34 e9) h (fun v34 h => ?_) rfl
    refine xx_aload_n C 38 rfl 0 dX12_isAhead_37 rfl rfl ?_
    refine xx_iload_n C 39 rfl 2 dX12_isAhead_38 rfl rfl ?_
    refine xx_cVip (As := [.int (iI a2)]) (st := [.int (iI v34)]) (o := 0) C 42 rfl (by decide) (ceM_0 _ _ _) rfl rfl ca_X12_holds cv_X12_holds w_1335 rfl ⟨Nat.le_of_ble_eq_true rfl, Nat.le_of_ble_eq_true rfl⟩ ⟨Nat.le_of_ble_eq_true rfl, Nat.le_of_ble_eq_true rfl⟩ (Nat.le_of_ble_eq_true rfl) dX12_isAhead_39 (fun v39 e9 => c_X12_holds _ _ v39 e9) h (fun v39 h => ?_) rfl
    refine xx_icmp_gt (tgt := 63) C 45 rfl dX12_isAhead_42 (by decide) h (fun h => ?_) (fun h => ?_)
    · refine xx_iconst C 64 rfl dX12_isAhead_63 ?_
      refine xx_goto C 68 dX12_isAhead_64 (by decide) ?_
      exact xx_zretl C E rfl rfl ⟨Nat.le_of_ble_eq_true rfl, Nat.le_of_ble_eq_true rfl⟩ dX12_isAhead_68 h
    · refine xx_aload_n C 46 rfl 0 dX12_isAhead_45 rfl rfl ?_
      refine xx_iload_n C 47 rfl 1 dX12_isAhead_46 rfl rfl ?_
      refine xx_cVip (As := [.int (iI a1)]) (st := []) (o := 0) C 50 rfl (by decide) (ceM_0 _ _ _) rfl rfl ca_X12_holds cv_X12_holds w_1335 rfl ⟨Nat.le_of_ble_eq_true rfl, Nat.le_of_ble_eq_true rfl⟩ ⟨Nat.le_of_ble_eq_true rfl, Nat.le_of_ble_eq_true rfl⟩ (Nat.le_of_ble_eq_true rfl) dX12_isAhead_47 (fun v47 e9 => c_X12_holds _ _ v47 e9) h (fun v47 h => ?_) rfl
      refine xx_aload_n C 51 rfl 0 dX12_isAhead_50 rfl rfl ?_
      refine xx_iload_n C 52 rfl 2 dX12_isAhead_51 rfl rfl ?_
      refine xx_cVip (As := [.int (iI a2)]) (st := [.int (iI v47)]) (o := 0) C 55 rfl (by decide) (ceM_0 _ _ _) rfl rfl ca_X12_holds cv_X12_holds w_1335 rfl ⟨Nat.le_of_ble_eq_true rfl, Nat.le_of_ble_eq_true rfl⟩ ⟨Nat.le_of_ble_eq_true rfl, Nat.le_of_ble_eq_true rfl⟩ (Nat.le_of_ble_eq_true rfl) dX12_isAhead_52 (fun v52 e9 => c_X12_holds _ _ v52 e9) h (fun v52 h => ?_) rfl
      refine xx_icmp_ne (tgt := 67) C 58 rfl dX12_isAhead_55 (by decide) h (fun h => ?_) (fun h => ?_)
      · refine xx_iconst C 68 rfl dX12_isAhead_67 ?_
        exact xx_zretl C E rfl rfl ⟨Nat.le_of_ble_eq_true rfl, Nat.le_of_ble_eq_true rfl⟩ dX12_isAhead_68 h
      · refine xx_iload_n C 59 rfl 1 dX12_isAhead_58 rfl rfl ?_
        refine xx_iload_n C 60 rfl 2 dX12_isAhead_59 rfl rfl ?_
        refine xx_icmp_ge (tgt := 67) C 63 rfl dX12_isAhead_60 (by decide) h (fun h => ?_) (fun h => ?_)
        · refine xx_iconst C 68 rfl dX12_isAhead_67 ?_
          exact xx_zretl C E rfl rfl ⟨Nat.le_of_ble_eq_true rfl, Nat.le_of_ble_eq_true rfl⟩ dX12_isAhead_68 h
        · refine xx_iconst C 64 rfl dX12_isAhead_63 ?_
          refine xx_goto C 68 dX12_isAhead_64 (by decide) ?_
          exact xx_zretl C E rfl rfl ⟨Nat.le_of_ble_eq_true rfl, Nat.le_of_ble_eq_true rfl⟩ dX12_isAhead_68 h
  · refine xx_aload_n C 14 rfl 0 dX12_isAhead_13 rfl rfl ?_
    refine xx_iload_n C 15 rfl 1 dX12_isAhead_14 rfl rfl ?_
    refine xx_cVip (As := [.int (iI a1)]) (st := []) (o := 0) C 18 rfl (by decide) (ceM_0 _ _ _) rfl rfl ca_X12_held cv_X12_held w_1339 rfl ⟨Nat.le_of_ble_eq_true rfl, Nat.le_of_ble_eq_true rfl⟩ ⟨Nat.le_of_ble_eq_true rfl, Nat.le_of_ble_eq_true rfl⟩ (Nat.le_of_ble_eq_true rfl) dX12_isAhead_15 (fun v15 e9 => c_X12_held _ _ v15 e9) h (fun v15 h => ?_) rfl
    refine xx_aload_n C 19 rfl 0 dX12_isAhead_18 rfl rfl ?_
    refine xx_iload_n C 20 rfl 2 dX12_isAhead_19 rfl rfl ?_
    refine xx_cVip (As := [.int (iI a2)]) (st := [.int (iI v15)]) (o := 0) C 23 rfl (by decide) (ceM_0 _ _ _) rfl rfl ca_X12_held cv_X12_held w_1339 rfl ⟨Nat.le_of_ble_eq_true rfl, Nat.le_of_ble_eq_true rfl⟩ ⟨Nat.le_of_ble_eq_true rfl, Nat.le_of_ble_eq_true rfl⟩ (Nat.le_of_ble_eq_true rfl) dX12_isAhead_20 (fun v20 e9 => c_X12_held _ _ v20 e9) h (fun v20 h => ?_) rfl
    refine xx_icmp_le (tgt := 30) C 26 rfl dX12_isAhead_23 (by decide) h (fun h => ?_) (fun h => ?_)
    · refine xx_iconst C 31 rfl dX12_isAhead_30 ?_
      exact xx_zretl C E rfl rfl ⟨Nat.le_of_ble_eq_true rfl, Nat.le_of_ble_eq_true rfl⟩ dX12_isAhead_31 h
    · refine xx_iconst C 27 rfl dX12_isAhead_26 ?_
      refine xx_goto C 31 dX12_isAhead_27 (by decide) ?_
      exact xx_zretl C E rfl rfl ⟨Nat.le_of_ble_eq_true rfl, Nat.le_of_ble_eq_true rfl⟩ dX12_isAhead_31 h

def f_X12_ranked_L13 (J64 : Int → Option Int) (x2_2 : Int) (μ : mu_T) : Nat → Int → Int → Option Int
  | 0, _, _ => none
  | fu13 + 1, x3_13, x4_13 => lt_ x4_13 24
      (rd_ μ 1 293 (17 + x4_13) (fun v30 => jn_ (φ := Int → Option Int) (fun s0_56 => nm_ ((x3_13 + s0_56)) (fun n57 => nm_ (x4_13 + 1) (fun n58 => (f_X12_ranked_L13 J64 x2_2 μ fu13) n57 n58)))
      (fun J56 => jn_ (φ := Unit → Option Int) (fun _ => J56 0)
      (fun J55 => eq_ v30 1
      (eq_ x4_13 x2_2
      (J55 ())
      (bd_ (f_X12_isAhead μ x4_13 x2_2) (fun v45 => eq_ v45 0
      (J55 ())
      (J56 1))))
      (J55 ())))))
      (J64 x3_13)
def f_X12_ranked_L2 (a1 : Int) (μ : mu_T) : Nat → Int → Option Int
  | 0, _ => none
  | fu2 + 1, x2_2 => lt_ x2_2 24
      (jn_ (φ := Int → Option Int) (fun x3_64 => rd_ μ 1 293 (17 + x2_2) (fun v72 => jn_ (φ := Unit → Option Int) (fun _ => nm_ (x2_2 + 1) (fun n84 => (f_X12_ranked_L2 a1 μ fu2) n84))
      (fun J84 => eq_ v72 1
      (eq_ x3_64 a1
      (some x2_2)
      (J84 ()))
      (J84 ()))))
      (fun J64 => f_X12_ranked_L13 J64 x2_2 μ 20000 0 0))
      (some (-11))
def f_X12_ranked (μ : mu_T) (a1 : Int) : Option Int :=
  f_X12_ranked_L2 a1 μ 20000 0
set_option maxHeartbeats 4000000 in
set_option maxRecDepth 100000 in
theorem c_X12_ranked {G : gp_} {ad : Nat → Nat} (μ : mu_T) (a1 : Int) (a : Int) (h : f_X12_ranked μ a1 = some a) : mi_ yX12_ranked cX12_ranked 5 (some .int) ({ frames := 3, cells := 0, slots := 0, locals := 66 } : Room) G 9 ad (ceM G ad) [.ref (ad 0), .int (iI a1)] μ a μ := by
  refine mi_in (own := "UrnHeapModel") (lv := [(0, .ref (ad 0)), (1, .int (iI a1))]) (by decide) rfl rfl (Nat.le_of_ble_eq_true rfl) (fun X C E => ?_)
  unfold f_X12_ranked at h
  refine xx_iconst C 1 rfl dX12_ranked_0 ?_
  refine xx_istore_n (lv1 := [(2, .int (iI 0)), (0, .ref (ad 0)), (1, .int (iI a1))]) C 2 rfl (by decide) dX12_ranked_1 rfl rfl ?_
  have L2 : ∀ (fu2 : Nat) (x2_2 : Int), f_X12_ranked_L2 a1 μ fu2 x2_2 = some a → wx_ G X 9 ad (ceM G ad) μ 0 0 2 [(0, .ref (ad 0)), (1, .int (iI a1)), (2, .int (iI x2_2))] [] := by
    intro fu2
    induction fu2 with
    | zero => intro x2_2 h; exact nn_ h
    | succ fu2 K2 =>
      intro x2_2 h
      rw [f_X12_ranked_L2] at h
      generalize f_X12_ranked_L2 a1 μ fu2 = R2 at K2 h
      refine xx_iload_n C 3 rfl 2 dX12_ranked_2 rfl rfl ?_
      refine xx_bipush C 5 rfl dX12_ranked_3 (by decide) ?_
      refine xx_icmp_ge (tgt := 90) C 8 rfl dX12_ranked_5 (by decide) h (fun h => ?_) (fun h => ?_)
      · refine xx_bipush C 92 rfl dX12_ranked_90 (by decide) ?_
        exact xx_iretp C E rfl ⟨Nat.le_of_ble_eq_true rfl, Nat.le_of_ble_eq_true rfl⟩ dX12_ranked_92 h
      · refine xx_iconst C 9 rfl dX12_ranked_8 ?_
        refine xx_istore_n (lv1 := [(3, .int (iI 0)), (0, .ref (ad 0)), (1, .int (iI a1)), (2, .int (iI x2_2))]) C 10 rfl (by decide) dX12_ranked_9 rfl rfl ?_
        refine xx_iconst C 11 rfl dX12_ranked_10 ?_
        refine xx_istore (lv1 := [(4, .int (iI 0)), (3, .int (iI 0)), (0, .ref (ad 0)), (1, .int (iI a1)), (2, .int (iI x2_2))]) C 13 rfl (by decide) dX12_ranked_11 rfl ?_
        refine jn_r (fun J => ∀ (x3_64 : Int), J x3_64 = some a → wx_ G X 9 ad (ceM G ad) μ 0 0 64 [(0, .ref (ad 0)), (1, .int (iI a1)), (2, .int (iI x2_2)), (3, .int (iI x3_64))] []) h (fun x3_64 h => ?_) (fun J64 K64 h => ?_)
        · refine xx_aload_n C 65 rfl 0 dX12_ranked_64 rfl rfl ?_
          refine xx_getr (fi := 0) C 68 rfl (by decide) (ceM_0 _ _ _) rfl in_X12 (by decide) rfl w_1179 dX12_ranked_65 ?_
          refine xx_bipush C 70 rfl dX12_ranked_68 (by decide) ?_
          refine xx_iload_n C 71 rfl 2 dX12_ranked_70 rfl rfl ?_
          refine xx_iadd C 72 rfl dX12_ranked_71 ?_
          refine xx_iaload C 73 rfl (by decide) (fun _ => rfl) (by decide) dX12_ranked_72 h (fun v72 h => ?_)
          refine xx_iconst C 74 rfl dX12_ranked_73 ?_
          refine jn_r (fun J => ∀ (_u : Unit), J _u = some a → wx_ G X 9 ad (ceM G ad) μ 0 0 84 [(0, .ref (ad 0)), (1, .int (iI a1)), (2, .int (iI x2_2))] []) h (fun _ h => ?_) (fun J84 K84 h => ?_)
          · refine xx_iincn C 87 rfl 2 (by decide) dX12_ranked_84 rfl h (fun n84 h => ?_)
            refine xx_lv (lv1 := [(2, .int (iI n84)), (0, .ref (ad 0)), (1, .int (iI a1))]) rfl ?_
            refine xx_goto C 2 dX12_ranked_87 (by decide) ?_
            refine xx_sub [1, 2, 0] rfl ?_
            exact K2 n84 h
          · refine xx_icmp_ne (tgt := 84) C 77 rfl dX12_ranked_74 (by decide) h (fun h => ?_) (fun h => ?_)
            · refine xx_sub [0, 1, 2] rfl ?_
              exact K84 () h
            · refine xx_iload_n C 78 rfl 3 dX12_ranked_77 rfl rfl ?_
              refine xx_iload_n C 79 rfl 1 dX12_ranked_78 rfl rfl ?_
              refine xx_icmp_ne (tgt := 84) C 82 rfl dX12_ranked_79 (by decide) h (fun h => ?_) (fun h => ?_)
              · refine xx_sub [0, 1, 2] rfl ?_
                exact K84 () h
              · refine xx_iload_n C 83 rfl 2 dX12_ranked_82 rfl rfl ?_
                exact xx_iretp C E rfl ⟨Nat.le_of_ble_eq_true rfl, Nat.le_of_ble_eq_true rfl⟩ dX12_ranked_83 h
        · have L13 : ∀ (fu13 : Nat) (x3_13 : Int) (x4_13 : Int), f_X12_ranked_L13 J64 x2_2 μ fu13 x3_13 x4_13 = some a → wx_ G X 9 ad (ceM G ad) μ 0 0 13 [(0, .ref (ad 0)), (1, .int (iI a1)), (2, .int (iI x2_2)), (3, .int (iI x3_13)), (4, .int (iI x4_13))] [] := by
            intro fu13
            induction fu13 with
            | zero => intro x3_13 x4_13 h; exact nn_ h
            | succ fu13 K13 =>
              intro x3_13 x4_13 h
              rw [f_X12_ranked_L13] at h
              generalize f_X12_ranked_L13 J64 x2_2 μ fu13 = R13 at K13 h
              refine xx_iload C 15 rfl 4 dX12_ranked_13 rfl ?_
              refine xx_bipush C 17 rfl dX12_ranked_15 (by decide) ?_
              refine xx_icmp_ge (tgt := 64) C 20 rfl dX12_ranked_17 (by decide) h (fun h => ?_) (fun h => ?_)
              · refine xx_sub [0, 1, 2, 3] rfl ?_
                exact K64 x3_13 h
              · refine xx_iload_n C 21 rfl 3 dX12_ranked_20 rfl rfl ?_
                refine xx_aload_n C 22 rfl 0 dX12_ranked_21 rfl rfl ?_
                refine xx_getr (fi := 0) C 25 rfl (by decide) (ceM_0 _ _ _) rfl in_X12 (by decide) rfl w_1179 dX12_ranked_22 ?_
                refine xx_bipush C 27 rfl dX12_ranked_25 (by decide) ?_
                refine xx_iload C 29 rfl 4 dX12_ranked_27 rfl ?_
                refine xx_iadd C 30 rfl dX12_ranked_29 ?_
                refine xx_iaload C 31 rfl (by decide) (fun _ => rfl) (by decide) dX12_ranked_30 h (fun v30 h => ?_)
                refine xx_iconst C 32 rfl dX12_ranked_31 ?_
                refine jn_r (fun J => ∀ (s0_56 : Int), J s0_56 = some a → wx_ G X 9 ad (ceM G ad) μ 0 0 56 [(0, .ref (ad 0)), (1, .int (iI a1)), (2, .int (iI x2_2)), (4, .int (iI x4_13))] [.int (iI s0_56), .int (iI x3_13)]) h (fun s0_56 h => ?_) (fun J56 K56 h => ?_)
                · refine xx_iadd C 57 rfl dX12_ranked_56 ?_
                  refine xx_nm C h (fun n57 h => ?_)
                  refine xx_istore_n (lv1 := [(3, .int (iI n57)), (0, .ref (ad 0)), (1, .int (iI a1)), (2, .int (iI x2_2)), (4, .int (iI x4_13))]) C 58 rfl (by decide) dX12_ranked_57 rfl rfl ?_
                  refine xx_iincn C 61 rfl 4 (by decide) dX12_ranked_58 rfl h (fun n58 h => ?_)
                  refine xx_lv (lv1 := [(4, .int (iI n58)), (3, .int (iI n57)), (0, .ref (ad 0)), (1, .int (iI a1)), (2, .int (iI x2_2))]) rfl ?_
                  refine xx_goto C 13 dX12_ranked_61 (by decide) ?_
                  refine xx_sub [2, 3, 4, 1, 0] rfl ?_
                  exact K13 n57 n58 h
                · refine jn_r (fun J => ∀ (_u : Unit), J _u = some a → wx_ G X 9 ad (ceM G ad) μ 0 0 55 [(0, .ref (ad 0)), (1, .int (iI a1)), (2, .int (iI x2_2)), (4, .int (iI x4_13))] [.int (iI x3_13)]) h (fun _ h => ?_) (fun J55 K55 h => ?_)
                  · refine xx_iconst C 56 rfl dX12_ranked_55 ?_
                    exact K56 0 h
                  · refine xx_icmp_ne (tgt := 55) C 35 rfl dX12_ranked_32 (by decide) h (fun h => ?_) (fun h => ?_)
                    · refine xx_sub [0, 1, 2, 4] rfl ?_
                      exact K55 () h
                    · refine xx_iload C 37 rfl 4 dX12_ranked_35 rfl ?_
                      refine xx_iload_n C 38 rfl 2 dX12_ranked_37 rfl rfl ?_
                      refine xx_icmp_eq (tgt := 55) C 41 rfl dX12_ranked_38 (by decide) h (fun h => ?_) (fun h => ?_)
                      · refine xx_sub [0, 1, 2, 4] rfl ?_
                        exact K55 () h
                      · refine xx_aload_n C 42 rfl 0 dX12_ranked_41 rfl rfl ?_
                        refine xx_iload C 44 rfl 4 dX12_ranked_42 rfl ?_
                        refine xx_iload_n C 45 rfl 2 dX12_ranked_44 rfl rfl ?_
                        refine xx_cVip (As := [.int (iI x4_13), .int (iI x2_2)]) (st := [.int (iI x3_13)]) (o := 0) C 48 rfl (by decide) (ceM_0 _ _ _) rfl rfl ca_X12_isAhead cv_X12_isAhead w_1468 rfl ⟨Nat.le_of_ble_eq_true rfl, Nat.le_of_ble_eq_true rfl⟩ ⟨Nat.le_of_ble_eq_true rfl, Nat.le_of_ble_eq_true rfl⟩ (Nat.le_of_ble_eq_true rfl) dX12_ranked_45 (fun v45 e9 => c_X12_isAhead _ _ _ v45 e9) h (fun v45 h => ?_) rfl
                        refine xx_if_eq (tgt := 55) C 51 rfl dX12_ranked_48 (by decide) h (fun h => ?_) (fun h => ?_)
                        · refine xx_sub [0, 1, 2, 4] rfl ?_
                          exact K55 () h
                        · refine xx_iconst C 52 rfl dX12_ranked_51 ?_
                          refine xx_goto C 56 dX12_ranked_52 (by decide) ?_
                          refine xx_sub [0, 1, 2, 4] rfl ?_
                          exact K56 1 h
          refine xx_sub [2, 3, 4, 1, 0] rfl ?_
          exact L13 _ _ _ h
  refine xx_sub [1, 2, 0] rfl ?_
  exact L2 _ _ h

def f_X12_append (μ : mu_T) (a1 : Int) : Option (Int × mu_T) :=
  bd_ (f_X12_in μ a1 32 126) (fun v5 => eq_ v5 0
      (some ((-12), μ))
      (nm_ (μ 0 10) (fun v15 => eq_ v15 60
      (some ((-13), μ))
      (nm_ (μ 0 10) (fun v31 => wr_ μ 5 60 v31 a1 (fun μ35 => nm_ (μ35 0 10) (fun v38 => wf_ μ35 0 10 (v38 + 1) (fun μ43 => nm_ (μ43 0 10) (fun v47 => some (v47, μ43))))))))))
set_option maxHeartbeats 4000000 in
set_option maxRecDepth 100000 in
theorem c_X12_append {G : gp_} {ad : Nat → Nat} (μ : mu_T) (a1 : Int) (a : Int) (μr : mu_T) (h : f_X12_append μ a1 = some (a, μr)) : mi_ yX12_append cX12_append 2 (some .int) ({ frames := 1, cells := 0, slots := 0, locals := 22 } : Room) G 9 ad (ceM G ad) [.ref (ad 0), .int (iI a1)] μ a μr := by
  refine mi_in (own := "UrnHeapModel") (lv := [(0, .ref (ad 0)), (1, .int (iI a1))]) (by decide) rfl rfl (Nat.le_of_ble_eq_true rfl) (fun X C E => ?_)
  unfold f_X12_append at h
  refine xx_iload_n C 1 rfl 1 dX12_append_0 rfl rfl ?_
  refine xx_bipush C 3 rfl dX12_append_1 (by decide) ?_
  refine xx_bipush C 5 rfl dX12_append_3 (by decide) ?_
  refine xx_cSip (As := [.int (iI a1), .int (iI 32), .int (iI 126)]) (st := []) C 8 rfl  ca_X12_in cs_X12_in w_1280 rfl ⟨Nat.le_of_ble_eq_true rfl, Nat.le_of_ble_eq_true rfl⟩ ⟨Nat.le_of_ble_eq_true rfl, Nat.le_of_ble_eq_true rfl⟩ (Nat.le_of_ble_eq_true rfl) dX12_append_5 (fun v5 e9 => c_X12_in _ _ _ _ v5 e9) h (fun v5 h => ?_) rfl
  refine xx_if_ne (tgt := 14) C 11 rfl dX12_append_8 (by decide) h (fun h => ?_) (fun h => ?_)
  · refine xx_aload_n C 15 rfl 0 dX12_append_14 rfl rfl ?_
    refine xx_geti (fi := 10) (j := 10) C 18 rfl (by decide) (ceM_0 _ _ _) rfl in_X12 (by decide) rfl w_1189 dX12_append_15 h (fun v15 h => ?_)
    refine xx_bipush C 20 rfl dX12_append_18 (by decide) ?_
    refine xx_icmp_ne (tgt := 26) C 23 rfl dX12_append_20 (by decide) h (fun h => ?_) (fun h => ?_)
    · refine xx_aload_n C 27 rfl 0 dX12_append_26 rfl rfl ?_
      refine xx_getr (fi := 6) C 30 rfl (by decide) (ceM_0 _ _ _) rfl in_X12 (by decide) rfl w_1185 dX12_append_27 ?_
      refine xx_aload_n C 31 rfl 0 dX12_append_30 rfl rfl ?_
      refine xx_geti (fi := 10) (j := 10) C 34 rfl (by decide) (ceM_0 _ _ _) rfl in_X12 (by decide) rfl w_1189 dX12_append_31 h (fun v31 h => ?_)
      refine xx_iload_n C 35 rfl 1 dX12_append_34 rfl rfl ?_
      refine xx_iastore C 36 rfl (by decide) (fun _ => rfl) (by decide) dX12_append_35 h (fun μ35 h => ?_)
      refine xx_aload_n C 37 rfl 0 dX12_append_36 rfl rfl ?_
      refine xx_dup C 38 rfl dX12_append_37 rfl ?_
      refine xx_geti (fi := 10) (j := 10) C 41 rfl (by decide) (ceM_0 _ _ _) rfl in_X12 (by decide) rfl w_1189 dX12_append_38 h (fun v38 h => ?_)
      refine xx_iconst C 42 rfl dX12_append_41 ?_
      refine xx_iadd C 43 rfl dX12_append_42 ?_
      refine xx_puti (fi := 10) (j := 10) C 46 rfl (by decide) (ceM_0 _ _ _) (puM_10 _ _ _ _) rfl in_X12 tyX12 tyX12_ok nmX12 (by decide) (Nat.le_of_ble_eq_true rfl) ⟨rfl, rfl⟩ w_1189 dX12_append_43 h (fun μ43 h => ?_)
      refine xx_aload_n C 47 rfl 0 dX12_append_46 rfl rfl ?_
      refine xx_geti (fi := 10) (j := 10) C 50 rfl (by decide) (ceM_0 _ _ _) rfl in_X12 (by decide) rfl w_1189 dX12_append_47 h (fun v47 h => ?_)
      exact xx_iret C E rfl ⟨Nat.le_of_ble_eq_true rfl, Nat.le_of_ble_eq_true rfl⟩ dX12_append_50 h
    · refine xx_bipush C 25 rfl dX12_append_23 (by decide) ?_
      exact xx_iret C E rfl ⟨Nat.le_of_ble_eq_true rfl, Nat.le_of_ble_eq_true rfl⟩ dX12_append_25 h
  · refine xx_bipush C 13 rfl dX12_append_11 (by decide) ?_
    exact xx_iret C E rfl ⟨Nat.le_of_ble_eq_true rfl, Nat.le_of_ble_eq_true rfl⟩ dX12_append_13 h

def f_X12_here (μ : mu_T)  : Option Int :=
  nm_ (μ 0 16) (fun v1 => nm_ (μ 0 17) (fun v5 => lt_ v1 v5
      (nm_ (μ 0 16) (fun v16 => rd_ μ 5 60 v16 (fun v19 => some v19)))
      (some (-11))))
set_option maxHeartbeats 4000000 in
set_option maxRecDepth 100000 in
theorem c_X12_here {G : gp_} {ad : Nat → Nat} (μ : mu_T)  (a : Int) (h : f_X12_here μ  = some a) : mi_ yX12_here cX12_here 1 (some .int) ({ frames := 0, cells := 0, slots := 0, locals := 0 } : Room) G 9 ad (ceM G ad) [.ref (ad 0)] μ a μ := by
  refine mi_in (own := "UrnHeapModel") (lv := [(0, .ref (ad 0))]) (by decide) rfl rfl (Nat.le_of_ble_eq_true rfl) (fun X C E => ?_)
  unfold f_X12_here at h
  refine xx_aload_n C 1 rfl 0 dX12_here_0 rfl rfl ?_
  refine xx_geti (fi := 16) (j := 16) C 4 rfl (by decide) (ceM_0 _ _ _) rfl in_X12 (by decide) rfl w_1195 dX12_here_1 h (fun v1 h => ?_)
  refine xx_aload_n C 5 rfl 0 dX12_here_4 rfl rfl ?_
  refine xx_geti (fi := 17) (j := 17) C 8 rfl (by decide) (ceM_0 _ _ _) rfl in_X12 (by decide) rfl w_1196 dX12_here_5 h (fun v5 h => ?_)
  refine xx_icmp_ge (tgt := 23) C 11 rfl dX12_here_8 (by decide) h (fun h => ?_) (fun h => ?_)
  · refine xx_bipush C 25 rfl dX12_here_23 (by decide) ?_
    exact xx_iretp C E rfl ⟨Nat.le_of_ble_eq_true rfl, Nat.le_of_ble_eq_true rfl⟩ dX12_here_25 h
  · refine xx_aload_n C 12 rfl 0 dX12_here_11 rfl rfl ?_
    refine xx_getr (fi := 6) C 15 rfl (by decide) (ceM_0 _ _ _) rfl in_X12 (by decide) rfl w_1185 dX12_here_12 ?_
    refine xx_aload_n C 16 rfl 0 dX12_here_15 rfl rfl ?_
    refine xx_geti (fi := 16) (j := 16) C 19 rfl (by decide) (ceM_0 _ _ _) rfl in_X12 (by decide) rfl w_1195 dX12_here_16 h (fun v16 h => ?_)
    refine xx_iaload C 20 rfl (by decide) (fun _ => rfl) (by decide) dX12_here_19 h (fun v19 h => ?_)
    refine xx_goto C 25 dX12_here_20 (by decide) ?_
    exact xx_iretp C E rfl ⟨Nat.le_of_ble_eq_true rfl, Nat.le_of_ble_eq_true rfl⟩ dX12_here_25 h

def f_X12_next (μ : mu_T)  : Option Int :=
  nm_ (μ 0 16) (fun v1 => nm_ (μ 0 17) (fun v7 => lt_ (v1 + 1) v7
      (nm_ (μ 0 16) (fun v18 => rd_ μ 5 60 (v18 + 1) (fun v23 => some v23)))
      (some (-11))))
set_option maxHeartbeats 4000000 in
set_option maxRecDepth 100000 in
theorem c_X12_next {G : gp_} {ad : Nat → Nat} (μ : mu_T)  (a : Int) (h : f_X12_next μ  = some a) : mi_ yX12_next cX12_next 1 (some .int) ({ frames := 0, cells := 0, slots := 0, locals := 0 } : Room) G 9 ad (ceM G ad) [.ref (ad 0)] μ a μ := by
  refine mi_in (own := "UrnHeapModel") (lv := [(0, .ref (ad 0))]) (by decide) rfl rfl (Nat.le_of_ble_eq_true rfl) (fun X C E => ?_)
  unfold f_X12_next at h
  refine xx_aload_n C 1 rfl 0 dX12_next_0 rfl rfl ?_
  refine xx_geti (fi := 16) (j := 16) C 4 rfl (by decide) (ceM_0 _ _ _) rfl in_X12 (by decide) rfl w_1195 dX12_next_1 h (fun v1 h => ?_)
  refine xx_iconst C 5 rfl dX12_next_4 ?_
  refine xx_iadd C 6 rfl dX12_next_5 ?_
  refine xx_aload_n C 7 rfl 0 dX12_next_6 rfl rfl ?_
  refine xx_geti (fi := 17) (j := 17) C 10 rfl (by decide) (ceM_0 _ _ _) rfl in_X12 (by decide) rfl w_1196 dX12_next_7 h (fun v7 h => ?_)
  refine xx_icmp_ge (tgt := 27) C 13 rfl dX12_next_10 (by decide) h (fun h => ?_) (fun h => ?_)
  · refine xx_bipush C 29 rfl dX12_next_27 (by decide) ?_
    exact xx_iretp C E rfl ⟨Nat.le_of_ble_eq_true rfl, Nat.le_of_ble_eq_true rfl⟩ dX12_next_29 h
  · refine xx_aload_n C 14 rfl 0 dX12_next_13 rfl rfl ?_
    refine xx_getr (fi := 6) C 17 rfl (by decide) (ceM_0 _ _ _) rfl in_X12 (by decide) rfl w_1185 dX12_next_14 ?_
    refine xx_aload_n C 18 rfl 0 dX12_next_17 rfl rfl ?_
    refine xx_geti (fi := 16) (j := 16) C 21 rfl (by decide) (ceM_0 _ _ _) rfl in_X12 (by decide) rfl w_1195 dX12_next_18 h (fun v18 h => ?_)
    refine xx_iconst C 22 rfl dX12_next_21 ?_
    refine xx_iadd C 23 rfl dX12_next_22 ?_
    refine xx_iaload C 24 rfl (by decide) (fun _ => rfl) (by decide) dX12_next_23 h (fun v23 h => ?_)
    refine xx_goto C 29 dX12_next_24 (by decide) ?_
    exact xx_iretp C E rfl ⟨Nat.le_of_ble_eq_true rfl, Nat.le_of_ble_eq_true rfl⟩ dX12_next_29 h

def f_X12_tells (μ : mu_T) (a1 : Int) (a2 : Int) : Option mu_T :=
  nm_ (μ 0 18) (fun v6 => wr_ μ 6 80 ((4 * v6) + a1) a2 (fun μ13 => some μ13))
set_option maxHeartbeats 4000000 in
set_option maxRecDepth 100000 in
theorem c_X12_tells {G : gp_} {ad : Nat → Nat} (μ : mu_T) (a1 : Int) (a2 : Int) (μr : mu_T) (h : f_X12_tells μ a1 a2 = some μr) : mv_ yX12_tells cX12_tells 3 ({ frames := 0, cells := 0, slots := 0, locals := 0 } : Room) G 9 ad (ceM G ad) [.ref (ad 0), .int (iI a1), .int (iI a2)] μ μr := by
  refine mv_in (own := "UrnHeapModel") (lv := [(0, .ref (ad 0)), (1, .int (iI a1)), (2, .int (iI a2))]) (by decide) rfl rfl (Nat.le_of_ble_eq_true rfl) (fun X C E => ?_)
  unfold f_X12_tells at h
  refine xx_aload_n C 1 rfl 0 dX12_tells_0 rfl rfl ?_
  refine xx_getr (fi := 7) C 4 rfl (by decide) (ceM_0 _ _ _) rfl in_X12 (by decide) rfl w_1186 dX12_tells_1 ?_
  refine xx_iconst C 5 rfl dX12_tells_4 ?_
  refine xx_aload_n C 6 rfl 0 dX12_tells_5 rfl rfl ?_
  refine xx_geti (fi := 18) (j := 18) C 9 rfl (by decide) (ceM_0 _ _ _) rfl in_X12 (by decide) rfl w_1197 dX12_tells_6 h (fun v6 h => ?_)
  refine xx_imul C 10 rfl dX12_tells_9 ?_
  refine xx_iload_n C 11 rfl 1 dX12_tells_10 rfl rfl ?_
  refine xx_iadd C 12 rfl dX12_tells_11 ?_
  refine xx_iload_n C 13 rfl 2 dX12_tells_12 rfl rfl ?_
  refine xx_iastore C 14 rfl (by decide) (fun _ => rfl) (by decide) dX12_tells_13 h (fun μ13 h => ?_)
  exact xx_vret C E rfl ⟨Nat.le_of_ble_eq_true rfl, Nat.le_of_ble_eq_true rfl⟩ dX12_tells_14 h

def f_X12_number_L5 (J61 : Int → Int → mu_T → Option mu_T) (a2 : Int) : Nat → Int → Int → mu_T → Option mu_T
  | 0, _, _, _ => none
  | fu5 + 1, x3_5, x4_5, μ5 => nm_ (μ5 0 19) (fun v6 => eq_ v6 0
      (lt_ x4_5 a2
      (bd_ (f_X12_here μ5) (fun v19 => bd_ (f_X12_in μ5 v19 48 57) (fun v26 => eq_ v26 0
      (J61 x3_5 x4_5 μ5)
      (bd_ (f_X12_here μ5) (fun v37 => nm_ ((((10 * x3_5) + v37) - 48)) (fun n44 => nm_ (μ5 0 16) (fun v47 => wf_ μ5 0 16 (v47 + 1) (fun μ52 => nm_ (x4_5 + 1) (fun n55 => (f_X12_number_L5 J61 a2 fu5) n44 n55 μ52)))))))))
      (J61 x3_5 x4_5 μ5))
      (J61 x3_5 x4_5 μ5))
def f_X12_number (μ : mu_T) (a1 : Int) (a2 : Int) : Option mu_T :=
  jn_ (φ := Int → Int → mu_T → Option mu_T) (fun x3_61 x4_61 μ61 => nm_ (μ61 0 19) (fun v63 => jn_ (φ := Int → Option mu_T) (fun s0_79 => wz_ μ61 0 19 s0_79 (fun μ79 => bd_ (f_X12_tells μ79 a1 x3_61) (fun μ85 => some μ85)))
      (fun J79 => jn_ (φ := Unit → Option mu_T) (fun _ => J79 1)
      (fun J74 => eq_ v63 0
      (eq_ x4_61 0
      (J74 ())
      (J79 0))
      (J74 ())))))
      (fun J61 => f_X12_number_L5 J61 a2 20000 0 0 μ)
set_option maxHeartbeats 4000000 in
set_option maxRecDepth 100000 in
theorem c_X12_number {G : gp_} {ad : Nat → Nat} (μ : mu_T) (a1 : Int) (a2 : Int) (μr : mu_T) (h : f_X12_number μ a1 a2 = some μr) : mv_ yX12_number cX12_number 5 ({ frames := 1, cells := 0, slots := 0, locals := 22 } : Room) G 9 ad (ceM G ad) [.ref (ad 0), .int (iI a1), .int (iI a2)] μ μr := by
  refine mv_in (own := "UrnHeapModel") (lv := [(0, .ref (ad 0)), (1, .int (iI a1)), (2, .int (iI a2))]) (by decide) rfl rfl (Nat.le_of_ble_eq_true rfl) (fun X C E => ?_)
  unfold f_X12_number at h
  refine xx_iconst C 1 rfl dX12_number_0 ?_
  refine xx_istore_n (lv1 := [(3, .int (iI 0)), (0, .ref (ad 0)), (1, .int (iI a1)), (2, .int (iI a2))]) C 2 rfl (by decide) dX12_number_1 rfl rfl ?_
  refine xx_iconst C 3 rfl dX12_number_2 ?_
  refine xx_istore (lv1 := [(4, .int (iI 0)), (3, .int (iI 0)), (0, .ref (ad 0)), (1, .int (iI a1)), (2, .int (iI a2))]) C 5 rfl (by decide) dX12_number_3 rfl ?_
  refine jn_r (fun J => ∀ (x3_61 : Int) (x4_61 : Int) (μ61 : mu_T), J x3_61 x4_61 μ61 = some μr → wx_ G X 9 ad (ceM G ad) μ61 0 0 61 [(0, .ref (ad 0)), (1, .int (iI a1)), (3, .int (iI x3_61)), (4, .int (iI x4_61))] []) h (fun x3_61 x4_61 μ61 h => ?_) (fun J61 K61 h => ?_)
  · refine xx_aload_n C 62 rfl 0 dX12_number_61 rfl rfl ?_
    refine xx_aload_n C 63 rfl 0 dX12_number_62 rfl rfl ?_
    refine xx_geti (fi := 19) (j := 19) C 66 rfl (by decide) (ceM_0 _ _ _) rfl in_X12 (by decide) rfl w_1198 dX12_number_63 h (fun v63 h => ?_)
    refine jn_r (fun J => ∀ (s0_79 : Int), J s0_79 = some μr → wx_ G X 9 ad (ceM G ad) μ61 0 0 79 [(0, .ref (ad 0)), (1, .int (iI a1)), (3, .int (iI x3_61))] [.int (iI s0_79), .ref (ad 0)]) h (fun s0_79 h => ?_) (fun J79 K79 h => ?_)
    · refine xx_putz (fi := 19) (j := 19) C 82 rfl (by decide) (ceM_0 _ _ _) (puM_19 _ _ _ _) rfl in_X12 tyX12 tyX12_ok nmX12 (by decide) (Nat.le_of_ble_eq_true rfl) ⟨rfl, rfl⟩ w_1198 dX12_number_79 h (fun μ79 h => ?_)
      refine xx_aload_n C 83 rfl 0 dX12_number_82 rfl rfl ?_
      refine xx_iload_n C 84 rfl 1 dX12_number_83 rfl rfl ?_
      refine xx_iload_n C 85 rfl 2 dX12_number_84 rfl rfl ?_
      refine xx_cVv (As := [.int (iI a1), .int (iI x3_61)]) (st := []) (o := 0) C 88 rfl (by decide) (ceM_0 _ _ _) rfl rfl ca_X12_tells cv_X12_tells w_1492 rfl ⟨Nat.le_of_ble_eq_true rfl, Nat.le_of_ble_eq_true rfl⟩ ⟨Nat.le_of_ble_eq_true rfl, Nat.le_of_ble_eq_true rfl⟩ (Nat.le_of_ble_eq_true rfl) dX12_number_85 (fun μ85 e9 => c_X12_tells _ _ _ μ85 e9) h (fun μ85 h => ?_) rfl
      exact xx_vret C E rfl ⟨Nat.le_of_ble_eq_true rfl, Nat.le_of_ble_eq_true rfl⟩ dX12_number_88 h
    · refine jn_r (fun J => ∀ (_u : Unit), J _u = some μr → wx_ G X 9 ad (ceM G ad) μ61 0 0 74 [(0, .ref (ad 0)), (1, .int (iI a1)), (3, .int (iI x3_61))] [.ref (ad 0)]) h (fun _ h => ?_) (fun J74 K74 h => ?_)
      · refine xx_iconst C 75 rfl dX12_number_74 ?_
        refine xx_goto C 79 dX12_number_75 (by decide) ?_
        exact K79 1 h
      · refine xx_if_ne (tgt := 74) C 69 rfl dX12_number_66 (by decide) h (fun h => ?_) (fun h => ?_)
        · refine xx_sub [0, 1, 2] rfl ?_
          exact K74 () h
        · refine xx_iload C 71 rfl 3 dX12_number_69 rfl ?_
          refine xx_if_ne (tgt := 78) C 74 rfl dX12_number_71 (by decide) h (fun h => ?_) (fun h => ?_)
          · refine xx_iconst C 79 rfl dX12_number_78 ?_
            refine xx_sub [0, 1, 2] rfl ?_
            exact K79 0 h
          · refine xx_sub [0, 1, 2] rfl ?_
            exact K74 () h
  · have L5 : ∀ (fu5 : Nat) (x3_5 : Int) (x4_5 : Int) (μ5 : mu_T), f_X12_number_L5 J61 a2 fu5 x3_5 x4_5 μ5 = some μr → wx_ G X 9 ad (ceM G ad) μ5 0 0 5 [(0, .ref (ad 0)), (1, .int (iI a1)), (2, .int (iI a2)), (3, .int (iI x3_5)), (4, .int (iI x4_5))] [] := by
      intro fu5
      induction fu5 with
      | zero => intro x3_5 x4_5 μ5 h; exact nn_ h
      | succ fu5 K5 =>
        intro x3_5 x4_5 μ5 h
        rw [f_X12_number_L5] at h
        generalize f_X12_number_L5 J61 a2 fu5 = R5 at K5 h
        refine xx_aload_n C 6 rfl 0 dX12_number_5 rfl rfl ?_
        refine xx_geti (fi := 19) (j := 19) C 9 rfl (by decide) (ceM_0 _ _ _) rfl in_X12 (by decide) rfl w_1198 dX12_number_6 h (fun v6 h => ?_)
        refine xx_if_ne (tgt := 61) C 12 rfl dX12_number_9 (by decide) h (fun h => ?_) (fun h => ?_)
        · refine xx_sub [0, 1, 3, 4] rfl ?_
          exact K61 x3_5 x4_5 μ5 h
        · refine xx_iload C 14 rfl 4 dX12_number_12 rfl ?_
          refine xx_iload_n C 15 rfl 2 dX12_number_14 rfl rfl ?_
          refine xx_icmp_ge (tgt := 61) C 18 rfl dX12_number_15 (by decide) h (fun h => ?_) (fun h => ?_)
          · refine xx_sub [0, 1, 3, 4] rfl ?_
            exact K61 x3_5 x4_5 μ5 h
          · refine xx_aload_n C 19 rfl 0 dX12_number_18 rfl rfl ?_
            refine xx_cVip (As := []) (st := []) (o := 0) C 22 rfl (by decide) (ceM_0 _ _ _) rfl rfl ca_X12_here cv_X12_here w_1484 rfl ⟨Nat.le_of_ble_eq_true rfl, Nat.le_of_ble_eq_true rfl⟩ ⟨Nat.le_of_ble_eq_true rfl, Nat.le_of_ble_eq_true rfl⟩ (Nat.le_of_ble_eq_true rfl) dX12_number_19 (fun v19 e9 => c_X12_here _ v19 e9) h (fun v19 h => ?_) rfl
            refine xx_bipush C 24 rfl dX12_number_22 (by decide) ?_
            refine xx_bipush C 26 rfl dX12_number_24 (by decide) ?_
            refine xx_cSip (As := [.int (iI v19), .int (iI 48), .int (iI 57)]) (st := []) C 29 rfl  ca_X12_in cs_X12_in w_1280 rfl ⟨Nat.le_of_ble_eq_true rfl, Nat.le_of_ble_eq_true rfl⟩ ⟨Nat.le_of_ble_eq_true rfl, Nat.le_of_ble_eq_true rfl⟩ (Nat.le_of_ble_eq_true rfl) dX12_number_26 (fun v26 e9 => c_X12_in _ _ _ _ v26 e9) h (fun v26 h => ?_) rfl
            refine xx_if_eq (tgt := 61) C 32 rfl dX12_number_29 (by decide) h (fun h => ?_) (fun h => ?_)
            · refine xx_sub [0, 1, 3, 4] rfl ?_
              exact K61 x3_5 x4_5 μ5 h
            · refine xx_bipush C 34 rfl dX12_number_32 (by decide) ?_
              refine xx_iload_n C 35 rfl 3 dX12_number_34 rfl rfl ?_
              refine xx_imul C 36 rfl dX12_number_35 ?_
              refine xx_aload_n C 37 rfl 0 dX12_number_36 rfl rfl ?_
              refine xx_cVip (As := []) (st := [.int (iI (10 * x3_5))]) (o := 0) C 40 rfl (by decide) (ceM_0 _ _ _) rfl rfl ca_X12_here cv_X12_here w_1484 rfl ⟨Nat.le_of_ble_eq_true rfl, Nat.le_of_ble_eq_true rfl⟩ ⟨Nat.le_of_ble_eq_true rfl, Nat.le_of_ble_eq_true rfl⟩ (Nat.le_of_ble_eq_true rfl) dX12_number_37 (fun v37 e9 => c_X12_here _ v37 e9) h (fun v37 h => ?_) rfl
              refine xx_iadd C 41 rfl dX12_number_40 ?_
              refine xx_bipush C 43 rfl dX12_number_41 (by decide) ?_
              refine xx_isub C 44 rfl dX12_number_43 ?_
              refine xx_nm C h (fun n44 h => ?_)
              refine xx_istore_n (lv1 := [(3, .int (iI n44)), (0, .ref (ad 0)), (1, .int (iI a1)), (2, .int (iI a2)), (4, .int (iI x4_5))]) C 45 rfl (by decide) dX12_number_44 rfl rfl ?_
              refine xx_aload_n C 46 rfl 1 dX12_number_45 rfl rfl ?_
              refine xx_dup C 47 rfl dX12_number_46 rfl ?_
              refine xx_geti (fi := 16) (j := 16) C 50 rfl (by decide) (ceM_0 _ _ _) rfl in_X12 (by decide) rfl w_1195 dX12_number_47 h (fun v47 h => ?_)
              refine xx_iconst C 51 rfl dX12_number_50 ?_
              refine xx_iadd C 52 rfl dX12_number_51 ?_
              refine xx_puti (fi := 16) (j := 16) C 55 rfl (by decide) (ceM_0 _ _ _) (puM_16 _ _ _ _) rfl in_X12 tyX12 tyX12_ok nmX12 (by decide) (Nat.le_of_ble_eq_true rfl) ⟨rfl, rfl⟩ w_1195 dX12_number_52 h (fun μ52 h => ?_)
              refine xx_iincn C 58 rfl 4 (by decide) dX12_number_55 rfl h (fun n55 h => ?_)
              refine xx_lv (lv1 := [(4, .int (iI n55)), (3, .int (iI n44)), (0, .ref (ad 0)), (1, .int (iI a1)), (2, .int (iI a2))]) rfl ?_
              refine xx_goto C 5 dX12_number_58 (by decide) ?_
              refine xx_sub [2, 3, 4, 1, 0] rfl ?_
              exact K5 n44 n55 μ52 h
    refine xx_sub [2, 3, 4, 1, 0] rfl ?_
    exact L5 _ _ _ _ h

def f_X12_letter (μ : mu_T) (a1 : Int) : Option mu_T :=
  nm_ (μ 0 19) (fun v2 => jn_ (φ := Int → Option mu_T) (fun s0_27 => wz_ μ 0 19 s0_27 (fun μ27 => bd_ (f_X12_here μ27) (fun v33 => bd_ (f_X12_tells μ27 a1 (v33 - 97)) (fun μ39 => nm_ (μ39 0 16) (fun v44 => nm_ (μ39 0 19) (fun v48 => eq_ v48 0
      (wf_ μ39 0 16 (v44 + 1) (fun μ60 => some μ60))
      (wf_ μ39 0 16 (v44 + 0) (fun μ60 => some μ60))))))))
      (fun J27 => jn_ (φ := Unit → Option mu_T) (fun _ => J27 1)
      (fun J22 => eq_ v2 0
      (bd_ (f_X12_here μ) (fun v9 => bd_ (f_X12_in μ v9 97 102) (fun v16 => eq_ v16 0
      (J22 ())
      (J27 0))))
      (J22 ()))))
set_option maxHeartbeats 4000000 in
set_option maxRecDepth 100000 in
theorem c_X12_letter {G : gp_} {ad : Nat → Nat} (μ : mu_T) (a1 : Int) (μr : mu_T) (h : f_X12_letter μ a1 = some μr) : mv_ yX12_letter cX12_letter 2 ({ frames := 1, cells := 0, slots := 0, locals := 22 } : Room) G 9 ad (ceM G ad) [.ref (ad 0), .int (iI a1)] μ μr := by
  refine mv_in (own := "UrnHeapModel") (lv := [(0, .ref (ad 0)), (1, .int (iI a1))]) (by decide) rfl rfl (Nat.le_of_ble_eq_true rfl) (fun X C E => ?_)
  unfold f_X12_letter at h
  refine xx_aload_n C 1 rfl 0 dX12_letter_0 rfl rfl ?_
  refine xx_aload_n C 2 rfl 0 dX12_letter_1 rfl rfl ?_
  refine xx_geti (fi := 19) (j := 19) C 5 rfl (by decide) (ceM_0 _ _ _) rfl in_X12 (by decide) rfl w_1198 dX12_letter_2 h (fun v2 h => ?_)
  refine jn_r (fun J => ∀ (s0_27 : Int), J s0_27 = some μr → wx_ G X 9 ad (ceM G ad) μ 0 0 27 [(0, .ref (ad 0)), (1, .int (iI a1))] [.int (iI s0_27), .ref (ad 0)]) h (fun s0_27 h => ?_) (fun J27 K27 h => ?_)
  · refine xx_putz (fi := 19) (j := 19) C 30 rfl (by decide) (ceM_0 _ _ _) (puM_19 _ _ _ _) rfl in_X12 tyX12 tyX12_ok nmX12 (by decide) (Nat.le_of_ble_eq_true rfl) ⟨rfl, rfl⟩ w_1198 dX12_letter_27 h (fun μ27 h => ?_)
    refine xx_aload_n C 31 rfl 0 dX12_letter_30 rfl rfl ?_
    refine xx_iload_n C 32 rfl 1 dX12_letter_31 rfl rfl ?_
    refine xx_aload_n C 33 rfl 0 dX12_letter_32 rfl rfl ?_
    refine xx_cVip (As := []) (st := [.int (iI a1), .ref (ad 0)]) (o := 0) C 36 rfl (by decide) (ceM_0 _ _ _) rfl rfl ca_X12_here cv_X12_here w_1484 rfl ⟨Nat.le_of_ble_eq_true rfl, Nat.le_of_ble_eq_true rfl⟩ ⟨Nat.le_of_ble_eq_true rfl, Nat.le_of_ble_eq_true rfl⟩ (Nat.le_of_ble_eq_true rfl) dX12_letter_33 (fun v33 e9 => c_X12_here _ v33 e9) h (fun v33 h => ?_) rfl
    refine xx_bipush C 38 rfl dX12_letter_36 (by decide) ?_
    refine xx_isub C 39 rfl dX12_letter_38 ?_
    refine xx_cVv (As := [.int (iI a1), .int (iI (v33 - 97))]) (st := []) (o := 0) C 42 rfl (by decide) (ceM_0 _ _ _) rfl rfl ca_X12_tells cv_X12_tells w_1492 rfl ⟨Nat.le_of_ble_eq_true rfl, Nat.le_of_ble_eq_true rfl⟩ ⟨Nat.le_of_ble_eq_true rfl, Nat.le_of_ble_eq_true rfl⟩ (Nat.le_of_ble_eq_true rfl) dX12_letter_39 (fun μ39 e9 => c_X12_tells _ _ _ μ39 e9) h (fun μ39 h => ?_) rfl
    refine xx_aload_n C 43 rfl 0 dX12_letter_42 rfl rfl ?_
    refine xx_dup C 44 rfl dX12_letter_43 rfl ?_
    refine xx_geti (fi := 16) (j := 16) C 47 rfl (by decide) (ceM_0 _ _ _) rfl in_X12 (by decide) rfl w_1195 dX12_letter_44 h (fun v44 h => ?_)
    refine xx_aload_n C 48 rfl 0 dX12_letter_47 rfl rfl ?_
    refine xx_geti (fi := 19) (j := 19) C 51 rfl (by decide) (ceM_0 _ _ _) rfl in_X12 (by decide) rfl w_1198 dX12_letter_48 h (fun v48 h => ?_)
    refine xx_if_eq (tgt := 58) C 54 rfl dX12_letter_51 (by decide) h (fun h => ?_) (fun h => ?_)
    · refine xx_iconst C 59 rfl dX12_letter_58 ?_
      refine xx_iadd C 60 rfl dX12_letter_59 ?_
      refine xx_puti (fi := 16) (j := 16) C 63 rfl (by decide) (ceM_0 _ _ _) (puM_16 _ _ _ _) rfl in_X12 tyX12 tyX12_ok nmX12 (by decide) (Nat.le_of_ble_eq_true rfl) ⟨rfl, rfl⟩ w_1195 dX12_letter_60 h (fun μ60 h => ?_)
      exact xx_vret C E rfl ⟨Nat.le_of_ble_eq_true rfl, Nat.le_of_ble_eq_true rfl⟩ dX12_letter_63 h
    · refine xx_iconst C 55 rfl dX12_letter_54 ?_
      refine xx_goto C 59 dX12_letter_55 (by decide) ?_
      refine xx_iadd C 60 rfl dX12_letter_59 ?_
      refine xx_puti (fi := 16) (j := 16) C 63 rfl (by decide) (ceM_0 _ _ _) (puM_16 _ _ _ _) rfl in_X12 tyX12 tyX12_ok nmX12 (by decide) (Nat.le_of_ble_eq_true rfl) ⟨rfl, rfl⟩ w_1195 dX12_letter_60 h (fun μ60 h => ?_)
      exact xx_vret C E rfl ⟨Nat.le_of_ble_eq_true rfl, Nat.le_of_ble_eq_true rfl⟩ dX12_letter_63 h
  · refine jn_r (fun J => ∀ (_u : Unit), J _u = some μr → wx_ G X 9 ad (ceM G ad) μ 0 0 22 [(0, .ref (ad 0)), (1, .int (iI a1))] [.ref (ad 0)]) h (fun _ h => ?_) (fun J22 K22 h => ?_)
    · refine xx_iconst C 23 rfl dX12_letter_22 ?_
      refine xx_goto C 27 dX12_letter_23 (by decide) ?_
      exact K27 1 h
    · refine xx_if_ne (tgt := 22) C 8 rfl dX12_letter_5 (by decide) h (fun h => ?_) (fun h => ?_)
      · exact K22 () h
      · refine xx_aload_n C 9 rfl 0 dX12_letter_8 rfl rfl ?_
        refine xx_cVip (As := []) (st := [.ref (ad 0)]) (o := 0) C 12 rfl (by decide) (ceM_0 _ _ _) rfl rfl ca_X12_here cv_X12_here w_1484 rfl ⟨Nat.le_of_ble_eq_true rfl, Nat.le_of_ble_eq_true rfl⟩ ⟨Nat.le_of_ble_eq_true rfl, Nat.le_of_ble_eq_true rfl⟩ (Nat.le_of_ble_eq_true rfl) dX12_letter_9 (fun v9 e9 => c_X12_here _ v9 e9) h (fun v9 h => ?_) rfl
        refine xx_bipush C 14 rfl dX12_letter_12 (by decide) ?_
        refine xx_bipush C 16 rfl dX12_letter_14 (by decide) ?_
        refine xx_cSip (As := [.int (iI v9), .int (iI 97), .int (iI 102)]) (st := [.ref (ad 0)]) C 19 rfl  ca_X12_in cs_X12_in w_1280 rfl ⟨Nat.le_of_ble_eq_true rfl, Nat.le_of_ble_eq_true rfl⟩ ⟨Nat.le_of_ble_eq_true rfl, Nat.le_of_ble_eq_true rfl⟩ (Nat.le_of_ble_eq_true rfl) dX12_letter_16 (fun v16 e9 => c_X12_in _ _ _ _ v16 e9) h (fun v16 h => ?_) rfl
        refine xx_if_ne (tgt := 26) C 22 rfl dX12_letter_19 (by decide) h (fun h => ?_) (fun h => ?_)
        · refine xx_iconst C 27 rfl dX12_letter_26 ?_
          exact K27 0 h
        · exact K22 () h

def f_X12_word_L2 (a1 : Int) : Nat → Int → mu_T → Option mu_T
  | 0, _, _ => none
  | fu2 + 1, x2_2, μ2 => gd_ (0 ≤ a1 ∧ a1 < 21) (bd_ (f_J0_length_8abf5 μ2 a1) (fun v4 => lt_ x2_2 v4
      (nm_ (μ2 0 19) (fun v11 => eq_ v11 0
      (bd_ (f_X12_here μ2) (fun v19 => gd_ (0 ≤ a1 ∧ a1 < 21) (bd_ (f_J0_charAt_5068e μ2 a1 x2_2) (fun v24 => jn_ (φ := Int → Option mu_T) (fun s0_35 => wz_ μ2 0 19 s0_35 (fun μ35 => nm_ (μ35 0 16) (fun v40 => nm_ (μ35 0 19) (fun v44 => jn_ (φ := Int → Option mu_T) (fun s0_55 => wf_ μ35 0 16 (v40 + s0_55) (fun μ56 => nm_ (x2_2 + 1) (fun n59 => (f_X12_word_L2 a1 fu2) n59 μ56)))
      (fun J55 => eq_ v44 0
      (J55 1)
      (J55 0))))))
      (fun J35 => eq_ v19 v24
      (J35 0)
      (J35 1))))))
      (some μ2)))
      (some μ2)))
def f_X12_word (μ : mu_T) (a1 : Int) : Option mu_T :=
  f_X12_word_L2 a1 20000 0 μ
set_option maxHeartbeats 4000000 in
set_option maxRecDepth 100000 in
theorem c_X12_word {G : gp_} {ad : Nat → Nat} (μ : mu_T) (a1 : Int) (μr : mu_T) (h : f_X12_word μ a1 = some μr) : mv_ yX12_word cX12_word 3 ({ frames := 4, cells := 0, slots := 0, locals := 85 } : Room) G 9 ad (ceM G ad) [.ref (ad 0), .ref (G.2.1 (200 + (a1 : Int).toNat))] μ μr := by
  refine mv_in (own := "UrnHeapModel") (lv := [(0, .ref (ad 0)), (1, .ref (G.2.1 (200 + (a1 : Int).toNat)))]) (by decide) rfl rfl (Nat.le_of_ble_eq_true rfl) (fun X C E => ?_)
  unfold f_X12_word at h
  refine xx_iconst C 1 rfl dX12_word_0 ?_
  refine xx_istore_n (lv1 := [(2, .int (iI 0)), (0, .ref (ad 0)), (1, .ref (G.2.1 (200 + (a1 : Int).toNat)))]) C 2 rfl (by decide) dX12_word_1 rfl rfl ?_
  have L2 : ∀ (fu2 : Nat) (x2_2 : Int) (μ2 : mu_T), f_X12_word_L2 a1 fu2 x2_2 μ2 = some μr → wx_ G X 9 ad (ceM G ad) μ2 0 0 2 [(0, .ref (ad 0)), (1, .ref (G.2.1 (200 + (a1 : Int).toNat))), (2, .int (iI x2_2))] [] := by
    intro fu2
    induction fu2 with
    | zero => intro x2_2 μ2 h; exact nn_ h
    | succ fu2 K2 =>
      intro x2_2 μ2 h
      rw [f_X12_word_L2] at h
      generalize f_X12_word_L2 a1 fu2 = R2 at K2 h
      refine xx_iload_n C 3 rfl 2 dX12_word_2 rfl rfl ?_
      refine xx_aload_n C 4 rfl 1 dX12_word_3 rfl rfl ?_
      refine xx_cKip (As := []) (st := [.int (iI x2_2)]) (z := a1) C 7 rfl rfl ca_J0_length_8abf5 cv_J0_length_8abf5 w_1501 rfl ⟨Nat.le_of_ble_eq_true rfl, Nat.le_of_ble_eq_true rfl⟩ ⟨Nat.le_of_ble_eq_true rfl, Nat.le_of_ble_eq_true rfl⟩ (Nat.le_of_ble_eq_true rfl) dX12_word_4 (fun v4 e9 => c_J0_length_8abf5 _ _ v4 e9) h (fun v4 h => ?_) rfl
      refine xx_icmp_ge (tgt := 65) C 10 rfl dX12_word_7 (by decide) h (fun h => ?_) (fun h => ?_)
      · exact xx_vret C E rfl ⟨Nat.le_of_ble_eq_true rfl, Nat.le_of_ble_eq_true rfl⟩ dX12_word_65 h
      · refine xx_aload_n C 11 rfl 0 dX12_word_10 rfl rfl ?_
        refine xx_geti (fi := 19) (j := 19) C 14 rfl (by decide) (ceM_0 _ _ _) rfl in_X12 (by decide) rfl w_1198 dX12_word_11 h (fun v11 h => ?_)
        refine xx_if_ne (tgt := 65) C 17 rfl dX12_word_14 (by decide) h (fun h => ?_) (fun h => ?_)
        · exact xx_vret C E rfl ⟨Nat.le_of_ble_eq_true rfl, Nat.le_of_ble_eq_true rfl⟩ dX12_word_65 h
        · refine xx_aload_n C 18 rfl 0 dX12_word_17 rfl rfl ?_
          refine xx_aload_n C 19 rfl 0 dX12_word_18 rfl rfl ?_
          refine xx_cVip (As := []) (st := [.ref (ad 0)]) (o := 0) C 22 rfl (by decide) (ceM_0 _ _ _) rfl rfl ca_X12_here cv_X12_here w_1484 rfl ⟨Nat.le_of_ble_eq_true rfl, Nat.le_of_ble_eq_true rfl⟩ ⟨Nat.le_of_ble_eq_true rfl, Nat.le_of_ble_eq_true rfl⟩ (Nat.le_of_ble_eq_true rfl) dX12_word_19 (fun v19 e9 => c_X12_here _ v19 e9) h (fun v19 h => ?_) rfl
          refine xx_aload_n C 23 rfl 1 dX12_word_22 rfl rfl ?_
          refine xx_iload_n C 24 rfl 2 dX12_word_23 rfl rfl ?_
          refine xx_cKip (As := [.int (iI x2_2)]) (st := [.int (iI v19), .ref (ad 0)]) (z := a1) C 27 rfl rfl ca_J0_charAt_5068e cv_J0_charAt_5068e w_1502 rfl ⟨Nat.le_of_ble_eq_true rfl, Nat.le_of_ble_eq_true rfl⟩ ⟨Nat.le_of_ble_eq_true rfl, Nat.le_of_ble_eq_true rfl⟩ (Nat.le_of_ble_eq_true rfl) dX12_word_24 (fun v24 e9 => c_J0_charAt_5068e _ _ _ v24 e9) h (fun v24 h => ?_) rfl
          refine jn_r (fun J => ∀ (s0_35 : Int), J s0_35 = some μr → wx_ G X 9 ad (ceM G ad) μ2 0 0 35 [(0, .ref (ad 0)), (1, .ref (G.2.1 (200 + (a1 : Int).toNat))), (2, .int (iI x2_2))] [.int (iI s0_35), .ref (ad 0)]) h (fun s0_35 h => ?_) (fun J35 K35 h => ?_)
          · refine xx_putz (fi := 19) (j := 19) C 38 rfl (by decide) (ceM_0 _ _ _) (puM_19 _ _ _ _) rfl in_X12 tyX12 tyX12_ok nmX12 (by decide) (Nat.le_of_ble_eq_true rfl) ⟨rfl, rfl⟩ w_1198 dX12_word_35 h (fun μ35 h => ?_)
            refine xx_aload_n C 39 rfl 0 dX12_word_38 rfl rfl ?_
            refine xx_dup C 40 rfl dX12_word_39 rfl ?_
            refine xx_geti (fi := 16) (j := 16) C 43 rfl (by decide) (ceM_0 _ _ _) rfl in_X12 (by decide) rfl w_1195 dX12_word_40 h (fun v40 h => ?_)
            refine xx_aload_n C 44 rfl 0 dX12_word_43 rfl rfl ?_
            refine xx_geti (fi := 19) (j := 19) C 47 rfl (by decide) (ceM_0 _ _ _) rfl in_X12 (by decide) rfl w_1198 dX12_word_44 h (fun v44 h => ?_)
            refine jn_r (fun J => ∀ (s0_55 : Int), J s0_55 = some μr → wx_ G X 9 ad (ceM G ad) μ35 0 0 55 [(0, .ref (ad 0)), (1, .ref (G.2.1 (200 + (a1 : Int).toNat))), (2, .int (iI x2_2))] [.int (iI s0_55), .int (iI v40), .ref (ad 0)]) h (fun s0_55 h => ?_) (fun J55 K55 h => ?_)
            · refine xx_iadd C 56 rfl dX12_word_55 ?_
              refine xx_puti (fi := 16) (j := 16) C 59 rfl (by decide) (ceM_0 _ _ _) (puM_16 _ _ _ _) rfl in_X12 tyX12 tyX12_ok nmX12 (by decide) (Nat.le_of_ble_eq_true rfl) ⟨rfl, rfl⟩ w_1195 dX12_word_56 h (fun μ56 h => ?_)
              refine xx_iincn C 62 rfl 2 (by decide) dX12_word_59 rfl h (fun n59 h => ?_)
              refine xx_lv (lv1 := [(2, .int (iI n59)), (0, .ref (ad 0)), (1, .ref (G.2.1 (200 + (a1 : Int).toNat)))]) rfl ?_
              refine xx_goto C 2 dX12_word_62 (by decide) ?_
              refine xx_sub [1, 2, 0] rfl ?_
              exact K2 n59 μ56 h
            · refine xx_if_eq (tgt := 54) C 50 rfl dX12_word_47 (by decide) h (fun h => ?_) (fun h => ?_)
              · refine xx_iconst C 55 rfl dX12_word_54 ?_
                exact K55 1 h
              · refine xx_iconst C 51 rfl dX12_word_50 ?_
                refine xx_goto C 55 dX12_word_51 (by decide) ?_
                exact K55 0 h
          · refine xx_icmp_eq (tgt := 34) C 30 rfl dX12_word_27 (by decide) h (fun h => ?_) (fun h => ?_)
            · refine xx_iconst C 35 rfl dX12_word_34 ?_
              exact K35 0 h
            · refine xx_iconst C 31 rfl dX12_word_30 ?_
              refine xx_goto C 35 dX12_word_31 (by decide) ?_
              exact K35 1 h
  refine xx_sub [1, 2, 0] rfl ?_
  exact L2 _ _ _ h

def f_X12_slotOf (μ : mu_T) (a1 : Int) : Option mu_T :=
  bd_ (f_X12_word μ a1) (fun μ2 => bd_ (f_X12_number μ2 1 2) (fun μ8 => bd_ (f_X12_word μ8 12) (fun μ14 => bd_ (f_X12_number μ14 2 1) (fun μ20 => some μ20))))
set_option maxHeartbeats 4000000 in
set_option maxRecDepth 100000 in
theorem c_X12_slotOf {G : gp_} {ad : Nat → Nat} (μ : mu_T) (a1 : Int) (μr : mu_T) (h : f_X12_slotOf μ a1 = some μr) : mv_ yX12_slotOf cX12_slotOf 2 ({ frames := 5, cells := 0, slots := 0, locals := 107 } : Room) G 9 ad (ceM G ad) [.ref (ad 0), .ref (G.2.1 (200 + (a1 : Int).toNat))] μ μr := by
  refine mv_in (own := "UrnHeapModel") (lv := [(0, .ref (ad 0)), (1, .ref (G.2.1 (200 + (a1 : Int).toNat)))]) (by decide) rfl rfl (Nat.le_of_ble_eq_true rfl) (fun X C E => ?_)
  unfold f_X12_slotOf at h
  refine xx_aload_n C 1 rfl 0 dX12_slotOf_0 rfl rfl ?_
  refine xx_aload_n C 2 rfl 1 dX12_slotOf_1 rfl rfl ?_
  refine xx_cVv (As := [.ref (G.2.1 (200 + (a1 : Int).toNat))]) (st := []) (o := 0) C 5 rfl (by decide) (ceM_0 _ _ _) rfl rfl ca_X12_word cv_X12_word w_1497 rfl ⟨Nat.le_of_ble_eq_true rfl, Nat.le_of_ble_eq_true rfl⟩ ⟨Nat.le_of_ble_eq_true rfl, Nat.le_of_ble_eq_true rfl⟩ (Nat.le_of_ble_eq_true rfl) dX12_slotOf_2 (fun μ2 e9 => c_X12_word _ _ μ2 e9) h (fun μ2 h => ?_) rfl
  refine xx_aload_n C 6 rfl 0 dX12_slotOf_5 rfl rfl ?_
  refine xx_iconst C 7 rfl dX12_slotOf_6 ?_
  refine xx_iconst C 8 rfl dX12_slotOf_7 ?_
  refine xx_cVv (As := [.int (iI 1), .int (iI 2)]) (st := []) (o := 0) C 11 rfl (by decide) (ceM_0 _ _ _) rfl rfl ca_X12_number cv_X12_number w_1508 rfl ⟨Nat.le_of_ble_eq_true rfl, Nat.le_of_ble_eq_true rfl⟩ ⟨Nat.le_of_ble_eq_true rfl, Nat.le_of_ble_eq_true rfl⟩ (Nat.le_of_ble_eq_true rfl) dX12_slotOf_8 (fun μ8 e9 => c_X12_number _ _ _ μ8 e9) h (fun μ8 h => ?_) rfl
  refine xx_aload_n C 12 rfl 0 dX12_slotOf_11 rfl rfl ?_
  refine xx_ldcs C 14 rfl 2 rfl rfl dX12_slotOf_12 ?_
  refine xx_cVv (As := [.ref (G.2.1 (200 + (12 : Int).toNat))]) (st := []) (o := 0) C 17 rfl (by decide) (ceM_0 _ _ _) rfl rfl ca_X12_word cv_X12_word w_1497 rfl ⟨Nat.le_of_ble_eq_true rfl, Nat.le_of_ble_eq_true rfl⟩ ⟨Nat.le_of_ble_eq_true rfl, Nat.le_of_ble_eq_true rfl⟩ (Nat.le_of_ble_eq_true rfl) dX12_slotOf_14 (fun μ14 e9 => c_X12_word _ _ μ14 e9) h (fun μ14 h => ?_) rfl
  refine xx_aload_n C 18 rfl 0 dX12_slotOf_17 rfl rfl ?_
  refine xx_iconst C 19 rfl dX12_slotOf_18 ?_
  refine xx_iconst C 20 rfl dX12_slotOf_19 ?_
  refine xx_cVv (As := [.int (iI 2), .int (iI 1)]) (st := []) (o := 0) C 23 rfl (by decide) (ceM_0 _ _ _) rfl rfl ca_X12_number cv_X12_number w_1508 rfl ⟨Nat.le_of_ble_eq_true rfl, Nat.le_of_ble_eq_true rfl⟩ ⟨Nat.le_of_ble_eq_true rfl, Nat.le_of_ble_eq_true rfl⟩ (Nat.le_of_ble_eq_true rfl) dX12_slotOf_20 (fun μ20 e9 => c_X12_number _ _ _ μ20 e9) h (fun μ20 h => ?_) rfl
  exact xx_vret C E rfl ⟨Nat.le_of_ble_eq_true rfl, Nat.le_of_ble_eq_true rfl⟩ dX12_slotOf_23 h

def f_X12_readsOne (μ : mu_T)  : Option mu_T :=
  bd_ (f_X12_here μ) (fun v1 => jn_ (φ := Int → Option mu_T) (fun s0_46 => bd_ (f_X12_tells μ 0 s0_46) (fun μ50 => jn_ (φ := mu_T → Option mu_T) (fun μ340 => nm_ (μ340 0 18) (fun v342 => wf_ μ340 0 18 (v342 + 1) (fun μ347 => some μ347)))
      (fun J340 => ts_ s0_46 [117, 116, 118, 110, 100, 119, 114, 115, 105] [bd_ (f_X12_word μ50 10) (fun μ151 => nm_ (μ151 0 19) (fun v157 => jn_ (φ := Int → Option mu_T) (fun s0_177 => bd_ (f_X12_tells μ151 1 s0_177) (fun μ177 => nm_ (μ177 0 16) (fun v182 => nm_ (μ177 0 18) (fun v191 => rd_ μ177 6 80 ((4 * v191) + 1) (fun v197 => wf_ μ177 0 16 (v182 + v197) (fun μ199 => J340 μ199))))))
      (fun J177 => jn_ (φ := Unit → Option mu_T) (fun _ => J177 0)
      (fun J176 => eq_ v157 0
      (bd_ (f_X12_here μ151) (fun v164 => eq_ v164 33
      (J177 1)
      (J176 ())))
      (J176 ()))))),
      bd_ (f_X12_slotOf μ50 11) (fun μ208 => bd_ (f_X12_word μ208 13) (fun μ214 => bd_ (f_X12_number μ214 3 2) (fun μ220 => J340 μ220))),
      bd_ (f_X12_slotOf μ50 14) (fun μ229 => J340 μ229),
      bd_ (f_X12_word μ50 15) (fun μ238 => bd_ (f_X12_letter μ238 1) (fun μ243 => bd_ (f_X12_word μ243 13) (fun μ249 => bd_ (f_X12_number μ249 2 2) (fun μ255 => J340 μ255)))),
      bd_ (f_X12_word μ50 16) (fun μ264 => bd_ (f_X12_letter μ264 1) (fun μ269 => J340 μ269)),
      bd_ (f_X12_word μ50 17) (fun μ278 => bd_ (f_X12_number μ278 1 2) (fun μ284 => bd_ (f_X12_word μ284 13) (fun μ290 => bd_ (f_X12_number μ290 2 2) (fun μ296 => J340 μ296)))),
      bd_ (f_X12_word μ50 18) (fun μ305 => J340 μ305),
      bd_ (f_X12_word μ50 19) (fun μ314 => bd_ (f_X12_number μ314 1 2) (fun μ320 => J340 μ320)),
      bd_ (f_X12_word μ50 20) (fun μ329 => J340 μ329)]
      (wz_ μ50 0 19 1 (fun μ337 => J340 μ337)))))
      (fun J46 => jn_ (φ := Unit → Option mu_T) (fun _ => jn_ (φ := Unit → Option mu_T) (fun _ => J46 v1)
      (fun J45 => eq_ v1 114
      (bd_ (f_X12_next μ) (fun v32 => eq_ v32 105
      (J46 105)
      (J45 ())))
      (J45 ())))
      (fun J25 => eq_ v1 117
      (bd_ (f_X12_next μ) (fun v12 => eq_ v12 110
      (J46 118)
      (J25 ())))
      (J25 ()))))
set_option maxHeartbeats 4000000 in
set_option maxRecDepth 100000 in
theorem c_X12_readsOne {G : gp_} {ad : Nat → Nat} (μ : mu_T)  (μr : mu_T) (h : f_X12_readsOne μ  = some μr) : mv_ yX12_readsOne cX12_readsOne 3 ({ frames := 6, cells := 0, slots := 0, locals := 128 } : Room) G 9 ad (ceM G ad) [.ref (ad 0)] μ μr := by
  refine mv_in (own := "UrnHeapModel") (lv := [(0, .ref (ad 0))]) (by decide) rfl rfl (Nat.le_of_ble_eq_true rfl) (fun X C E => ?_)
  unfold f_X12_readsOne at h
  refine xx_aload_n C 1 rfl 0 dX12_readsOne_0 rfl rfl ?_
  refine xx_cVip (As := []) (st := []) (o := 0) C 4 rfl (by decide) (ceM_0 _ _ _) rfl rfl ca_X12_here cv_X12_here w_1484 rfl ⟨Nat.le_of_ble_eq_true rfl, Nat.le_of_ble_eq_true rfl⟩ ⟨Nat.le_of_ble_eq_true rfl, Nat.le_of_ble_eq_true rfl⟩ (Nat.le_of_ble_eq_true rfl) dX12_readsOne_1 (fun v1 e9 => c_X12_here _ v1 e9) h (fun v1 h => ?_) rfl
  refine xx_istore_n (lv1 := [(1, .int (iI v1)), (0, .ref (ad 0))]) C 5 rfl (by decide) dX12_readsOne_4 rfl rfl ?_
  refine xx_iload_n C 6 rfl 0 dX12_readsOne_5 rfl rfl ?_
  refine xx_bipush C 8 rfl dX12_readsOne_6 (by decide) ?_
  refine jn_r (fun J => ∀ (s0_46 : Int), J s0_46 = some μr → wx_ G X 9 ad (ceM G ad) μ 0 0 46 [(0, .ref (ad 0))] [.int (iI s0_46)]) h (fun s0_46 h => ?_) (fun J46 K46 h => ?_)
  · refine xx_istore_n (lv1 := [(2, .int (iI s0_46)), (0, .ref (ad 0))]) C 47 rfl (by decide) dX12_readsOne_46 rfl rfl ?_
    refine xx_aload_n C 48 rfl 1 dX12_readsOne_47 rfl rfl ?_
    refine xx_iconst C 49 rfl dX12_readsOne_48 ?_
    refine xx_iload_n C 50 rfl 0 dX12_readsOne_49 rfl rfl ?_
    refine xx_cVv (As := [.int (iI 0), .int (iI s0_46)]) (st := []) (o := 0) C 53 rfl (by decide) (ceM_0 _ _ _) rfl rfl ca_X12_tells cv_X12_tells w_1492 rfl ⟨Nat.le_of_ble_eq_true rfl, Nat.le_of_ble_eq_true rfl⟩ ⟨Nat.le_of_ble_eq_true rfl, Nat.le_of_ble_eq_true rfl⟩ (Nat.le_of_ble_eq_true rfl) dX12_readsOne_50 (fun μ50 e9 => c_X12_tells _ _ _ μ50 e9) h (fun μ50 h => ?_) rfl
    refine xx_iload_n C 54 rfl 0 dX12_readsOne_53 rfl rfl ?_
    refine jn_r (fun J => ∀ (μ340 : mu_T), J μ340 = some μr → wx_ G X 9 ad (ceM G ad) μ340 0 0 340 [(0, .ref (ad 0))] []) h (fun μ340 h => ?_) (fun J340 K340 h => ?_)
    · refine xx_aload_n C 341 rfl 0 dX12_readsOne_340 rfl rfl ?_
      refine xx_dup C 342 rfl dX12_readsOne_341 rfl ?_
      refine xx_geti (fi := 18) (j := 18) C 345 rfl (by decide) (ceM_0 _ _ _) rfl in_X12 (by decide) rfl w_1197 dX12_readsOne_342 h (fun v342 h => ?_)
      refine xx_iconst C 346 rfl dX12_readsOne_345 ?_
      refine xx_iadd C 347 rfl dX12_readsOne_346 ?_
      refine xx_puti (fi := 18) (j := 18) C 350 rfl (by decide) (ceM_0 _ _ _) (puM_18 _ _ _ _) rfl in_X12 tyX12 tyX12_ok nmX12 (by decide) (Nat.le_of_ble_eq_true rfl) ⟨rfl, rfl⟩ w_1197 dX12_readsOne_347 h (fun μ347 h => ?_)
      exact xx_vret C E rfl ⟨Nat.le_of_ble_eq_true rfl, Nat.le_of_ble_eq_true rfl⟩ dX12_readsOne_350 h
    · refine xx_tsw C [117, 116, 118, 110, 100, 119, 114, 115, 105] _ [148, 205, 226, 235, 261, 275, 302, 311, 326] 335 dX12_readsOne_54 (by decide) rfl h (fun h => ?_) ⟨fun h => ?_, fun h => ?_, fun h => ?_, fun h => ?_, fun h => ?_, fun h => ?_, fun h => ?_, fun h => ?_, fun h => ?_, trivial⟩
      · refine xx_aload_n C 336 rfl 1 dX12_readsOne_335 rfl rfl ?_
        refine xx_iconst C 337 rfl dX12_readsOne_336 ?_
        refine xx_putz (fi := 19) (j := 19) C 340 rfl (by decide) (ceM_0 _ _ _) (puM_19 _ _ _ _) rfl in_X12 tyX12 tyX12_ok nmX12 (by decide) (Nat.le_of_ble_eq_true rfl) ⟨rfl, rfl⟩ w_1198 dX12_readsOne_337 h (fun μ337 h => ?_)
        refine xx_sub [1] rfl ?_
        exact K340 μ337 h
      · refine xx_aload_n C 149 rfl 1 dX12_readsOne_148 rfl rfl ?_
        refine xx_ldcs C 151 rfl 0 rfl rfl dX12_readsOne_149 ?_
        refine xx_cVv (As := [.ref (G.2.1 (200 + (10 : Int).toNat))]) (st := []) (o := 0) C 154 rfl (by decide) (ceM_0 _ _ _) rfl rfl ca_X12_word cv_X12_word w_1497 rfl ⟨Nat.le_of_ble_eq_true rfl, Nat.le_of_ble_eq_true rfl⟩ ⟨Nat.le_of_ble_eq_true rfl, Nat.le_of_ble_eq_true rfl⟩ (Nat.le_of_ble_eq_true rfl) dX12_readsOne_151 (fun μ151 e9 => c_X12_word _ _ μ151 e9) h (fun μ151 h => ?_) rfl
        refine xx_aload_n C 155 rfl 1 dX12_readsOne_154 rfl rfl ?_
        refine xx_iconst C 156 rfl dX12_readsOne_155 ?_
        refine xx_aload_n C 157 rfl 1 dX12_readsOne_156 rfl rfl ?_
        refine xx_geti (fi := 19) (j := 19) C 160 rfl (by decide) (ceM_0 _ _ _) rfl in_X12 (by decide) rfl w_1198 dX12_readsOne_157 h (fun v157 h => ?_)
        refine jn_r (fun J => ∀ (s0_177 : Int), J s0_177 = some μr → wx_ G X 9 ad (ceM G ad) μ151 0 0 177 [(0, .ref (ad 0))] [.int (iI s0_177), .int (iI 1), .ref (ad 0)]) h (fun s0_177 h => ?_) (fun J177 K177 h => ?_)
        · refine xx_cVv (As := [.int (iI 1), .int (iI s0_177)]) (st := []) (o := 0) C 180 rfl (by decide) (ceM_0 _ _ _) rfl rfl ca_X12_tells cv_X12_tells w_1492 rfl ⟨Nat.le_of_ble_eq_true rfl, Nat.le_of_ble_eq_true rfl⟩ ⟨Nat.le_of_ble_eq_true rfl, Nat.le_of_ble_eq_true rfl⟩ (Nat.le_of_ble_eq_true rfl) dX12_readsOne_177 (fun μ177 e9 => c_X12_tells _ _ _ μ177 e9) h (fun μ177 h => ?_) rfl
          refine xx_aload_n C 181 rfl 0 dX12_readsOne_180 rfl rfl ?_
          refine xx_dup C 182 rfl dX12_readsOne_181 rfl ?_
          refine xx_geti (fi := 16) (j := 16) C 185 rfl (by decide) (ceM_0 _ _ _) rfl in_X12 (by decide) rfl w_1195 dX12_readsOne_182 h (fun v182 h => ?_)
          refine xx_aload_n C 186 rfl 0 dX12_readsOne_185 rfl rfl ?_
          refine xx_getr (fi := 7) C 189 rfl (by decide) (ceM_0 _ _ _) rfl in_X12 (by decide) rfl w_1186 dX12_readsOne_186 ?_
          refine xx_iconst C 190 rfl dX12_readsOne_189 ?_
          refine xx_aload_n C 191 rfl 0 dX12_readsOne_190 rfl rfl ?_
          refine xx_geti (fi := 18) (j := 18) C 194 rfl (by decide) (ceM_0 _ _ _) rfl in_X12 (by decide) rfl w_1197 dX12_readsOne_191 h (fun v191 h => ?_)
          refine xx_imul C 195 rfl dX12_readsOne_194 ?_
          refine xx_iconst C 196 rfl dX12_readsOne_195 ?_
          refine xx_iadd C 197 rfl dX12_readsOne_196 ?_
          refine xx_iaload C 198 rfl (by decide) (fun _ => rfl) (by decide) dX12_readsOne_197 h (fun v197 h => ?_)
          refine xx_iadd C 199 rfl dX12_readsOne_198 ?_
          refine xx_puti (fi := 16) (j := 16) C 202 rfl (by decide) (ceM_0 _ _ _) (puM_16 _ _ _ _) rfl in_X12 tyX12 tyX12_ok nmX12 (by decide) (Nat.le_of_ble_eq_true rfl) ⟨rfl, rfl⟩ w_1195 dX12_readsOne_199 h (fun μ199 h => ?_)
          refine xx_goto C 340 dX12_readsOne_202 (by decide) ?_
          exact K340 μ199 h
        · refine jn_r (fun J => ∀ (_u : Unit), J _u = some μr → wx_ G X 9 ad (ceM G ad) μ151 0 0 176 [(0, .ref (ad 0))] [.int (iI 1), .ref (ad 0)]) h (fun _ h => ?_) (fun J176 K176 h => ?_)
          · refine xx_iconst C 177 rfl dX12_readsOne_176 ?_
            exact K177 0 h
          · refine xx_if_ne (tgt := 176) C 163 rfl dX12_readsOne_160 (by decide) h (fun h => ?_) (fun h => ?_)
            · refine xx_sub [1] rfl ?_
              exact K176 () h
            · refine xx_aload_n C 164 rfl 1 dX12_readsOne_163 rfl rfl ?_
              refine xx_cVip (As := []) (st := [.int (iI 1), .ref (ad 0)]) (o := 0) C 167 rfl (by decide) (ceM_0 _ _ _) rfl rfl ca_X12_here cv_X12_here w_1484 rfl ⟨Nat.le_of_ble_eq_true rfl, Nat.le_of_ble_eq_true rfl⟩ ⟨Nat.le_of_ble_eq_true rfl, Nat.le_of_ble_eq_true rfl⟩ (Nat.le_of_ble_eq_true rfl) dX12_readsOne_164 (fun v164 e9 => c_X12_here _ v164 e9) h (fun v164 h => ?_) rfl
              refine xx_bipush C 169 rfl dX12_readsOne_167 (by decide) ?_
              refine xx_icmp_ne (tgt := 176) C 172 rfl dX12_readsOne_169 (by decide) h (fun h => ?_) (fun h => ?_)
              · refine xx_sub [1] rfl ?_
                exact K176 () h
              · refine xx_iconst C 173 rfl dX12_readsOne_172 ?_
                refine xx_goto C 177 dX12_readsOne_173 (by decide) ?_
                refine xx_sub [1] rfl ?_
                exact K177 1 h
      · refine xx_aload_n C 206 rfl 1 dX12_readsOne_205 rfl rfl ?_
        refine xx_ldcs C 208 rfl 1 rfl rfl dX12_readsOne_206 ?_
        refine xx_cVv (As := [.ref (G.2.1 (200 + (11 : Int).toNat))]) (st := []) (o := 0) C 211 rfl (by decide) (ceM_0 _ _ _) rfl rfl ca_X12_slotOf cv_X12_slotOf w_1504 rfl ⟨Nat.le_of_ble_eq_true rfl, Nat.le_of_ble_eq_true rfl⟩ ⟨Nat.le_of_ble_eq_true rfl, Nat.le_of_ble_eq_true rfl⟩ (Nat.le_of_ble_eq_true rfl) dX12_readsOne_208 (fun μ208 e9 => c_X12_slotOf _ _ μ208 e9) h (fun μ208 h => ?_) rfl
        refine xx_aload_n C 212 rfl 1 dX12_readsOne_211 rfl rfl ?_
        refine xx_ldcs C 214 rfl 3 rfl rfl dX12_readsOne_212 ?_
        refine xx_cVv (As := [.ref (G.2.1 (200 + (13 : Int).toNat))]) (st := []) (o := 0) C 217 rfl (by decide) (ceM_0 _ _ _) rfl rfl ca_X12_word cv_X12_word w_1497 rfl ⟨Nat.le_of_ble_eq_true rfl, Nat.le_of_ble_eq_true rfl⟩ ⟨Nat.le_of_ble_eq_true rfl, Nat.le_of_ble_eq_true rfl⟩ (Nat.le_of_ble_eq_true rfl) dX12_readsOne_214 (fun μ214 e9 => c_X12_word _ _ μ214 e9) h (fun μ214 h => ?_) rfl
        refine xx_aload_n C 218 rfl 1 dX12_readsOne_217 rfl rfl ?_
        refine xx_iconst C 219 rfl dX12_readsOne_218 ?_
        refine xx_iconst C 220 rfl dX12_readsOne_219 ?_
        refine xx_cVv (As := [.int (iI 3), .int (iI 2)]) (st := []) (o := 0) C 223 rfl (by decide) (ceM_0 _ _ _) rfl rfl ca_X12_number cv_X12_number w_1508 rfl ⟨Nat.le_of_ble_eq_true rfl, Nat.le_of_ble_eq_true rfl⟩ ⟨Nat.le_of_ble_eq_true rfl, Nat.le_of_ble_eq_true rfl⟩ (Nat.le_of_ble_eq_true rfl) dX12_readsOne_220 (fun μ220 e9 => c_X12_number _ _ _ μ220 e9) h (fun μ220 h => ?_) rfl
        refine xx_goto C 340 dX12_readsOne_223 (by decide) ?_
        refine xx_sub [1] rfl ?_
        exact K340 μ220 h
      · refine xx_aload_n C 227 rfl 1 dX12_readsOne_226 rfl rfl ?_
        refine xx_ldcs C 229 rfl 4 rfl rfl dX12_readsOne_227 ?_
        refine xx_cVv (As := [.ref (G.2.1 (200 + (14 : Int).toNat))]) (st := []) (o := 0) C 232 rfl (by decide) (ceM_0 _ _ _) rfl rfl ca_X12_slotOf cv_X12_slotOf w_1504 rfl ⟨Nat.le_of_ble_eq_true rfl, Nat.le_of_ble_eq_true rfl⟩ ⟨Nat.le_of_ble_eq_true rfl, Nat.le_of_ble_eq_true rfl⟩ (Nat.le_of_ble_eq_true rfl) dX12_readsOne_229 (fun μ229 e9 => c_X12_slotOf _ _ μ229 e9) h (fun μ229 h => ?_) rfl
        refine xx_goto C 340 dX12_readsOne_232 (by decide) ?_
        refine xx_sub [1] rfl ?_
        exact K340 μ229 h
      · refine xx_aload_n C 236 rfl 1 dX12_readsOne_235 rfl rfl ?_
        refine xx_ldcs C 238 rfl 5 rfl rfl dX12_readsOne_236 ?_
        refine xx_cVv (As := [.ref (G.2.1 (200 + (15 : Int).toNat))]) (st := []) (o := 0) C 241 rfl (by decide) (ceM_0 _ _ _) rfl rfl ca_X12_word cv_X12_word w_1497 rfl ⟨Nat.le_of_ble_eq_true rfl, Nat.le_of_ble_eq_true rfl⟩ ⟨Nat.le_of_ble_eq_true rfl, Nat.le_of_ble_eq_true rfl⟩ (Nat.le_of_ble_eq_true rfl) dX12_readsOne_238 (fun μ238 e9 => c_X12_word _ _ μ238 e9) h (fun μ238 h => ?_) rfl
        refine xx_aload_n C 242 rfl 1 dX12_readsOne_241 rfl rfl ?_
        refine xx_iconst C 243 rfl dX12_readsOne_242 ?_
        refine xx_cVv (As := [.int (iI 1)]) (st := []) (o := 0) C 246 rfl (by decide) (ceM_0 _ _ _) rfl rfl ca_X12_letter cv_X12_letter w_1516 rfl ⟨Nat.le_of_ble_eq_true rfl, Nat.le_of_ble_eq_true rfl⟩ ⟨Nat.le_of_ble_eq_true rfl, Nat.le_of_ble_eq_true rfl⟩ (Nat.le_of_ble_eq_true rfl) dX12_readsOne_243 (fun μ243 e9 => c_X12_letter _ _ μ243 e9) h (fun μ243 h => ?_) rfl
        refine xx_aload_n C 247 rfl 1 dX12_readsOne_246 rfl rfl ?_
        refine xx_ldcs C 249 rfl 3 rfl rfl dX12_readsOne_247 ?_
        refine xx_cVv (As := [.ref (G.2.1 (200 + (13 : Int).toNat))]) (st := []) (o := 0) C 252 rfl (by decide) (ceM_0 _ _ _) rfl rfl ca_X12_word cv_X12_word w_1497 rfl ⟨Nat.le_of_ble_eq_true rfl, Nat.le_of_ble_eq_true rfl⟩ ⟨Nat.le_of_ble_eq_true rfl, Nat.le_of_ble_eq_true rfl⟩ (Nat.le_of_ble_eq_true rfl) dX12_readsOne_249 (fun μ249 e9 => c_X12_word _ _ μ249 e9) h (fun μ249 h => ?_) rfl
        refine xx_aload_n C 253 rfl 1 dX12_readsOne_252 rfl rfl ?_
        refine xx_iconst C 254 rfl dX12_readsOne_253 ?_
        refine xx_iconst C 255 rfl dX12_readsOne_254 ?_
        refine xx_cVv (As := [.int (iI 2), .int (iI 2)]) (st := []) (o := 0) C 258 rfl (by decide) (ceM_0 _ _ _) rfl rfl ca_X12_number cv_X12_number w_1508 rfl ⟨Nat.le_of_ble_eq_true rfl, Nat.le_of_ble_eq_true rfl⟩ ⟨Nat.le_of_ble_eq_true rfl, Nat.le_of_ble_eq_true rfl⟩ (Nat.le_of_ble_eq_true rfl) dX12_readsOne_255 (fun μ255 e9 => c_X12_number _ _ _ μ255 e9) h (fun μ255 h => ?_) rfl
        refine xx_goto C 340 dX12_readsOne_258 (by decide) ?_
        refine xx_sub [1] rfl ?_
        exact K340 μ255 h
      · refine xx_aload_n C 262 rfl 1 dX12_readsOne_261 rfl rfl ?_
        refine xx_ldcs C 264 rfl 6 rfl rfl dX12_readsOne_262 ?_
        refine xx_cVv (As := [.ref (G.2.1 (200 + (16 : Int).toNat))]) (st := []) (o := 0) C 267 rfl (by decide) (ceM_0 _ _ _) rfl rfl ca_X12_word cv_X12_word w_1497 rfl ⟨Nat.le_of_ble_eq_true rfl, Nat.le_of_ble_eq_true rfl⟩ ⟨Nat.le_of_ble_eq_true rfl, Nat.le_of_ble_eq_true rfl⟩ (Nat.le_of_ble_eq_true rfl) dX12_readsOne_264 (fun μ264 e9 => c_X12_word _ _ μ264 e9) h (fun μ264 h => ?_) rfl
        refine xx_aload_n C 268 rfl 1 dX12_readsOne_267 rfl rfl ?_
        refine xx_iconst C 269 rfl dX12_readsOne_268 ?_
        refine xx_cVv (As := [.int (iI 1)]) (st := []) (o := 0) C 272 rfl (by decide) (ceM_0 _ _ _) rfl rfl ca_X12_letter cv_X12_letter w_1516 rfl ⟨Nat.le_of_ble_eq_true rfl, Nat.le_of_ble_eq_true rfl⟩ ⟨Nat.le_of_ble_eq_true rfl, Nat.le_of_ble_eq_true rfl⟩ (Nat.le_of_ble_eq_true rfl) dX12_readsOne_269 (fun μ269 e9 => c_X12_letter _ _ μ269 e9) h (fun μ269 h => ?_) rfl
        refine xx_goto C 340 dX12_readsOne_272 (by decide) ?_
        refine xx_sub [1] rfl ?_
        exact K340 μ269 h
      · refine xx_aload_n C 276 rfl 1 dX12_readsOne_275 rfl rfl ?_
        refine xx_ldcs C 278 rfl 7 rfl rfl dX12_readsOne_276 ?_
        refine xx_cVv (As := [.ref (G.2.1 (200 + (17 : Int).toNat))]) (st := []) (o := 0) C 281 rfl (by decide) (ceM_0 _ _ _) rfl rfl ca_X12_word cv_X12_word w_1497 rfl ⟨Nat.le_of_ble_eq_true rfl, Nat.le_of_ble_eq_true rfl⟩ ⟨Nat.le_of_ble_eq_true rfl, Nat.le_of_ble_eq_true rfl⟩ (Nat.le_of_ble_eq_true rfl) dX12_readsOne_278 (fun μ278 e9 => c_X12_word _ _ μ278 e9) h (fun μ278 h => ?_) rfl
        refine xx_aload_n C 282 rfl 1 dX12_readsOne_281 rfl rfl ?_
        refine xx_iconst C 283 rfl dX12_readsOne_282 ?_
        refine xx_iconst C 284 rfl dX12_readsOne_283 ?_
        refine xx_cVv (As := [.int (iI 1), .int (iI 2)]) (st := []) (o := 0) C 287 rfl (by decide) (ceM_0 _ _ _) rfl rfl ca_X12_number cv_X12_number w_1508 rfl ⟨Nat.le_of_ble_eq_true rfl, Nat.le_of_ble_eq_true rfl⟩ ⟨Nat.le_of_ble_eq_true rfl, Nat.le_of_ble_eq_true rfl⟩ (Nat.le_of_ble_eq_true rfl) dX12_readsOne_284 (fun μ284 e9 => c_X12_number _ _ _ μ284 e9) h (fun μ284 h => ?_) rfl
        refine xx_aload_n C 288 rfl 1 dX12_readsOne_287 rfl rfl ?_
        refine xx_ldcs C 290 rfl 3 rfl rfl dX12_readsOne_288 ?_
        refine xx_cVv (As := [.ref (G.2.1 (200 + (13 : Int).toNat))]) (st := []) (o := 0) C 293 rfl (by decide) (ceM_0 _ _ _) rfl rfl ca_X12_word cv_X12_word w_1497 rfl ⟨Nat.le_of_ble_eq_true rfl, Nat.le_of_ble_eq_true rfl⟩ ⟨Nat.le_of_ble_eq_true rfl, Nat.le_of_ble_eq_true rfl⟩ (Nat.le_of_ble_eq_true rfl) dX12_readsOne_290 (fun μ290 e9 => c_X12_word _ _ μ290 e9) h (fun μ290 h => ?_) rfl
        refine xx_aload_n C 294 rfl 1 dX12_readsOne_293 rfl rfl ?_
        refine xx_iconst C 295 rfl dX12_readsOne_294 ?_
        refine xx_iconst C 296 rfl dX12_readsOne_295 ?_
        refine xx_cVv (As := [.int (iI 2), .int (iI 2)]) (st := []) (o := 0) C 299 rfl (by decide) (ceM_0 _ _ _) rfl rfl ca_X12_number cv_X12_number w_1508 rfl ⟨Nat.le_of_ble_eq_true rfl, Nat.le_of_ble_eq_true rfl⟩ ⟨Nat.le_of_ble_eq_true rfl, Nat.le_of_ble_eq_true rfl⟩ (Nat.le_of_ble_eq_true rfl) dX12_readsOne_296 (fun μ296 e9 => c_X12_number _ _ _ μ296 e9) h (fun μ296 h => ?_) rfl
        refine xx_goto C 340 dX12_readsOne_299 (by decide) ?_
        refine xx_sub [1] rfl ?_
        exact K340 μ296 h
      · refine xx_aload_n C 303 rfl 1 dX12_readsOne_302 rfl rfl ?_
        refine xx_ldcs C 305 rfl 8 rfl rfl dX12_readsOne_303 ?_
        refine xx_cVv (As := [.ref (G.2.1 (200 + (18 : Int).toNat))]) (st := []) (o := 0) C 308 rfl (by decide) (ceM_0 _ _ _) rfl rfl ca_X12_word cv_X12_word w_1497 rfl ⟨Nat.le_of_ble_eq_true rfl, Nat.le_of_ble_eq_true rfl⟩ ⟨Nat.le_of_ble_eq_true rfl, Nat.le_of_ble_eq_true rfl⟩ (Nat.le_of_ble_eq_true rfl) dX12_readsOne_305 (fun μ305 e9 => c_X12_word _ _ μ305 e9) h (fun μ305 h => ?_) rfl
        refine xx_goto C 340 dX12_readsOne_308 (by decide) ?_
        refine xx_sub [1] rfl ?_
        exact K340 μ305 h
      · refine xx_aload_n C 312 rfl 1 dX12_readsOne_311 rfl rfl ?_
        refine xx_ldcs C 314 rfl 9 rfl rfl dX12_readsOne_312 ?_
        refine xx_cVv (As := [.ref (G.2.1 (200 + (19 : Int).toNat))]) (st := []) (o := 0) C 317 rfl (by decide) (ceM_0 _ _ _) rfl rfl ca_X12_word cv_X12_word w_1497 rfl ⟨Nat.le_of_ble_eq_true rfl, Nat.le_of_ble_eq_true rfl⟩ ⟨Nat.le_of_ble_eq_true rfl, Nat.le_of_ble_eq_true rfl⟩ (Nat.le_of_ble_eq_true rfl) dX12_readsOne_314 (fun μ314 e9 => c_X12_word _ _ μ314 e9) h (fun μ314 h => ?_) rfl
        refine xx_aload_n C 318 rfl 1 dX12_readsOne_317 rfl rfl ?_
        refine xx_iconst C 319 rfl dX12_readsOne_318 ?_
        refine xx_iconst C 320 rfl dX12_readsOne_319 ?_
        refine xx_cVv (As := [.int (iI 1), .int (iI 2)]) (st := []) (o := 0) C 323 rfl (by decide) (ceM_0 _ _ _) rfl rfl ca_X12_number cv_X12_number w_1508 rfl ⟨Nat.le_of_ble_eq_true rfl, Nat.le_of_ble_eq_true rfl⟩ ⟨Nat.le_of_ble_eq_true rfl, Nat.le_of_ble_eq_true rfl⟩ (Nat.le_of_ble_eq_true rfl) dX12_readsOne_320 (fun μ320 e9 => c_X12_number _ _ _ μ320 e9) h (fun μ320 h => ?_) rfl
        refine xx_goto C 340 dX12_readsOne_323 (by decide) ?_
        refine xx_sub [1] rfl ?_
        exact K340 μ320 h
      · refine xx_aload_n C 327 rfl 1 dX12_readsOne_326 rfl rfl ?_
        refine xx_ldcs C 329 rfl 10 rfl rfl dX12_readsOne_327 ?_
        refine xx_cVv (As := [.ref (G.2.1 (200 + (20 : Int).toNat))]) (st := []) (o := 0) C 332 rfl (by decide) (ceM_0 _ _ _) rfl rfl ca_X12_word cv_X12_word w_1497 rfl ⟨Nat.le_of_ble_eq_true rfl, Nat.le_of_ble_eq_true rfl⟩ ⟨Nat.le_of_ble_eq_true rfl, Nat.le_of_ble_eq_true rfl⟩ (Nat.le_of_ble_eq_true rfl) dX12_readsOne_329 (fun μ329 e9 => c_X12_word _ _ μ329 e9) h (fun μ329 h => ?_) rfl
        refine xx_goto C 340 dX12_readsOne_332 (by decide) ?_
        refine xx_sub [1] rfl ?_
        exact K340 μ329 h
  · refine jn_r (fun J => ∀ (_u : Unit), J _u = some μr → wx_ G X 9 ad (ceM G ad) μ 0 0 25 [(0, .ref (ad 0)), (1, .int (iI v1))] []) h (fun _ h => ?_) (fun J25 K25 h => ?_)
    · refine xx_iload_n C 26 rfl 1 dX12_readsOne_25 rfl rfl ?_
      refine xx_bipush C 28 rfl dX12_readsOne_26 (by decide) ?_
      refine jn_r (fun J => ∀ (_u : Unit), J _u = some μr → wx_ G X 9 ad (ceM G ad) μ 0 0 45 [(0, .ref (ad 0)), (1, .int (iI v1))] []) h (fun _ h => ?_) (fun J45 K45 h => ?_)
      · refine xx_iload_n C 46 rfl 1 dX12_readsOne_45 rfl rfl ?_
        refine xx_sub [0] rfl ?_
        exact K46 v1 h
      · refine xx_icmp_ne (tgt := 45) C 31 rfl dX12_readsOne_28 (by decide) h (fun h => ?_) (fun h => ?_)
        · exact K45 () h
        · refine xx_aload_n C 32 rfl 0 dX12_readsOne_31 rfl rfl ?_
          refine xx_cVip (As := []) (st := []) (o := 0) C 35 rfl (by decide) (ceM_0 _ _ _) rfl rfl ca_X12_next cv_X12_next w_1488 rfl ⟨Nat.le_of_ble_eq_true rfl, Nat.le_of_ble_eq_true rfl⟩ ⟨Nat.le_of_ble_eq_true rfl, Nat.le_of_ble_eq_true rfl⟩ (Nat.le_of_ble_eq_true rfl) dX12_readsOne_32 (fun v32 e9 => c_X12_next _ v32 e9) h (fun v32 h => ?_) rfl
          refine xx_bipush C 37 rfl dX12_readsOne_35 (by decide) ?_
          refine xx_icmp_ne (tgt := 45) C 40 rfl dX12_readsOne_37 (by decide) h (fun h => ?_) (fun h => ?_)
          · exact K45 () h
          · refine xx_bipush C 42 rfl dX12_readsOne_40 (by decide) ?_
            refine xx_goto C 46 dX12_readsOne_42 (by decide) ?_
            refine xx_sub [0] rfl ?_
            exact K46 105 h
    · refine xx_icmp_ne (tgt := 25) C 11 rfl dX12_readsOne_8 (by decide) h (fun h => ?_) (fun h => ?_)
      · refine xx_sub [1, 0] rfl ?_
        exact K25 () h
      · refine xx_aload_n C 12 rfl 1 dX12_readsOne_11 rfl rfl ?_
        refine xx_cVip (As := []) (st := []) (o := 0) C 15 rfl (by decide) (ceM_0 _ _ _) rfl rfl ca_X12_next cv_X12_next w_1488 rfl ⟨Nat.le_of_ble_eq_true rfl, Nat.le_of_ble_eq_true rfl⟩ ⟨Nat.le_of_ble_eq_true rfl, Nat.le_of_ble_eq_true rfl⟩ (Nat.le_of_ble_eq_true rfl) dX12_readsOne_12 (fun v12 e9 => c_X12_next _ v12 e9) h (fun v12 h => ?_) rfl
        refine xx_bipush C 17 rfl dX12_readsOne_15 (by decide) ?_
        refine xx_icmp_ne (tgt := 25) C 20 rfl dX12_readsOne_17 (by decide) h (fun h => ?_) (fun h => ?_)
        · refine xx_sub [1, 0] rfl ?_
          exact K25 () h
        · refine xx_bipush C 22 rfl dX12_readsOne_20 (by decide) ?_
          refine xx_goto C 46 dX12_readsOne_22 (by decide) ?_
          refine xx_sub [1] rfl ?_
          exact K46 118 h

