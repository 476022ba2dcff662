theorem dL_isKept_0 : decode cL_isKept 0 = .ok (.aload_n 0, 1) := by decide +kernel
theorem dL_isKept_1 : decode cL_isKept 1 = .ok (.iconst 3, 1) := by decide +kernel
theorem dL_isKept_2 : decode cL_isKept 2 = .ok (.invokevirtual 45, 3) := by decide +kernel
theorem dL_isKept_5 : decode cL_isKept 5 = .ok (.istore_n 3, 1) := by decide +kernel
theorem dL_isKept_6 : decode cL_isKept 6 = .ok (.aload_n 0, 1) := by decide +kernel
theorem dL_isKept_7 : decode cL_isKept 7 = .ok (.invokevirtual 192, 3) := by decide +kernel
theorem dL_isKept_10 : decode cL_isKept 10 = .ok (.iload_n 3, 1) := by decide +kernel
theorem dL_isKept_11 : decode cL_isKept 11 = .ok (.if_icmp .ne 18, 3) := by decide +kernel
theorem dL_isKept_14 : decode cL_isKept 14 = .ok (.aload_n 0, 1) := by decide +kernel
theorem dL_isKept_15 : decode cL_isKept 15 = .ok (.bipush 15, 2) := by decide +kernel
theorem dL_isKept_17 : decode cL_isKept 17 = .ok (.invokevirtual 45, 3) := by decide +kernel
theorem dL_isKept_20 : decode cL_isKept 20 = .ok (.bipush 8, 2) := by decide +kernel
theorem dL_isKept_22 : decode cL_isKept 22 = .ok (.iload_n 2, 1) := by decide +kernel
theorem dL_isKept_23 : decode cL_isKept 23 = .ok (.invokestatic 195, 3) := by decide +kernel
theorem dL_isKept_26 : decode cL_isKept 26 = .ok (.if_icmp .eq 5, 3) := by decide +kernel
theorem dL_isKept_29 : decode cL_isKept 29 = .ok (.iconst 0, 1) := by decide +kernel
theorem dL_isKept_30 : decode cL_isKept 30 = .ok (.ireturn, 1) := by decide +kernel
theorem dL_isKept_31 : decode cL_isKept 31 = .ok (.bipush 8, 2) := by decide +kernel
theorem dL_isKept_33 : decode cL_isKept 33 = .ok (.iload_n 2, 1) := by decide +kernel
theorem dL_isKept_34 : decode cL_isKept 34 = .ok (.invokestatic 195, 3) := by decide +kernel
theorem dL_isKept_37 : decode cL_isKept 37 = .ok (.istore 4, 2) := by decide +kernel
theorem dL_isKept_39 : decode cL_isKept 39 = .ok (.iload_n 2, 1) := by decide +kernel
theorem dL_isKept_40 : decode cL_isKept 40 = .ok (.iconst 1, 1) := by decide +kernel
theorem dL_isKept_41 : decode cL_isKept 41 = .ok (.isub, 1) := by decide +kernel
theorem dL_isKept_42 : decode cL_isKept 42 = .ok (.istore 5, 2) := by decide +kernel
theorem dL_isKept_44 : decode cL_isKept 44 = .ok (.iload 4, 2) := by decide +kernel
theorem dL_isKept_46 : decode cL_isKept 46 = .ok (.ifCond .le 35, 3) := by decide +kernel
theorem dL_isKept_49 : decode cL_isKept 49 = .ok (.iinc 4 (-1), 3) := by decide +kernel
theorem dL_isKept_52 : decode cL_isKept 52 = .ok (.aload_n 0, 1) := by decide +kernel
theorem dL_isKept_53 : decode cL_isKept 53 = .ok (.invokevirtual 200, 3) := by decide +kernel
theorem dL_isKept_56 : decode cL_isKept 56 = .ok (.iload 4, 2) := by decide +kernel
theorem dL_isKept_58 : decode cL_isKept 58 = .ok (.if_icmp .ne 15, 3) := by decide +kernel
theorem dL_isKept_61 : decode cL_isKept 61 = .ok (.aload_n 0, 1) := by decide +kernel
theorem dL_isKept_62 : decode cL_isKept 62 = .ok (.invokestatic 41, 3) := by decide +kernel
theorem dL_isKept_65 : decode cL_isKept 65 = .ok (.aload_n 1, 1) := by decide +kernel
theorem dL_isKept_66 : decode cL_isKept 66 = .ok (.iload 5, 2) := by decide +kernel
theorem dL_isKept_68 : decode cL_isKept 68 = .ok (.laload, 1) := by decide +kernel
theorem dL_isKept_69 : decode cL_isKept 69 = .ok (.lcmp, 1) := by decide +kernel
theorem dL_isKept_70 : decode cL_isKept 70 = .ok (.ifCond .eq 5, 3) := by decide +kernel
theorem dL_isKept_73 : decode cL_isKept 73 = .ok (.iconst 0, 1) := by decide +kernel
theorem dL_isKept_74 : decode cL_isKept 74 = .ok (.ireturn, 1) := by decide +kernel
theorem dL_isKept_75 : decode cL_isKept 75 = .ok (.iinc 5 (-1), 3) := by decide +kernel
theorem dL_isKept_78 : decode cL_isKept 78 = .ok (.goto (-34), 3) := by decide +kernel
theorem dL_isKept_81 : decode cL_isKept 81 = .ok (.aload_n 0, 1) := by decide +kernel
theorem dL_isKept_82 : decode cL_isKept 82 = .ok (.invokevirtual 200, 3) := by decide +kernel
theorem dL_isKept_85 : decode cL_isKept 85 = .ok (.bipush (-15), 2) := by decide +kernel
theorem dL_isKept_87 : decode cL_isKept 87 = .ok (.if_icmp .ne 35, 3) := by decide +kernel
theorem dL_isKept_90 : decode cL_isKept 90 = .ok (.aload_n 0, 1) := by decide +kernel
theorem dL_isKept_91 : decode cL_isKept 91 = .ok (.invokevirtual 203, 3) := by decide +kernel
theorem dL_isKept_94 : decode cL_isKept 94 = .ok (.iload_n 3, 1) := by decide +kernel
theorem dL_isKept_95 : decode cL_isKept 95 = .ok (.if_icmp .ne 27, 3) := by decide +kernel
theorem dL_isKept_98 : decode cL_isKept 98 = .ok (.aload_n 0, 1) := by decide +kernel
theorem dL_isKept_99 : decode cL_isKept 99 = .ok (.invokestatic 41, 3) := by decide +kernel
theorem dL_isKept_102 : decode cL_isKept 102 = .ok (.aload_n 1, 1) := by decide +kernel
theorem dL_isKept_103 : decode cL_isKept 103 = .ok (.iload_n 2, 1) := by decide +kernel
theorem dL_isKept_104 : decode cL_isKept 104 = .ok (.laload, 1) := by decide +kernel
theorem dL_isKept_105 : decode cL_isKept 105 = .ok (.lcmp, 1) := by decide +kernel
theorem dL_isKept_106 : decode cL_isKept 106 = .ok (.ifCond .ne 16, 3) := by decide +kernel
theorem dL_isKept_109 : decode cL_isKept 109 = .ok (.aload_n 0, 1) := by decide +kernel
theorem dL_isKept_110 : decode cL_isKept 110 = .ok (.invokevirtual 200, 3) := by decide +kernel
theorem dL_isKept_113 : decode cL_isKept 113 = .ok (.bipush (-15), 2) := by decide +kernel
theorem dL_isKept_115 : decode cL_isKept 115 = .ok (.if_icmp .ne 7, 3) := by decide +kernel
theorem dL_isKept_118 : decode cL_isKept 118 = .ok (.iconst 1, 1) := by decide +kernel
theorem dL_isKept_119 : decode cL_isKept 119 = .ok (.goto 4, 3) := by decide +kernel
theorem dL_isKept_122 : decode cL_isKept 122 = .ok (.iconst 0, 1) := by decide +kernel
theorem dL_isKept_123 : decode cL_isKept 123 = .ok (.ireturn, 1) := by decide +kernel
theorem dL_isRound_0 : decode cL_isRound 0 = .ok (.aload_n 0, 1) := by decide +kernel
theorem dL_isRound_1 : decode cL_isRound 1 = .ok (.iconst 1, 1) := by decide +kernel
theorem dL_isRound_2 : decode cL_isRound 2 = .ok (.invokevirtual 45, 3) := by decide +kernel
theorem dL_isRound_5 : decode cL_isRound 5 = .ok (.ifCond .le 10, 3) := by decide +kernel
theorem dL_isRound_8 : decode cL_isRound 8 = .ok (.aload_n 0, 1) := by decide +kernel
theorem dL_isRound_9 : decode cL_isRound 9 = .ok (.invokevirtual 96, 3) := by decide +kernel
theorem dL_isRound_12 : decode cL_isRound 12 = .ok (.goto 4, 3) := by decide +kernel
theorem dL_isRound_15 : decode cL_isRound 15 = .ok (.iconst 0, 1) := by decide +kernel
theorem dL_isRound_16 : decode cL_isRound 16 = .ok (.istore_n 1, 1) := by decide +kernel
theorem dL_isRound_17 : decode cL_isRound 17 = .ok (.aload_n 0, 1) := by decide +kernel
theorem dL_isRound_18 : decode cL_isRound 18 = .ok (.invokevirtual 178, 3) := by decide +kernel
theorem dL_isRound_21 : decode cL_isRound 21 = .ok (.istore_n 2, 1) := by decide +kernel
theorem dL_isRound_22 : decode cL_isRound 22 = .ok (.aload_n 0, 1) := by decide +kernel
theorem dL_isRound_23 : decode cL_isRound 23 = .ok (.iconst 3, 1) := by decide +kernel
theorem dL_isRound_24 : decode cL_isRound 24 = .ok (.invokevirtual 45, 3) := by decide +kernel
theorem dL_isRound_27 : decode cL_isRound 27 = .ok (.istore_n 3, 1) := by decide +kernel
theorem dL_isRound_28 : decode cL_isRound 28 = .ok (.aload_n 0, 1) := by decide +kernel
theorem dL_isRound_29 : decode cL_isRound 29 = .ok (.invokevirtual 96, 3) := by decide +kernel
theorem dL_isRound_32 : decode cL_isRound 32 = .ok (.istore 4, 2) := by decide +kernel
theorem dL_isRound_34 : decode cL_isRound 34 = .ok (.iload_n 1, 1) := by decide +kernel
theorem dL_isRound_35 : decode cL_isRound 35 = .ok (.ifCond .lt 67, 3) := by decide +kernel
theorem dL_isRound_38 : decode cL_isRound 38 = .ok (.iload 4, 2) := by decide +kernel
theorem dL_isRound_40 : decode cL_isRound 40 = .ok (.iload_n 2, 1) := by decide +kernel
theorem dL_isRound_41 : decode cL_isRound 41 = .ok (.invokestatic 170, 3) := by decide +kernel
theorem dL_isRound_44 : decode cL_isRound 44 = .ok (.if_icmp .ne 58, 3) := by decide +kernel
theorem dL_isRound_47 : decode cL_isRound 47 = .ok (.aload_n 0, 1) := by decide +kernel
theorem dL_isRound_48 : decode cL_isRound 48 = .ok (.iconst 3, 1) := by decide +kernel
theorem dL_isRound_49 : decode cL_isRound 49 = .ok (.invokevirtual 45, 3) := by decide +kernel
theorem dL_isRound_52 : decode cL_isRound 52 = .ok (.iload_n 3, 1) := by decide +kernel
theorem dL_isRound_53 : decode cL_isRound 53 = .ok (.iload 4, 2) := by decide +kernel
theorem dL_isRound_55 : decode cL_isRound 55 = .ok (.isub, 1) := by decide +kernel
theorem dL_isRound_56 : decode cL_isRound 56 = .ok (.if_icmp .ne 46, 3) := by decide +kernel
theorem dL_isRound_59 : decode cL_isRound 59 = .ok (.aload_n 0, 1) := by decide +kernel
theorem dL_isRound_60 : decode cL_isRound 60 = .ok (.invokevirtual 155, 3) := by decide +kernel
theorem dL_isRound_63 : decode cL_isRound 63 = .ok (.aload_n 0, 1) := by decide +kernel
theorem dL_isRound_64 : decode cL_isRound 64 = .ok (.invokevirtual 175, 3) := by decide +kernel
theorem dL_isRound_67 : decode cL_isRound 67 = .ok (.if_icmp .ne 35, 3) := by decide +kernel
theorem dL_isRound_70 : decode cL_isRound 70 = .ok (.aload_n 0, 1) := by decide +kernel
theorem dL_isRound_71 : decode cL_isRound 71 = .ok (.invokevirtual 155, 3) := by decide +kernel
theorem dL_isRound_74 : decode cL_isRound 74 = .ok (.invokestatic 170, 3) := by decide +kernel
theorem dL_isRound_77 : decode cL_isRound 77 = .ok (.aload_n 0, 1) := by decide +kernel
theorem dL_isRound_78 : decode cL_isRound 78 = .ok (.iconst 3, 1) := by decide +kernel
theorem dL_isRound_79 : decode cL_isRound 79 = .ok (.invokevirtual 45, 3) := by decide +kernel
theorem dL_isRound_82 : decode cL_isRound 82 = .ok (.if_icmp .ne 20, 3) := by decide +kernel
theorem dL_isRound_85 : decode cL_isRound 85 = .ok (.aload_n 0, 1) := by decide +kernel
theorem dL_isRound_86 : decode cL_isRound 86 = .ok (.iconst 4, 1) := by decide +kernel
theorem dL_isRound_87 : decode cL_isRound 87 = .ok (.invokevirtual 45, 3) := by decide +kernel
theorem dL_isRound_90 : decode cL_isRound 90 = .ok (.aload_n 0, 1) := by decide +kernel
theorem dL_isRound_91 : decode cL_isRound 91 = .ok (.iconst 3, 1) := by decide +kernel
theorem dL_isRound_92 : decode cL_isRound 92 = .ok (.invokevirtual 45, 3) := by decide +kernel
theorem dL_isRound_95 : decode cL_isRound 95 = .ok (.if_icmp .ne 7, 3) := by decide +kernel
theorem dL_isRound_98 : decode cL_isRound 98 = .ok (.iconst 1, 1) := by decide +kernel
theorem dL_isRound_99 : decode cL_isRound 99 = .ok (.goto 4, 3) := by decide +kernel
theorem dL_isRound_102 : decode cL_isRound 102 = .ok (.iconst 0, 1) := by decide +kernel
theorem dL_isRound_103 : decode cL_isRound 103 = .ok (.istore 5, 2) := by decide +kernel
theorem dL_isRound_105 : decode cL_isRound 105 = .ok (.iconst 0, 1) := by decide +kernel
theorem dL_isRound_106 : decode cL_isRound 106 = .ok (.istore 6, 2) := by decide +kernel
theorem dL_isRound_108 : decode cL_isRound 108 = .ok (.iload 6, 2) := by decide +kernel
theorem dL_isRound_110 : decode cL_isRound 110 = .ok (.bipush 24, 2) := by decide +kernel
theorem dL_isRound_112 : decode cL_isRound 112 = .ok (.if_icmp .ge 42, 3) := by decide +kernel
theorem dL_isRound_115 : decode cL_isRound 115 = .ok (.iload 5, 2) := by decide +kernel
theorem dL_isRound_117 : decode cL_isRound 117 = .ok (.ifCond .eq 28, 3) := by decide +kernel
theorem dL_isRound_120 : decode cL_isRound 120 = .ok (.iload_n 2, 1) := by decide +kernel
theorem dL_isRound_121 : decode cL_isRound 121 = .ok (.iload 6, 2) := by decide +kernel
theorem dL_isRound_123 : decode cL_isRound 123 = .ok (.ishr, 1) := by decide +kernel
theorem dL_isRound_124 : decode cL_isRound 124 = .ok (.iconst 1, 1) := by decide +kernel
theorem dL_isRound_125 : decode cL_isRound 125 = .ok (.iand, 1) := by decide +kernel
theorem dL_isRound_126 : decode cL_isRound 126 = .ok (.ifCond .eq 15, 3) := by decide +kernel
theorem dL_isRound_129 : decode cL_isRound 129 = .ok (.aload_n 0, 1) := by decide +kernel
theorem dL_isRound_130 : decode cL_isRound 130 = .ok (.iload 6, 2) := by decide +kernel
theorem dL_isRound_132 : decode cL_isRound 132 = .ok (.iconst 0, 1) := by decide +kernel
theorem dL_isRound_133 : decode cL_isRound 133 = .ok (.invokevirtual 146, 3) := by decide +kernel
theorem dL_isRound_136 : decode cL_isRound 136 = .ok (.bipush (-11), 2) := by decide +kernel
theorem dL_isRound_138 : decode cL_isRound 138 = .ok (.if_icmp .ne 7, 3) := by decide +kernel
theorem dL_isRound_141 : decode cL_isRound 141 = .ok (.iconst 1, 1) := by decide +kernel
theorem dL_isRound_142 : decode cL_isRound 142 = .ok (.goto 4, 3) := by decide +kernel
theorem dL_isRound_145 : decode cL_isRound 145 = .ok (.iconst 0, 1) := by decide +kernel
theorem dL_isRound_146 : decode cL_isRound 146 = .ok (.istore 5, 2) := by decide +kernel
theorem dL_isRound_148 : decode cL_isRound 148 = .ok (.iinc 6 1, 3) := by decide +kernel
theorem dL_isRound_151 : decode cL_isRound 151 = .ok (.goto (-43), 3) := by decide +kernel
theorem dL_isRound_154 : decode cL_isRound 154 = .ok (.iload 5, 2) := by decide +kernel
theorem dL_isRound_156 : decode cL_isRound 156 = .ok (.ireturn, 1) := by decide +kernel
def f_L_isKept_o132_L44 (J81 : mu_T → Option (Int × mu_T)) : Nat → Int → Int → mu_T → Option (Int × mu_T)
  | 0, _, _, _ => none
  | fu44 + 1, x4_44, x5_44, μ44 => lt_ 0 x4_44
      (nm_ (x4_44 + (-1)) (fun n49 => be_ μ44 (f_X11_undo μ44) (fun v53 μ53 => eq_ v53 n49
      (bd_ (f_L_sum_o132 μ53) (fun v62 => rd_ μ53 151 60 x5_44 (fun v68 => lc_ v62 v68 (eq_ 0 0
      (nm_ (x5_44 + (-1)) (fun n75 => (f_L_isKept_o132_L44 J81 fu44) n49 n75 μ53))
      (none)))))
      (none))))
      (J81 μ44)
def f_L_isKept_o132 (μ : mu_T) (a2 : Int) : Option (Int × mu_T) :=
  bd_ (f_X11_account μ 3) (fun v2 => be_ μ (f_X11_save μ) (fun v7 μ7 => eq_ v7 v2
      (bd_ (f_X11_account μ7 15) (fun v17 => mn_ 8 a2 (fun v23 => eq_ v17 v23
      (mn_ 8 a2 (fun v34 => nm_ ((a2 - 1)) (fun n42 => jn_ (φ := mu_T → Option (Int × mu_T)) (fun μ81 => be_ μ81 (f_X11_undo μ81) (fun v82 μ82 => eq_ v82 (-15)
      (be_ μ82 (f_X11_restore μ82) (fun v91 μ91 => eq_ v91 v2
      (bd_ (f_L_sum_o132 μ91) (fun v99 => rd_ μ91 151 60 a2 (fun v104 => lc_ v99 v104 (eq_ 0 0
      (be_ μ91 (f_X11_undo μ91) (fun v110 μ110 => eq_ v110 (-15)
      (some (1, μ110))
      (none)))
      (none)))))
      (none)))
      (none)))
      (fun J81 => f_L_isKept_o132_L44 J81 20000 v34 n42 μ7))))
      (none))))
      (none)))
set_option maxHeartbeats 4000000 in
set_option maxRecDepth 100000 in
theorem c_L_isKept_o132 {G : gp_} {ad : Nat → Nat} {x : Nat} (μ : mu_T) (a2 : Int) (a : Int) (μr : mu_T) (h : f_L_isKept_o132 μ a2 = some (a, μr)) : mi_ yL_isKept cL_isKept 6 (some .boolean) ({ frames := 6, cells := 0, slots := 0, locals := 121 } : Room) G 152 (a9_ ad x) (cJ_ G (ceX G ad)) [.ref (ad 132), .ref x, .int (iI a2)] μ a μr := by
  refine mi_in (own := "UrnHeapLaw") (lv := [(0, .ref (ad 132)), (1, .ref x), (2, .int (iI a2))]) (by decide) rfl rfl (Nat.le_of_ble_eq_true rfl) (fun X C E => ?_)
  unfold f_L_isKept_o132 at h
  refine xx_aload_n C 1 rfl 0 dL_isKept_0 rfl rfl ?_
  refine xx_iconst C 2 rfl dL_isKept_1 ?_
  refine xe_cVip (As := [.int (iI 3)]) (st := []) (o := 132) C 5 rfl (fun _ hk _ => cJ_ne hk) (by decide) (ceX_132 _ _ _) rfl rfl ca_X11_account cv_X11_account w_365 rfl ⟨Nat.le_of_ble_eq_true rfl, Nat.le_of_ble_eq_true rfl⟩ ⟨Nat.le_of_ble_eq_true rfl, Nat.le_of_ble_eq_true rfl⟩ (Nat.le_of_ble_eq_true rfl) dL_isKept_2 (fun v2 e9 => c_X11_account _ _ v2 e9) h (fun v2 h => ?_) rfl
  refine xx_istore_n (lv1 := [(3, .int (iI v2)), (0, .ref (ad 132)), (1, .ref x), (2, .int (iI a2))]) C 6 rfl (by decide) dL_isKept_5 rfl rfl ?_
  refine xx_aload_n C 7 rfl 1 dL_isKept_6 rfl rfl ?_
  refine xe_cVi (As := []) (st := []) (o := 132) C 10 rfl (fun _ hk _ => cJ_ne hk) (by decide) (ceX_132 _ _ _) rfl rfl ca_X11_save cv_X11_save w_1154 rfl ⟨Nat.le_of_ble_eq_true rfl, Nat.le_of_ble_eq_true rfl⟩ ⟨Nat.le_of_ble_eq_true rfl, Nat.le_of_ble_eq_true rfl⟩ (Nat.le_of_ble_eq_true rfl) dL_isKept_7 (fun v7 μ9 e9 => c_X11_save _ v7 μ9 e9) h (fun v7 μ7 h => ?_) rfl
  refine xx_iload_n C 11 rfl 0 dL_isKept_10 rfl rfl ?_
  refine xx_icmp_ne (tgt := 29) C 14 rfl dL_isKept_11 (by decide) h (fun h => ?_) (fun h => ?_)
  · exact nn_ h
  · refine xx_aload_n C 15 rfl 1 dL_isKept_14 rfl rfl ?_
    refine xx_bipush C 17 rfl dL_isKept_15 (by decide) ?_
    refine xe_cVip (As := [.int (iI 15)]) (st := []) (o := 132) C 20 rfl (fun _ hk _ => cJ_ne hk) (by decide) (ceX_132 _ _ _) rfl rfl ca_X11_account cv_X11_account w_365 rfl ⟨Nat.le_of_ble_eq_true rfl, Nat.le_of_ble_eq_true rfl⟩ ⟨Nat.le_of_ble_eq_true rfl, Nat.le_of_ble_eq_true rfl⟩ (Nat.le_of_ble_eq_true rfl) dL_isKept_17 (fun v17 e9 => c_X11_account _ _ v17 e9) h (fun v17 h => ?_) rfl
    refine xx_bipush C 22 rfl dL_isKept_20 (by decide) ?_
    refine xx_iload_n C 23 rfl 3 dL_isKept_22 rfl rfl ?_
    refine xx_mmin C 26 rfl ⟨w_1163, w_451, w_41, w_452⟩ ⟨Nat.le_of_ble_eq_true rfl, Nat.le_of_ble_eq_true rfl⟩ ⟨Nat.le_of_ble_eq_true rfl, Nat.le_of_ble_eq_true rfl⟩ dL_isKept_23 h (fun v23 h => ?_)
    refine xx_icmp_eq (tgt := 31) C 29 rfl dL_isKept_26 (by decide) h (fun h => ?_) (fun h => ?_)
    · refine xx_bipush C 33 rfl dL_isKept_31 (by decide) ?_
      refine xx_iload_n C 34 rfl 3 dL_isKept_33 rfl rfl ?_
      refine xx_mmin C 37 rfl ⟨w_1163, w_451, w_41, w_452⟩ ⟨Nat.le_of_ble_eq_true rfl, Nat.le_of_ble_eq_true rfl⟩ ⟨Nat.le_of_ble_eq_true rfl, Nat.le_of_ble_eq_true rfl⟩ dL_isKept_34 h (fun v34 h => ?_)
      refine xx_istore (lv1 := [(4, .int (iI v34)), (3, .int (iI v2)), (0, .ref (ad 132)), (1, .ref x), (2, .int (iI a2))]) C 39 rfl (by decide) dL_isKept_37 rfl ?_
      refine xx_iload_n C 40 rfl 4 dL_isKept_39 rfl rfl ?_
      refine xx_iconst C 41 rfl dL_isKept_40 ?_
      refine xx_isub C 42 rfl dL_isKept_41 ?_
      refine xx_nm C h (fun n42 h => ?_)
      refine xx_istore (lv1 := [(5, .int (iI n42)), (4, .int (iI v34)), (3, .int (iI v2)), (0, .ref (ad 132)), (1, .ref x), (2, .int (iI a2))]) C 44 rfl (by decide) dL_isKept_42 rfl ?_
      refine jn_r (fun J => ∀ (μ81 : mu_T), J μ81 = some (a, μr) → wx_ G X 152 (a9_ ad x) (cJ_ G (ceX G ad)) μ81 0 0 81 [(0, .ref (ad 132)), (1, .ref x), (2, .int (iI a2)), (3, .int (iI v2))] []) h (fun μ81 h => ?_) (fun J81 K81 h => ?_)
      · refine xx_aload_n C 82 rfl 0 dL_isKept_81 rfl rfl ?_
        refine xe_cVi (As := []) (st := []) (o := 132) C 85 rfl (fun _ hk _ => cJ_ne hk) (by decide) (ceX_132 _ _ _) rfl rfl ca_X11_undo cv_X11_undo w_1164 rfl ⟨Nat.le_of_ble_eq_true rfl, Nat.le_of_ble_eq_true rfl⟩ ⟨Nat.le_of_ble_eq_true rfl, Nat.le_of_ble_eq_true rfl⟩ (Nat.le_of_ble_eq_true rfl) dL_isKept_82 (fun v82 μ9 e9 => c_X11_undo _ v82 μ9 e9) h (fun v82 μ82 h => ?_) rfl
        refine xx_bipush C 87 rfl dL_isKept_85 (by decide) ?_
        refine xx_icmp_ne (tgt := 122) C 90 rfl dL_isKept_87 (by decide) h (fun h => ?_) (fun h => ?_)
        · exact nn_ h
        · refine xx_aload_n C 91 rfl 0 dL_isKept_90 rfl rfl ?_
          refine xe_cVi (As := []) (st := []) (o := 132) C 94 rfl (fun _ hk _ => cJ_ne hk) (by decide) (ceX_132 _ _ _) rfl rfl ca_X11_restore cv_X11_restore w_1173 rfl ⟨Nat.le_of_ble_eq_true rfl, Nat.le_of_ble_eq_true rfl⟩ ⟨Nat.le_of_ble_eq_true rfl, Nat.le_of_ble_eq_true rfl⟩ (Nat.le_of_ble_eq_true rfl) dL_isKept_91 (fun v91 μ9 e9 => c_X11_restore _ v91 μ9 e9) h (fun v91 μ91 h => ?_) rfl
          refine xx_iload_n C 95 rfl 3 dL_isKept_94 rfl rfl ?_
          refine xx_icmp_ne (tgt := 122) C 98 rfl dL_isKept_95 (by decide) h (fun h => ?_) (fun h => ?_)
          · exact nn_ h
          · refine xx_aload_n C 99 rfl 0 dL_isKept_98 rfl rfl ?_
            refine xe_cSlp (As := [.ref (ad 132)]) (st := []) C 102 rfl (fun _ hk _ => cJ_ne hk) ca_L_sum cs_L_sum w_961 rfl ⟨Nat.le_of_ble_eq_true rfl, Nat.le_of_ble_eq_true rfl⟩ ⟨Nat.le_of_ble_eq_true rfl, Nat.le_of_ble_eq_true rfl⟩ (Nat.le_of_ble_eq_true rfl) dL_isKept_99 (fun v99 e9 => c_L_sum_o132 _ v99 e9) h (fun v99 h => ?_) rfl
            refine xx_aload_n C 103 rfl 1 dL_isKept_102 rfl rfl ?_
            refine xx_iload_n C 104 rfl 2 dL_isKept_103 rfl rfl ?_
            refine xx_laload (q := 151) C 105 rfl (by decide) (fun _ => rfl) (by decide) dL_isKept_104 h (fun v104 h => ?_)
            refine xx_lcmp C 106 rfl dL_isKept_105 h (fun h => ?_)
            refine xx_if_ne (tgt := 122) C 109 rfl dL_isKept_106 (by decide) h (fun h => ?_) (fun h => ?_)
            · exact nn_ h
            · refine xx_aload_n C 110 rfl 0 dL_isKept_109 rfl rfl ?_
              refine xe_cVi (As := []) (st := []) (o := 132) C 113 rfl (fun _ hk _ => cJ_ne hk) (by decide) (ceX_132 _ _ _) rfl rfl ca_X11_undo cv_X11_undo w_1164 rfl ⟨Nat.le_of_ble_eq_true rfl, Nat.le_of_ble_eq_true rfl⟩ ⟨Nat.le_of_ble_eq_true rfl, Nat.le_of_ble_eq_true rfl⟩ (Nat.le_of_ble_eq_true rfl) dL_isKept_110 (fun v110 μ9 e9 => c_X11_undo _ v110 μ9 e9) h (fun v110 μ110 h => ?_) rfl
              refine xx_bipush C 115 rfl dL_isKept_113 (by decide) ?_
              refine xx_icmp_ne (tgt := 122) C 118 rfl dL_isKept_115 (by decide) h (fun h => ?_) (fun h => ?_)
              · exact nn_ h
              · refine xx_iconst C 119 rfl dL_isKept_118 ?_
                refine xx_goto C 123 dL_isKept_119 (by decide) ?_
                exact xx_zret C E rfl rfl ⟨Nat.le_of_ble_eq_true rfl, Nat.le_of_ble_eq_true rfl⟩ dL_isKept_123 h
      · have L44 : ∀ (fu44 : Nat) (x4_44 : Int) (x5_44 : Int) (μ44 : mu_T), f_L_isKept_o132_L44 J81 fu44 x4_44 x5_44 μ44 = some (a, μr) → wx_ G X 152 (a9_ ad x) (cJ_ G (ceX G ad)) μ44 0 0 44 [(0, .ref (ad 132)), (1, .ref x), (2, .int (iI a2)), (3, .int (iI v2)), (4, .int (iI x4_44)), (5, .int (iI x5_44))] [] := by
          intro fu44
          induction fu44 with
          | zero => intro x4_44 x5_44 μ44 h; exact nn_ h
          | succ fu44 K44 =>
            intro x4_44 x5_44 μ44 h
            rw [f_L_isKept_o132_L44] at h
            generalize f_L_isKept_o132_L44 J81 fu44 = R44 at K44 h
            refine xx_iload C 46 rfl 4 dL_isKept_44 rfl ?_
            refine xx_if_le (tgt := 81) C 49 rfl dL_isKept_46 (by decide) h (fun h => ?_) (fun h => ?_)
            · refine xx_sub [0, 1, 2, 3] rfl ?_
              exact K81 μ44 h
            · refine xx_iincn C 52 rfl 4 (by decide) dL_isKept_49 rfl h (fun n49 h => ?_)
              refine xx_lv (lv1 := [(4, .int (iI n49)), (0, .ref (ad 132)), (1, .ref x), (2, .int (iI a2)), (3, .int (iI v2)), (5, .int (iI x5_44))]) rfl ?_
              refine xx_aload_n C 53 rfl 1 dL_isKept_52 rfl rfl ?_
              refine xe_cVi (As := []) (st := []) (o := 132) C 56 rfl (fun _ hk _ => cJ_ne hk) (by decide) (ceX_132 _ _ _) rfl rfl ca_X11_undo cv_X11_undo w_1164 rfl ⟨Nat.le_of_ble_eq_true rfl, Nat.le_of_ble_eq_true rfl⟩ ⟨Nat.le_of_ble_eq_true rfl, Nat.le_of_ble_eq_true rfl⟩ (Nat.le_of_ble_eq_true rfl) dL_isKept_53 (fun v53 μ9 e9 => c_X11_undo _ v53 μ9 e9) h (fun v53 μ53 h => ?_) rfl
              refine xx_iload C 58 rfl 0 dL_isKept_56 rfl ?_
              refine xx_icmp_ne (tgt := 73) C 61 rfl dL_isKept_58 (by decide) h (fun h => ?_) (fun h => ?_)
              · exact nn_ h
              · refine xx_aload_n C 62 rfl 1 dL_isKept_61 rfl rfl ?_
                refine xe_cSlp (As := [.ref (ad 132)]) (st := []) C 65 rfl (fun _ hk _ => cJ_ne hk) ca_L_sum cs_L_sum w_961 rfl ⟨Nat.le_of_ble_eq_true rfl, Nat.le_of_ble_eq_true rfl⟩ ⟨Nat.le_of_ble_eq_true rfl, Nat.le_of_ble_eq_true rfl⟩ (Nat.le_of_ble_eq_true rfl) dL_isKept_62 (fun v62 e9 => c_L_sum_o132 _ v62 e9) h (fun v62 h => ?_) rfl
                refine xx_aload_n C 66 rfl 2 dL_isKept_65 rfl rfl ?_
                refine xx_iload C 68 rfl 5 dL_isKept_66 rfl ?_
                refine xx_laload (q := 151) C 69 rfl (by decide) (fun _ => rfl) (by decide) dL_isKept_68 h (fun v68 h => ?_)
                refine xx_lcmp C 70 rfl dL_isKept_69 h (fun h => ?_)
                refine xx_if_eq (tgt := 75) C 73 rfl dL_isKept_70 (by decide) h (fun h => ?_) (fun h => ?_)
                · refine xx_iincn C 78 rfl 5 (by decide) dL_isKept_75 rfl h (fun n75 h => ?_)
                  refine xx_lv (lv1 := [(5, .int (iI n75)), (4, .int (iI n49)), (0, .ref (ad 132)), (1, .ref x), (2, .int (iI a2)), (3, .int (iI v2))]) rfl ?_
                  refine xx_goto C 44 dL_isKept_78 (by decide) ?_
                  refine xx_sub [2, 3, 4, 5, 1, 0] rfl ?_
                  exact K44 n49 n75 μ53 h
                · exact nn_ h
        refine xx_sub [3, 4, 5, 2, 1, 0] rfl ?_
        exact L44 _ _ _ _ h
    · exact nn_ h

def f_L_isRound_o132_L108 (v18 : Int) (μ29 : mu_T) : Nat → Int → Int → Option (Int × mu_T)
  | 0, _, _ => none
  | fu108 + 1, x5_108, x6_108 => lt_ x6_108 24
      (eq_ x5_108 0
      (none)
      (jn_ (φ := Unit → Option (Int × mu_T)) (fun _ => nm_ (x6_108 + 1) (fun n148 => (f_L_isRound_o132_L108 v18 μ29 fu108) 1 n148))
      (fun J141 => eq_ (an_ (sr_ v18 x6_108) 1) 0
      (J141 ())
      (bd_ (f_X11_urnOf μ29 x6_108 0) (fun v133 => eq_ v133 (-11)
      (J141 ())
      (none))))))
      (rz_ x5_108 μ29)
def f_L_isRound_o132 (μ : mu_T)  : Option (Int × mu_T) :=
  bd_ (f_X11_account μ 1) (fun v2 => jn_ (φ := Int → mu_T → Option (Int × mu_T)) (fun s0_16 μ16 => bd_ (f_X11_wouldFree μ16) (fun v18 => bd_ (f_X11_account μ16 3) (fun v24 => bp_ (f_X11_round μ16) (fun v29 μ29 => lt_ s0_16 0
      (none)
      (bd_ (f_J6_bitCount_0f7a4 μ29 v18) (fun v41 => eq_ v29 v41
      (bd_ (f_X11_account μ29 3) (fun v49 => eq_ v49 (v24 - v29)
      (bd_ (f_X11_live μ29) (fun v60 => bd_ (f_X11_liveAgain μ29) (fun v64 => eq_ v60 v64
      (bd_ (f_X11_live μ29) (fun v71 => bd_ (f_J6_bitCount_0f7a4 μ29 v71) (fun v74 => bd_ (f_X11_account μ29 3) (fun v79 => eq_ v74 v79
      (bd_ (f_X11_account μ29 4) (fun v87 => bd_ (f_X11_account μ29 3) (fun v92 => eq_ v87 v92
      (f_L_isRound_o132_L108 v18 μ29 20000 1 0)
      (none))))
      (none)))))
      (none))))
      (none)))
      (none)))))))
      (fun J16 => lt_ 0 v2
      (bp_ (f_X11_round μ) (fun v9 μ9 => J16 v9 μ9))
      (J16 0 μ)))
set_option maxHeartbeats 4000000 in
set_option maxRecDepth 100000 in
theorem c_L_isRound_o132 {G : gp_} {ad : Nat → Nat} (μ : mu_T)  (a : Int) (μr : mu_T) (h : f_L_isRound_o132 μ  = some (a, μr)) : mi_ yL_isRound cL_isRound 7 (some .boolean) ({ frames := 7, cells := 0, slots := 0, locals := 155 } : Room) G 151 ad (ceX G ad) [.ref (ad 132)] μ a μr := by
  refine mi_in (own := "UrnHeapLaw") (lv := [(0, .ref (ad 132))]) (by decide) rfl rfl (Nat.le_of_ble_eq_true rfl) (fun X C E => ?_)
  unfold f_L_isRound_o132 at h
  refine xx_aload_n C 1 rfl 0 dL_isRound_0 rfl rfl ?_
  refine xx_iconst C 2 rfl dL_isRound_1 ?_
  refine xx_cVip (As := [.int (iI 1)]) (st := []) (o := 132) C 5 rfl (by decide) (ceX_132 _ _ _) rfl rfl ca_X11_account cv_X11_account w_365 rfl ⟨Nat.le_of_ble_eq_true rfl, Nat.le_of_ble_eq_true rfl⟩ ⟨Nat.le_of_ble_eq_true rfl, Nat.le_of_ble_eq_true rfl⟩ (Nat.le_of_ble_eq_true rfl) dL_isRound_2 (fun v2 e9 => c_X11_account _ _ v2 e9) h (fun v2 h => ?_) rfl
  refine jn_r (fun J => ∀ (s0_16 : Int) (μ16 : mu_T), J s0_16 μ16 = some (a, μr) → wx_ G X 151 ad (ceX G ad) μ16 0 0 16 [(0, .ref (ad 132))] [.int (iI s0_16)]) h (fun s0_16 μ16 h => ?_) (fun J16 K16 h => ?_)
  · refine xx_istore_n (lv1 := [(1, .int (iI s0_16)), (0, .ref (ad 132))]) C 17 rfl (by decide) dL_isRound_16 rfl rfl ?_
    refine xx_aload_n C 18 rfl 1 dL_isRound_17 rfl rfl ?_
    refine xx_cVip (As := []) (st := []) (o := 132) C 21 rfl (by decide) (ceX_132 _ _ _) rfl rfl ca_X11_wouldFree cv_X11_wouldFree w_1112 rfl ⟨Nat.le_of_ble_eq_true rfl, Nat.le_of_ble_eq_true rfl⟩ ⟨Nat.le_of_ble_eq_true rfl, Nat.le_of_ble_eq_true rfl⟩ (Nat.le_of_ble_eq_true rfl) dL_isRound_18 (fun v18 e9 => c_X11_wouldFree _ v18 e9) h (fun v18 h => ?_) rfl
    refine xx_istore_n (lv1 := [(2, .int (iI v18)), (1, .int (iI s0_16)), (0, .ref (ad 132))]) C 22 rfl (by decide) dL_isRound_21 rfl rfl ?_
    refine xx_aload_n C 23 rfl 2 dL_isRound_22 rfl rfl ?_
    refine xx_iconst C 24 rfl dL_isRound_23 ?_
    refine xx_cVip (As := [.int (iI 3)]) (st := []) (o := 132) C 27 rfl (by decide) (ceX_132 _ _ _) rfl rfl ca_X11_account cv_X11_account w_365 rfl ⟨Nat.le_of_ble_eq_true rfl, Nat.le_of_ble_eq_true rfl⟩ ⟨Nat.le_of_ble_eq_true rfl, Nat.le_of_ble_eq_true rfl⟩ (Nat.le_of_ble_eq_true rfl) dL_isRound_24 (fun v24 e9 => c_X11_account _ _ v24 e9) h (fun v24 h => ?_) rfl
    refine xx_istore_n (lv1 := [(3, .int (iI v24)), (2, .int (iI v18)), (1, .int (iI s0_16)), (0, .ref (ad 132))]) C 28 rfl (by decide) dL_isRound_27 rfl rfl ?_
    refine xx_aload_n C 29 rfl 3 dL_isRound_28 rfl rfl ?_
    refine xx_cVi (As := []) (st := []) (o := 132) C 32 rfl (by decide) (ceX_132 _ _ _) rfl rfl ca_X11_round cv_X11_round w_598 rfl ⟨Nat.le_of_ble_eq_true rfl, Nat.le_of_ble_eq_true rfl⟩ ⟨Nat.le_of_ble_eq_true rfl, Nat.le_of_ble_eq_true rfl⟩ (Nat.le_of_ble_eq_true rfl) dL_isRound_29 (fun v29 μ29 e9 => c_X11_round _ v29 μ29 e9) h (fun v29 μ29 h => ?_) rfl
    refine xx_istore (lv1 := [(4, .int (iI v29)), (3, .int (iI v24)), (2, .int (iI v18)), (1, .int (iI s0_16)), (0, .ref (ad 132))]) C 34 rfl (by decide) dL_isRound_32 rfl ?_
    refine xx_iload_n C 35 rfl 3 dL_isRound_34 rfl rfl ?_
    refine xx_if_lt (tgt := 102) C 38 rfl dL_isRound_35 (by decide) h (fun h => ?_) (fun h => ?_)
    · exact nn_ h
    · refine xx_iload C 40 rfl 0 dL_isRound_38 rfl ?_
      refine xx_iload_n C 41 rfl 2 dL_isRound_40 rfl rfl ?_
      refine xx_cSip (As := [.int (iI v18)]) (st := [.int (iI v29)]) C 44 rfl  ca_J6_bitCount_0f7a4 cs_J6_bitCount_0f7a4 w_1094 rfl ⟨Nat.le_of_ble_eq_true rfl, Nat.le_of_ble_eq_true rfl⟩ ⟨Nat.le_of_ble_eq_true rfl, Nat.le_of_ble_eq_true rfl⟩ (Nat.le_of_ble_eq_true rfl) dL_isRound_41 (fun v41 e9 => c_J6_bitCount_0f7a4 _ _ v41 e9) h (fun v41 h => ?_) rfl
      refine xx_icmp_ne (tgt := 102) C 47 rfl dL_isRound_44 (by decide) h (fun h => ?_) (fun h => ?_)
      · exact nn_ h
      · refine xx_aload_n C 48 rfl 4 dL_isRound_47 rfl rfl ?_
        refine xx_iconst C 49 rfl dL_isRound_48 ?_
        refine xx_cVip (As := [.int (iI 3)]) (st := []) (o := 132) C 52 rfl (by decide) (ceX_132 _ _ _) rfl rfl ca_X11_account cv_X11_account w_365 rfl ⟨Nat.le_of_ble_eq_true rfl, Nat.le_of_ble_eq_true rfl⟩ ⟨Nat.le_of_ble_eq_true rfl, Nat.le_of_ble_eq_true rfl⟩ (Nat.le_of_ble_eq_true rfl) dL_isRound_49 (fun v49 e9 => c_X11_account _ _ v49 e9) h (fun v49 h => ?_) rfl
        refine xx_iload_n C 53 rfl 1 dL_isRound_52 rfl rfl ?_
        refine xx_iload C 55 rfl 0 dL_isRound_53 rfl ?_
        refine xx_isub C 56 rfl dL_isRound_55 ?_
        refine xx_icmp_ne (tgt := 102) C 59 rfl dL_isRound_56 (by decide) h (fun h => ?_) (fun h => ?_)
        · exact nn_ h
        · refine xx_aload_n C 60 rfl 4 dL_isRound_59 rfl rfl ?_
          refine xx_cVip (As := []) (st := []) (o := 132) C 63 rfl (by decide) (ceX_132 _ _ _) rfl rfl ca_X11_live cv_X11_live w_1012 rfl ⟨Nat.le_of_ble_eq_true rfl, Nat.le_of_ble_eq_true rfl⟩ ⟨Nat.le_of_ble_eq_true rfl, Nat.le_of_ble_eq_true rfl⟩ (Nat.le_of_ble_eq_true rfl) dL_isRound_60 (fun v60 e9 => c_X11_live _ v60 e9) h (fun v60 h => ?_) rfl
          refine xx_aload_n C 64 rfl 4 dL_isRound_63 rfl rfl ?_
          refine xx_cVip (As := []) (st := [.int (iI v60)]) (o := 132) C 67 rfl (by decide) (ceX_132 _ _ _) rfl rfl ca_X11_liveAgain cv_X11_liveAgain w_1100 rfl ⟨Nat.le_of_ble_eq_true rfl, Nat.le_of_ble_eq_true rfl⟩ ⟨Nat.le_of_ble_eq_true rfl, Nat.le_of_ble_eq_true rfl⟩ (Nat.le_of_ble_eq_true rfl) dL_isRound_64 (fun v64 e9 => c_X11_liveAgain _ v64 e9) h (fun v64 h => ?_) rfl
          refine xx_icmp_ne (tgt := 102) C 70 rfl dL_isRound_67 (by decide) h (fun h => ?_) (fun h => ?_)
          · exact nn_ h
          · refine xx_aload_n C 71 rfl 4 dL_isRound_70 rfl rfl ?_
            refine xx_cVip (As := []) (st := []) (o := 132) C 74 rfl (by decide) (ceX_132 _ _ _) rfl rfl ca_X11_live cv_X11_live w_1012 rfl ⟨Nat.le_of_ble_eq_true rfl, Nat.le_of_ble_eq_true rfl⟩ ⟨Nat.le_of_ble_eq_true rfl, Nat.le_of_ble_eq_true rfl⟩ (Nat.le_of_ble_eq_true rfl) dL_isRound_71 (fun v71 e9 => c_X11_live _ v71 e9) h (fun v71 h => ?_) rfl
            refine xx_cSip (As := [.int (iI v71)]) (st := []) C 77 rfl  ca_J6_bitCount_0f7a4 cs_J6_bitCount_0f7a4 w_1094 rfl ⟨Nat.le_of_ble_eq_true rfl, Nat.le_of_ble_eq_true rfl⟩ ⟨Nat.le_of_ble_eq_true rfl, Nat.le_of_ble_eq_true rfl⟩ (Nat.le_of_ble_eq_true rfl) dL_isRound_74 (fun v74 e9 => c_J6_bitCount_0f7a4 _ _ v74 e9) h (fun v74 h => ?_) rfl
            refine xx_aload_n C 78 rfl 4 dL_isRound_77 rfl rfl ?_
            refine xx_iconst C 79 rfl dL_isRound_78 ?_
            refine xx_cVip (As := [.int (iI 3)]) (st := [.int (iI v74)]) (o := 132) C 82 rfl (by decide) (ceX_132 _ _ _) rfl rfl ca_X11_account cv_X11_account w_365 rfl ⟨Nat.le_of_ble_eq_true rfl, Nat.le_of_ble_eq_true rfl⟩ ⟨Nat.le_of_ble_eq_true rfl, Nat.le_of_ble_eq_true rfl⟩ (Nat.le_of_ble_eq_true rfl) dL_isRound_79 (fun v79 e9 => c_X11_account _ _ v79 e9) h (fun v79 h => ?_) rfl
            refine xx_icmp_ne (tgt := 102) C 85 rfl dL_isRound_82 (by decide) h (fun h => ?_) (fun h => ?_)
            · exact nn_ h
            · refine xx_aload_n C 86 rfl 4 dL_isRound_85 rfl rfl ?_
              refine xx_iconst C 87 rfl dL_isRound_86 ?_
              refine xx_cVip (As := [.int (iI 4)]) (st := []) (o := 132) C 90 rfl (by decide) (ceX_132 _ _ _) rfl rfl ca_X11_account cv_X11_account w_365 rfl ⟨Nat.le_of_ble_eq_true rfl, Nat.le_of_ble_eq_true rfl⟩ ⟨Nat.le_of_ble_eq_true rfl, Nat.le_of_ble_eq_true rfl⟩ (Nat.le_of_ble_eq_true rfl) dL_isRound_87 (fun v87 e9 => c_X11_account _ _ v87 e9) h (fun v87 h => ?_) rfl
              refine xx_aload_n C 91 rfl 4 dL_isRound_90 rfl rfl ?_
              refine xx_iconst C 92 rfl dL_isRound_91 ?_
              refine xx_cVip (As := [.int (iI 3)]) (st := [.int (iI v87)]) (o := 132) C 95 rfl (by decide) (ceX_132 _ _ _) rfl rfl ca_X11_account cv_X11_account w_365 rfl ⟨Nat.le_of_ble_eq_true rfl, Nat.le_of_ble_eq_true rfl⟩ ⟨Nat.le_of_ble_eq_true rfl, Nat.le_of_ble_eq_true rfl⟩ (Nat.le_of_ble_eq_true rfl) dL_isRound_92 (fun v92 e9 => c_X11_account _ _ v92 e9) h (fun v92 h => ?_) rfl
              refine xx_icmp_ne (tgt := 102) C 98 rfl dL_isRound_95 (by decide) h (fun h => ?_) (fun h => ?_)
              · exact nn_ h
              · refine xx_iconst C 99 rfl dL_isRound_98 ?_
                refine xx_goto C 103 dL_isRound_99 (by decide) ?_
                refine xx_istore (lv1 := [(5, .int (iI 1)), (4, .int (iI v29)), (3, .int (iI v24)), (2, .int (iI v18)), (1, .int (iI s0_16)), (0, .ref (ad 132))]) C 105 rfl (by decide) dL_isRound_103 rfl ?_
                refine xx_iconst C 106 rfl dL_isRound_105 ?_
                refine xx_istore (lv1 := [(6, .int (iI 0)), (5, .int (iI 1)), (4, .int (iI v29)), (3, .int (iI v24)), (2, .int (iI v18)), (1, .int (iI s0_16)), (0, .ref (ad 132))]) C 108 rfl (by decide) dL_isRound_106 rfl ?_
                have L108 : ∀ (fu108 : Nat) (x5_108 : Int) (x6_108 : Int), f_L_isRound_o132_L108 v18 μ29 fu108 x5_108 x6_108 = some (a, μr) → wx_ G X 151 ad (ceX G ad) μ29 0 0 108 [(0, .ref (ad 132)), (2, .int (iI v18)), (5, .int (iI x5_108)), (6, .int (iI x6_108))] [] := by
                  intro fu108
                  induction fu108 with
                  | zero => intro x5_108 x6_108 h; exact nn_ h
                  | succ fu108 K108 =>
                    intro x5_108 x6_108 h
                    rw [f_L_isRound_o132_L108] at h
                    generalize f_L_isRound_o132_L108 v18 μ29 fu108 = R108 at K108 h
                    refine xx_iload C 110 rfl 3 dL_isRound_108 rfl ?_
                    refine xx_bipush C 112 rfl dL_isRound_110 (by decide) ?_
                    refine xx_icmp_ge (tgt := 154) C 115 rfl dL_isRound_112 (by decide) h (fun h => ?_) (fun h => ?_)
                    · refine xx_iload C 156 rfl 2 dL_isRound_154 rfl ?_
                      exact xx_zretz C E rfl ⟨Nat.le_of_ble_eq_true rfl, Nat.le_of_ble_eq_true rfl⟩ dL_isRound_156 h
                    · refine xx_iload C 117 rfl 2 dL_isRound_115 rfl ?_
                      refine xx_if_eq (tgt := 145) C 120 rfl dL_isRound_117 (by decide) h (fun h => ?_) (fun h => ?_)
                      · exact nn_ h
                      · refine xx_iload_n C 121 rfl 1 dL_isRound_120 rfl rfl ?_
                        refine xx_iload C 123 rfl 3 dL_isRound_121 rfl ?_
                        refine xx_ishr C 124 rfl dL_isRound_123 ?_
                        refine xx_iconst C 125 rfl dL_isRound_124 ?_
                        refine xx_iand C 126 rfl dL_isRound_125 ?_
                        refine jn_r (fun J => ∀ (_u : Unit), J _u = some (a, μr) → wx_ G X 151 ad (ceX G ad) μ29 0 0 141 [(0, .ref (ad 132)), (2, .int (iI v18)), (6, .int (iI x6_108))] []) h (fun _ h => ?_) (fun J141 K141 h => ?_)
                        · refine xx_iconst C 142 rfl dL_isRound_141 ?_
                          refine xx_goto C 146 dL_isRound_142 (by decide) ?_
                          refine xx_istore (lv1 := [(5, .int (iI 1)), (0, .ref (ad 132)), (2, .int (iI v18)), (6, .int (iI x6_108))]) C 148 rfl (by decide) dL_isRound_146 rfl ?_
                          refine xx_iincn C 151 rfl 3 (by decide) dL_isRound_148 rfl h (fun n148 h => ?_)
                          refine xx_lv (lv1 := [(6, .int (iI n148)), (5, .int (iI 1)), (0, .ref (ad 132)), (2, .int (iI v18))]) rfl ?_
                          refine xx_goto C 108 dL_isRound_151 (by decide) ?_
                          refine xx_sub [2, 3, 1, 0] rfl ?_
                          exact K108 1 n148 h
                        · refine xx_if_eq (tgt := 141) C 129 rfl dL_isRound_126 (by decide) h (fun h => ?_) (fun h => ?_)
                          · refine xx_sub [0, 1, 3] rfl ?_
                            exact K141 () h
                          · refine xx_aload_n C 130 rfl 0 dL_isRound_129 rfl rfl ?_
                            refine xx_iload C 132 rfl 3 dL_isRound_130 rfl ?_
                            refine xx_iconst C 133 rfl dL_isRound_132 ?_
                            refine xx_cVip (As := [.int (iI x6_108), .int (iI 0)]) (st := []) (o := 132) C 136 rfl (by decide) (ceX_132 _ _ _) rfl rfl ca_X11_urnOf cv_X11_urnOf w_984 rfl ⟨Nat.le_of_ble_eq_true rfl, Nat.le_of_ble_eq_true rfl⟩ ⟨Nat.le_of_ble_eq_true rfl, Nat.le_of_ble_eq_true rfl⟩ (Nat.le_of_ble_eq_true rfl) dL_isRound_133 (fun v133 e9 => c_X11_urnOf _ _ _ v133 e9) h (fun v133 h => ?_) rfl
                            refine xx_bipush C 138 rfl dL_isRound_136 (by decide) ?_
                            refine xx_icmp_ne (tgt := 145) C 141 rfl dL_isRound_138 (by decide) h (fun h => ?_) (fun h => ?_)
                            · exact nn_ h
                            · refine xx_sub [0, 1, 3] rfl ?_
                              exact K141 () h
                refine xx_sub [6, 4, 1, 0] rfl ?_
                exact L108 _ _ _ h
  · refine xx_if_le (tgt := 15) C 8 rfl dL_isRound_5 (by decide) h (fun h => ?_) (fun h => ?_)
    · refine xx_iconst C 16 rfl dL_isRound_15 ?_
      exact K16 0 μ h
    · refine xx_aload_n C 9 rfl 0 dL_isRound_8 rfl rfl ?_
      refine xx_cVi (As := []) (st := []) (o := 132) C 12 rfl (by decide) (ceX_132 _ _ _) rfl rfl ca_X11_round cv_X11_round w_598 rfl ⟨Nat.le_of_ble_eq_true rfl, Nat.le_of_ble_eq_true rfl⟩ ⟨Nat.le_of_ble_eq_true rfl, Nat.le_of_ble_eq_true rfl⟩ (Nat.le_of_ble_eq_true rfl) dL_isRound_9 (fun v9 μ9 e9 => c_X11_round _ v9 μ9 e9) h (fun v9 μ9 h => ?_) rfl
      refine xx_goto C 16 dL_isRound_12 (by decide) ?_
      exact K16 v9 μ9 h

