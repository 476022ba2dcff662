theorem dJ0_coder_7d493_0 : decode cJ0_coder_7d493 0 = .ok (.getstatic 38, 3) := by decide +kernel
theorem dJ0_coder_7d493_3 : decode cJ0_coder_7d493 3 = .ok (.ifCond .eq 10, 3) := by decide +kernel
theorem dJ0_coder_7d493_6 : decode cJ0_coder_7d493 6 = .ok (.aload_n 0, 1) := by decide +kernel
theorem dJ0_coder_7d493_7 : decode cJ0_coder_7d493 7 = .ok (.getfield 15, 3) := by decide +kernel
theorem dJ0_coder_7d493_10 : decode cJ0_coder_7d493 10 = .ok (.goto 4, 3) := by decide +kernel
theorem dJ0_coder_7d493_13 : decode cJ0_coder_7d493 13 = .ok (.iconst 1, 1) := by decide +kernel
theorem dJ0_coder_7d493_14 : decode cJ0_coder_7d493 14 = .ok (.ireturn, 1) := by decide +kernel
theorem dJ0_length_8abf5_0 : decode cJ0_length_8abf5 0 = .ok (.aload_n 0, 1) := by decide +kernel
theorem dJ0_length_8abf5_1 : decode cJ0_length_8abf5 1 = .ok (.getfield 9, 3) := by decide +kernel
theorem dJ0_length_8abf5_4 : decode cJ0_length_8abf5 4 = .ok (.arraylength, 1) := by decide +kernel
theorem dJ0_length_8abf5_5 : decode cJ0_length_8abf5 5 = .ok (.aload_n 0, 1) := by decide +kernel
theorem dJ0_length_8abf5_6 : decode cJ0_length_8abf5 6 = .ok (.invokevirtual 335, 3) := by decide +kernel
theorem dJ0_length_8abf5_9 : decode cJ0_length_8abf5 9 = .ok (.ishr, 1) := by decide +kernel
theorem dJ0_length_8abf5_10 : decode cJ0_length_8abf5 10 = .ok (.ireturn, 1) := by decide +kernel
theorem dJ0_isLatin1_aae02_0 : decode cJ0_isLatin1_aae02 0 = .ok (.getstatic 38, 3) := by decide +kernel
theorem dJ0_isLatin1_aae02_3 : decode cJ0_isLatin1_aae02 3 = .ok (.ifCond .eq 14, 3) := by decide +kernel
theorem dJ0_isLatin1_aae02_6 : decode cJ0_isLatin1_aae02 6 = .ok (.aload_n 0, 1) := by decide +kernel
theorem dJ0_isLatin1_aae02_7 : decode cJ0_isLatin1_aae02 7 = .ok (.getfield 15, 3) := by decide +kernel
theorem dJ0_isLatin1_aae02_10 : decode cJ0_isLatin1_aae02 10 = .ok (.ifCond .ne 7, 3) := by decide +kernel
theorem dJ0_isLatin1_aae02_13 : decode cJ0_isLatin1_aae02 13 = .ok (.iconst 1, 1) := by decide +kernel
theorem dJ0_isLatin1_aae02_14 : decode cJ0_isLatin1_aae02 14 = .ok (.goto 4, 3) := by decide +kernel
theorem dJ0_isLatin1_aae02_17 : decode cJ0_isLatin1_aae02 17 = .ok (.iconst 0, 1) := by decide +kernel
theorem dJ0_isLatin1_aae02_18 : decode cJ0_isLatin1_aae02 18 = .ok (.ireturn, 1) := by decide +kernel
theorem dJ3_checkIndex_8e157_0 : decode cJ3_checkIndex_8e157 0 = .ok (.iload_n 0, 1) := by decide +kernel
theorem dJ3_checkIndex_8e157_1 : decode cJ3_checkIndex_8e157 1 = .ok (.ifCond .lt 8, 3) := by decide +kernel
theorem dJ3_checkIndex_8e157_4 : decode cJ3_checkIndex_8e157 4 = .ok (.iload_n 0, 1) := by decide +kernel
theorem dJ3_checkIndex_8e157_5 : decode cJ3_checkIndex_8e157 5 = .ok (.iload_n 1, 1) := by decide +kernel
theorem dJ3_checkIndex_8e157_6 : decode cJ3_checkIndex_8e157 6 = .ok (.if_icmp .lt 10, 3) := by decide +kernel
theorem dJ3_checkIndex_8e157_9 : decode cJ3_checkIndex_8e157 9 = .ok (.aload_n 2, 1) := by decide +kernel
theorem dJ3_checkIndex_8e157_10 : decode cJ3_checkIndex_8e157 10 = .ok (.iload_n 0, 1) := by decide +kernel
theorem dJ3_checkIndex_8e157_11 : decode cJ3_checkIndex_8e157 11 = .ok (.iload_n 1, 1) := by decide +kernel
theorem dJ3_checkIndex_8e157_12 : decode cJ3_checkIndex_8e157 12 = .ok (.invokestatic 95, 3) := by decide +kernel
theorem dJ3_checkIndex_8e157_15 : decode cJ3_checkIndex_8e157 15 = .ok (.athrow, 1) := by decide +kernel
theorem dJ3_checkIndex_8e157_16 : decode cJ3_checkIndex_8e157 16 = .ok (.iload_n 0, 1) := by decide +kernel
theorem dJ3_checkIndex_8e157_17 : decode cJ3_checkIndex_8e157 17 = .ok (.ireturn, 1) := by decide +kernel
theorem dJ0_checkIndex_df160_0 : decode cJ0_checkIndex_df160 0 = .ok (.iload_n 0, 1) := by decide +kernel
theorem dJ0_checkIndex_df160_1 : decode cJ0_checkIndex_df160 1 = .ok (.iload_n 1, 1) := by decide +kernel
theorem dJ0_checkIndex_df160_2 : decode cJ0_checkIndex_df160 2 = .ok (.getstatic 1053, 3) := by decide +kernel
theorem dJ0_checkIndex_df160_5 : decode cJ0_checkIndex_df160 5 = .ok (.invokestatic 1059, 3) := by decide +kernel
theorem dJ0_checkIndex_df160_8 : decode cJ0_checkIndex_df160 8 = .ok (.pop, 1) := by decide +kernel
theorem dJ0_checkIndex_df160_9 : decode cJ0_checkIndex_df160 9 = .ok (.return_, 1) := by decide +kernel
theorem dJ1_charAt_3b067_0 : decode cJ1_charAt_3b067 0 = .ok (.iload_n 1, 1) := by decide +kernel
theorem dJ1_charAt_3b067_1 : decode cJ1_charAt_3b067 1 = .ok (.aload_n 0, 1) := by decide +kernel
theorem dJ1_charAt_3b067_2 : decode cJ1_charAt_3b067 2 = .ok (.arraylength, 1) := by decide +kernel
theorem dJ1_charAt_3b067_3 : decode cJ1_charAt_3b067 3 = .ok (.invokestatic 9, 3) := by decide +kernel
theorem dJ1_charAt_3b067_6 : decode cJ1_charAt_3b067 6 = .ok (.aload_n 0, 1) := by decide +kernel
theorem dJ1_charAt_3b067_7 : decode cJ1_charAt_3b067 7 = .ok (.iload_n 1, 1) := by decide +kernel
theorem dJ1_charAt_3b067_8 : decode cJ1_charAt_3b067 8 = .ok (.baload, 1) := by decide +kernel
theorem dJ1_charAt_3b067_9 : decode cJ1_charAt_3b067 9 = .ok (.sipush 255, 3) := by decide +kernel
theorem dJ1_charAt_3b067_12 : decode cJ1_charAt_3b067 12 = .ok (.iand, 1) := by decide +kernel
theorem dJ1_charAt_3b067_13 : decode cJ1_charAt_3b067 13 = .ok (.i2c, 1) := by decide +kernel
theorem dJ1_charAt_3b067_14 : decode cJ1_charAt_3b067 14 = .ok (.ireturn, 1) := by decide +kernel
theorem dJ0_charAt_5068e_0 : decode cJ0_charAt_5068e 0 = .ok (.aload_n 0, 1) := by decide +kernel
theorem dJ0_charAt_5068e_1 : decode cJ0_charAt_5068e 1 = .ok (.invokevirtual 492, 3) := by decide +kernel
theorem dJ0_charAt_5068e_4 : decode cJ0_charAt_5068e 4 = .ok (.ifCond .eq 12, 3) := by decide +kernel
theorem dJ0_charAt_5068e_7 : decode cJ0_charAt_5068e 7 = .ok (.aload_n 0, 1) := by decide +kernel
theorem dJ0_charAt_5068e_8 : decode cJ0_charAt_5068e 8 = .ok (.getfield 9, 3) := by decide +kernel
theorem dJ0_charAt_5068e_11 : decode cJ0_charAt_5068e 11 = .ok (.iload_n 1, 1) := by decide +kernel
theorem dJ0_charAt_5068e_12 : decode cJ0_charAt_5068e 12 = .ok (.invokestatic 495, 3) := by decide +kernel
theorem dJ0_charAt_5068e_15 : decode cJ0_charAt_5068e 15 = .ok (.ireturn, 1) := by decide +kernel
theorem dJ0_charAt_5068e_16 : decode cJ0_charAt_5068e 16 = .ok (.aload_n 0, 1) := by decide +kernel
theorem dJ0_charAt_5068e_17 : decode cJ0_charAt_5068e 17 = .ok (.getfield 9, 3) := by decide +kernel
theorem dJ0_charAt_5068e_20 : decode cJ0_charAt_5068e 20 = .ok (.iload_n 1, 1) := by decide +kernel
theorem dJ0_charAt_5068e_21 : decode cJ0_charAt_5068e 21 = .ok (.invokestatic 498, 3) := by decide +kernel
theorem dJ0_charAt_5068e_24 : decode cJ0_charAt_5068e 24 = .ok (.ireturn, 1) := by decide +kernel
theorem dJ6_bitCount_0f7a4_0 : decode cJ6_bitCount_0f7a4 0 = .ok (.iload_n 0, 1) := by decide +kernel
theorem dJ6_bitCount_0f7a4_1 : decode cJ6_bitCount_0f7a4 1 = .ok (.iload_n 0, 1) := by decide +kernel
theorem dJ6_bitCount_0f7a4_2 : decode cJ6_bitCount_0f7a4 2 = .ok (.iconst 1, 1) := by decide +kernel
theorem dJ6_bitCount_0f7a4_3 : decode cJ6_bitCount_0f7a4 3 = .ok (.iushr, 1) := by decide +kernel
theorem dJ6_bitCount_0f7a4_4 : decode cJ6_bitCount_0f7a4 4 = .ok (.ldc_w 265, 3) := by decide +kernel
theorem dJ6_bitCount_0f7a4_7 : decode cJ6_bitCount_0f7a4 7 = .ok (.iand, 1) := by decide +kernel
theorem dJ6_bitCount_0f7a4_8 : decode cJ6_bitCount_0f7a4 8 = .ok (.isub, 1) := by decide +kernel
theorem dJ6_bitCount_0f7a4_9 : decode cJ6_bitCount_0f7a4 9 = .ok (.istore_n 0, 1) := by decide +kernel
theorem dJ6_bitCount_0f7a4_10 : decode cJ6_bitCount_0f7a4 10 = .ok (.iload_n 0, 1) := by decide +kernel
theorem dJ6_bitCount_0f7a4_11 : decode cJ6_bitCount_0f7a4 11 = .ok (.ldc_w 266, 3) := by decide +kernel
theorem dJ6_bitCount_0f7a4_14 : decode cJ6_bitCount_0f7a4 14 = .ok (.iand, 1) := by decide +kernel
theorem dJ6_bitCount_0f7a4_15 : decode cJ6_bitCount_0f7a4 15 = .ok (.iload_n 0, 1) := by decide +kernel
theorem dJ6_bitCount_0f7a4_16 : decode cJ6_bitCount_0f7a4 16 = .ok (.iconst 2, 1) := by decide +kernel
theorem dJ6_bitCount_0f7a4_17 : decode cJ6_bitCount_0f7a4 17 = .ok (.iushr, 1) := by decide +kernel
theorem dJ6_bitCount_0f7a4_18 : decode cJ6_bitCount_0f7a4 18 = .ok (.ldc_w 266, 3) := by decide +kernel
theorem dJ6_bitCount_0f7a4_21 : decode cJ6_bitCount_0f7a4 21 = .ok (.iand, 1) := by decide +kernel
theorem dJ6_bitCount_0f7a4_22 : decode cJ6_bitCount_0f7a4 22 = .ok (.iadd, 1) := by decide +kernel
theorem dJ6_bitCount_0f7a4_23 : decode cJ6_bitCount_0f7a4 23 = .ok (.istore_n 0, 1) := by decide +kernel
theorem dJ6_bitCount_0f7a4_24 : decode cJ6_bitCount_0f7a4 24 = .ok (.iload_n 0, 1) := by decide +kernel
theorem dJ6_bitCount_0f7a4_25 : decode cJ6_bitCount_0f7a4 25 = .ok (.iload_n 0, 1) := by decide +kernel
theorem dJ6_bitCount_0f7a4_26 : decode cJ6_bitCount_0f7a4 26 = .ok (.iconst 4, 1) := by decide +kernel
theorem dJ6_bitCount_0f7a4_27 : decode cJ6_bitCount_0f7a4 27 = .ok (.iushr, 1) := by decide +kernel
theorem dJ6_bitCount_0f7a4_28 : decode cJ6_bitCount_0f7a4 28 = .ok (.iadd, 1) := by decide +kernel
theorem dJ6_bitCount_0f7a4_29 : decode cJ6_bitCount_0f7a4 29 = .ok (.ldc_w 267, 3) := by decide +kernel
theorem dJ6_bitCount_0f7a4_32 : decode cJ6_bitCount_0f7a4 32 = .ok (.iand, 1) := by decide +kernel
theorem dJ6_bitCount_0f7a4_33 : decode cJ6_bitCount_0f7a4 33 = .ok (.istore_n 0, 1) := by decide +kernel
theorem dJ6_bitCount_0f7a4_34 : decode cJ6_bitCount_0f7a4 34 = .ok (.iload_n 0, 1) := by decide +kernel
theorem dJ6_bitCount_0f7a4_35 : decode cJ6_bitCount_0f7a4 35 = .ok (.iload_n 0, 1) := by decide +kernel
theorem dJ6_bitCount_0f7a4_36 : decode cJ6_bitCount_0f7a4 36 = .ok (.bipush 8, 2) := by decide +kernel
theorem dJ6_bitCount_0f7a4_38 : decode cJ6_bitCount_0f7a4 38 = .ok (.iushr, 1) := by decide +kernel
theorem dJ6_bitCount_0f7a4_39 : decode cJ6_bitCount_0f7a4 39 = .ok (.iadd, 1) := by decide +kernel
theorem dJ6_bitCount_0f7a4_40 : decode cJ6_bitCount_0f7a4 40 = .ok (.istore_n 0, 1) := by decide +kernel
theorem dJ6_bitCount_0f7a4_41 : decode cJ6_bitCount_0f7a4 41 = .ok (.iload_n 0, 1) := by decide +kernel
theorem dJ6_bitCount_0f7a4_42 : decode cJ6_bitCount_0f7a4 42 = .ok (.iload_n 0, 1) := by decide +kernel
theorem dJ6_bitCount_0f7a4_43 : decode cJ6_bitCount_0f7a4 43 = .ok (.bipush 16, 2) := by decide +kernel
theorem dJ6_bitCount_0f7a4_45 : decode cJ6_bitCount_0f7a4 45 = .ok (.iushr, 1) := by decide +kernel
theorem dJ6_bitCount_0f7a4_46 : decode cJ6_bitCount_0f7a4 46 = .ok (.iadd, 1) := by decide +kernel
theorem dJ6_bitCount_0f7a4_47 : decode cJ6_bitCount_0f7a4 47 = .ok (.istore_n 0, 1) := by decide +kernel
theorem dJ6_bitCount_0f7a4_48 : decode cJ6_bitCount_0f7a4 48 = .ok (.iload_n 0, 1) := by decide +kernel
theorem dJ6_bitCount_0f7a4_49 : decode cJ6_bitCount_0f7a4 49 = .ok (.bipush 63, 2) := by decide +kernel
theorem dJ6_bitCount_0f7a4_51 : decode cJ6_bitCount_0f7a4 51 = .ok (.iand, 1) := by decide +kernel
theorem dJ6_bitCount_0f7a4_52 : decode cJ6_bitCount_0f7a4 52 = .ok (.ireturn, 1) := by decide +kernel
theorem dJ6_stringSize_0f7a4_0 : decode cJ6_stringSize_0f7a4 0 = .ok (.iconst 1, 1) := by decide +kernel
theorem dJ6_stringSize_0f7a4_1 : decode cJ6_stringSize_0f7a4 1 = .ok (.istore_n 1, 1) := by decide +kernel
theorem dJ6_stringSize_0f7a4_2 : decode cJ6_stringSize_0f7a4 2 = .ok (.iload_n 0, 1) := by decide +kernel
theorem dJ6_stringSize_0f7a4_3 : decode cJ6_stringSize_0f7a4 3 = .ok (.ifCond .lt 8, 3) := by decide +kernel
theorem dJ6_stringSize_0f7a4_6 : decode cJ6_stringSize_0f7a4 6 = .ok (.iconst 0, 1) := by decide +kernel
theorem dJ6_stringSize_0f7a4_7 : decode cJ6_stringSize_0f7a4 7 = .ok (.istore_n 1, 1) := by decide +kernel
theorem dJ6_stringSize_0f7a4_8 : decode cJ6_stringSize_0f7a4 8 = .ok (.iload_n 0, 1) := by decide +kernel
theorem dJ6_stringSize_0f7a4_9 : decode cJ6_stringSize_0f7a4 9 = .ok (.ineg, 1) := by decide +kernel
theorem dJ6_stringSize_0f7a4_10 : decode cJ6_stringSize_0f7a4 10 = .ok (.istore_n 0, 1) := by decide +kernel
theorem dJ6_stringSize_0f7a4_11 : decode cJ6_stringSize_0f7a4 11 = .ok (.bipush (-10), 2) := by decide +kernel
theorem dJ6_stringSize_0f7a4_13 : decode cJ6_stringSize_0f7a4 13 = .ok (.istore_n 2, 1) := by decide +kernel
theorem dJ6_stringSize_0f7a4_14 : decode cJ6_stringSize_0f7a4 14 = .ok (.iconst 1, 1) := by decide +kernel
theorem dJ6_stringSize_0f7a4_15 : decode cJ6_stringSize_0f7a4 15 = .ok (.istore_n 3, 1) := by decide +kernel
theorem dJ6_stringSize_0f7a4_16 : decode cJ6_stringSize_0f7a4 16 = .ok (.iload_n 3, 1) := by decide +kernel
theorem dJ6_stringSize_0f7a4_17 : decode cJ6_stringSize_0f7a4 17 = .ok (.bipush 10, 2) := by decide +kernel
theorem dJ6_stringSize_0f7a4_19 : decode cJ6_stringSize_0f7a4 19 = .ok (.if_icmp .ge 23, 3) := by decide +kernel
theorem dJ6_stringSize_0f7a4_22 : decode cJ6_stringSize_0f7a4 22 = .ok (.iload_n 0, 1) := by decide +kernel
theorem dJ6_stringSize_0f7a4_23 : decode cJ6_stringSize_0f7a4 23 = .ok (.iload_n 2, 1) := by decide +kernel
theorem dJ6_stringSize_0f7a4_24 : decode cJ6_stringSize_0f7a4 24 = .ok (.if_icmp .le 7, 3) := by decide +kernel
theorem dJ6_stringSize_0f7a4_27 : decode cJ6_stringSize_0f7a4 27 = .ok (.iload_n 3, 1) := by decide +kernel
theorem dJ6_stringSize_0f7a4_28 : decode cJ6_stringSize_0f7a4 28 = .ok (.iload_n 1, 1) := by decide +kernel
theorem dJ6_stringSize_0f7a4_29 : decode cJ6_stringSize_0f7a4 29 = .ok (.iadd, 1) := by decide +kernel
theorem dJ6_stringSize_0f7a4_30 : decode cJ6_stringSize_0f7a4 30 = .ok (.ireturn, 1) := by decide +kernel
theorem dJ6_stringSize_0f7a4_31 : decode cJ6_stringSize_0f7a4 31 = .ok (.bipush 10, 2) := by decide +kernel
theorem dJ6_stringSize_0f7a4_33 : decode cJ6_stringSize_0f7a4 33 = .ok (.iload_n 2, 1) := by decide +kernel
theorem dJ6_stringSize_0f7a4_34 : decode cJ6_stringSize_0f7a4 34 = .ok (.imul, 1) := by decide +kernel
theorem dJ6_stringSize_0f7a4_35 : decode cJ6_stringSize_0f7a4 35 = .ok (.istore_n 2, 1) := by decide +kernel
theorem dJ6_stringSize_0f7a4_36 : decode cJ6_stringSize_0f7a4 36 = .ok (.iinc 3 1, 3) := by decide +kernel
theorem dJ6_stringSize_0f7a4_39 : decode cJ6_stringSize_0f7a4 39 = .ok (.goto (-23), 3) := by decide +kernel
theorem dJ6_stringSize_0f7a4_42 : decode cJ6_stringSize_0f7a4 42 = .ok (.bipush 10, 2) := by decide +kernel
theorem dJ6_stringSize_0f7a4_44 : decode cJ6_stringSize_0f7a4 44 = .ok (.iload_n 1, 1) := by decide +kernel
theorem dJ6_stringSize_0f7a4_45 : decode cJ6_stringSize_0f7a4 45 = .ok (.iadd, 1) := by decide +kernel
theorem dJ6_stringSize_0f7a4_46 : decode cJ6_stringSize_0f7a4 46 = .ok (.ireturn, 1) := by decide +kernel
theorem dJ1_canEncode_fc78d_0 : decode cJ1_canEncode_fc78d 0 = .ok (.iload_n 0, 1) := by decide +kernel
theorem dJ1_canEncode_fc78d_1 : decode cJ1_canEncode_fc78d 1 = .ok (.sipush 255, 3) := by decide +kernel
theorem dJ1_canEncode_fc78d_4 : decode cJ1_canEncode_fc78d 4 = .ok (.if_icmp .gt 7, 3) := by decide +kernel
theorem dJ1_canEncode_fc78d_7 : decode cJ1_canEncode_fc78d 7 = .ok (.iconst 1, 1) := by decide +kernel
theorem dJ1_canEncode_fc78d_8 : decode cJ1_canEncode_fc78d 8 = .ok (.goto 4, 3) := by decide +kernel
theorem dJ1_canEncode_fc78d_11 : decode cJ1_canEncode_fc78d 11 = .ok (.iconst 0, 1) := by decide +kernel
theorem dJ1_canEncode_fc78d_12 : decode cJ1_canEncode_fc78d 12 = .ok (.ireturn, 1) := by decide +kernel
theorem dJx29ce0_ordinal_8abf5_0 : decode cJx29ce0_ordinal_8abf5 0 = .ok (.aload_n 0, 1) := by decide +kernel
theorem dJx29ce0_ordinal_8abf5_1 : decode cJx29ce0_ordinal_8abf5 1 = .ok (.getfield 7, 3) := by decide +kernel
theorem dJx29ce0_ordinal_8abf5_4 : decode cJx29ce0_ordinal_8abf5 4 = .ok (.ireturn, 1) := by decide +kernel
def f_J0_coder_7d493 (μ : mu_T) (a0 : Int) : Option Int :=
  eq_ 1 0
      (some 1)
      (gd_ (0 ≤ a0 ∧ a0 < 16) (some 0))
set_option maxHeartbeats 4000000 in
set_option maxRecDepth 100000 in
theorem c_J0_coder_7d493 {G : gp_} {N : Nat} {ce : Nat → (Int → Int) → va_E} {ad : Nat → Nat} (μ : mu_T) (a0 : Int) (a : Int) (h : f_J0_coder_7d493 μ a0 = some a) : mi_ yJ0_coder_7d493 cJ0_coder_7d493 1 (some .byte) ({ frames := 0, cells := 0, slots := 0, locals := 0 } : Room) G N ad ce [.ref (G.2.1 (200 + (a0 : Int).toNat))] μ a μ := by
  refine mi_in (own := "java/lang/String") (lv := [(0, .ref (G.2.1 (200 + (a0 : Int).toNat)))]) (by decide) rfl rfl (Nat.le_of_ble_eq_true rfl) (fun X C E => ?_)
  unfold f_J0_coder_7d493 at h
  refine xx_gcs C 3 rfl w_698 dJ0_coder_7d493_0 ?_
  refine xx_if_eq (tgt := 13) C 6 rfl dJ0_coder_7d493_3 (by decide) h (fun h => ?_) (fun h => ?_)
  · refine xx_iconst C 14 rfl dJ0_coder_7d493_13 ?_
    exact xx_zretl C E rfl rfl ⟨Nat.le_of_ble_eq_true rfl, Nat.le_of_ble_eq_true rfl⟩ dJ0_coder_7d493_14 h
  · refine xx_aload_n C 7 rfl 0 dJ0_coder_7d493_6 rfl rfl ?_
    refine xx_strc C 10 rfl w_806 dJ0_coder_7d493_7 h (fun h => ?_)
    refine xx_goto C 14 dJ0_coder_7d493_10 (by decide) ?_
    exact xx_zretl C E rfl rfl ⟨Nat.le_of_ble_eq_true rfl, Nat.le_of_ble_eq_true rfl⟩ dJ0_coder_7d493_14 h

def f_J0_length_8abf5 (μ : mu_T) (a0 : Int) : Option Int :=
  gd_ (0 ≤ a0 ∧ a0 < 16) (gd_ (0 ≤ a0 ∧ a0 < 16) (gd_ (0 ≤ a0 ∧ a0 < 16) (bd_ (f_J0_coder_7d493 μ a0) (fun v6 => some (sr_ (sn_ a0) v6)))))
set_option maxHeartbeats 4000000 in
set_option maxRecDepth 100000 in
theorem c_J0_length_8abf5 {G : gp_} {N : Nat} {ce : Nat → (Int → Int) → va_E} {ad : Nat → Nat} (μ : mu_T) (a0 : Int) (a : Int) (h : f_J0_length_8abf5 μ a0 = some a) : mi_ yJ0_length_8abf5 cJ0_length_8abf5 1 (some .int) ({ frames := 1, cells := 0, slots := 0, locals := 20 } : Room) G N ad ce [.ref (G.2.1 (200 + (a0 : Int).toNat))] μ a μ := by
  refine mi_in (own := "java/lang/String") (lv := [(0, .ref (G.2.1 (200 + (a0 : Int).toNat)))]) (by decide) rfl rfl (Nat.le_of_ble_eq_true rfl) (fun X C E => ?_)
  unfold f_J0_length_8abf5 at h
  refine xx_aload_n C 1 rfl 0 dJ0_length_8abf5_0 rfl rfl ?_
  refine xx_strv C 4 rfl w_805 dJ0_length_8abf5_1 h (fun h => ?_)
  refine xx_svlen C 5 rfl dJ0_length_8abf5_4 h (fun h => ?_)
  refine xx_aload_n C 6 rfl 0 dJ0_length_8abf5_5 rfl rfl ?_
  refine xx_cKip (As := []) (st := [.int (iI (sn_ a0))]) (z := a0) C 9 rfl rfl ca_J0_coder_7d493 cv_J0_coder_7d493 w_694 rfl ⟨Nat.le_of_ble_eq_true rfl, Nat.le_of_ble_eq_true rfl⟩ ⟨Nat.le_of_ble_eq_true rfl, Nat.le_of_ble_eq_true rfl⟩ (Nat.le_of_ble_eq_true rfl) dJ0_length_8abf5_6 (fun v6 e9 => c_J0_coder_7d493 _ _ v6 e9) h (fun v6 h => ?_) rfl
  refine xx_ishr C 10 rfl dJ0_length_8abf5_9 ?_
  exact xx_iretp C E rfl ⟨Nat.le_of_ble_eq_true rfl, Nat.le_of_ble_eq_true rfl⟩ dJ0_length_8abf5_10 h

def f_J0_isLatin1_aae02 (μ : mu_T) (a0 : Int) : Option Int :=
  eq_ 1 0
      (some 0)
      (gd_ (0 ≤ a0 ∧ a0 < 16) (eq_ 0 0
      (some 1)
      (some 0)))
set_option maxHeartbeats 4000000 in
set_option maxRecDepth 100000 in
theorem c_J0_isLatin1_aae02 {G : gp_} {N : Nat} {ce : Nat → (Int → Int) → va_E} {ad : Nat → Nat} (μ : mu_T) (a0 : Int) (a : Int) (h : f_J0_isLatin1_aae02 μ a0 = some a) : mi_ yJ0_isLatin1_aae02 cJ0_isLatin1_aae02 1 (some .boolean) ({ frames := 0, cells := 0, slots := 0, locals := 0 } : Room) G N ad ce [.ref (G.2.1 (200 + (a0 : Int).toNat))] μ a μ := by
  refine mi_in (own := "java/lang/String") (lv := [(0, .ref (G.2.1 (200 + (a0 : Int).toNat)))]) (by decide) rfl rfl (Nat.le_of_ble_eq_true rfl) (fun X C E => ?_)
  unfold f_J0_isLatin1_aae02 at h
  refine xx_gcs C 3 rfl w_698 dJ0_isLatin1_aae02_0 ?_
  refine xx_if_eq (tgt := 17) C 6 rfl dJ0_isLatin1_aae02_3 (by decide) h (fun h => ?_) (fun h => ?_)
  · refine xx_iconst C 18 rfl dJ0_isLatin1_aae02_17 ?_
    exact xx_zretl C E rfl rfl ⟨Nat.le_of_ble_eq_true rfl, Nat.le_of_ble_eq_true rfl⟩ dJ0_isLatin1_aae02_18 h
  · refine xx_aload_n C 7 rfl 0 dJ0_isLatin1_aae02_6 rfl rfl ?_
    refine xx_strc C 10 rfl w_806 dJ0_isLatin1_aae02_7 h (fun h => ?_)
    refine xx_if_ne (tgt := 17) C 13 rfl dJ0_isLatin1_aae02_10 (by decide) h (fun h => ?_) (fun h => ?_)
    · refine xx_iconst C 18 rfl dJ0_isLatin1_aae02_17 ?_
      exact xx_zretl C E rfl rfl ⟨Nat.le_of_ble_eq_true rfl, Nat.le_of_ble_eq_true rfl⟩ dJ0_isLatin1_aae02_18 h
    · refine xx_iconst C 14 rfl dJ0_isLatin1_aae02_13 ?_
      refine xx_goto C 18 dJ0_isLatin1_aae02_14 (by decide) ?_
      exact xx_zretl C E rfl rfl ⟨Nat.le_of_ble_eq_true rfl, Nat.le_of_ble_eq_true rfl⟩ dJ0_isLatin1_aae02_18 h

def f_J3_checkIndex_8e157 (μ : mu_T) (a0 : Int) (a1 : Int) : Option Int :=
  lt_ a0 0
      (none)
      (lt_ a0 a1
      (some a0)
      (none))
set_option maxHeartbeats 4000000 in
set_option maxRecDepth 100000 in
theorem c_J3_checkIndex_8e157 {G : gp_} {N : Nat} {ce : Nat → (Int → Int) → va_E} {ad : Nat → Nat} (μ : mu_T) (a0 : Int) (a1 : Int) (a : Int) (h : f_J3_checkIndex_8e157 μ a0 a1 = some a) : mi_ yJ3_checkIndex_8e157 cJ3_checkIndex_8e157 3 (some .int) ({ frames := 0, cells := 0, slots := 0, locals := 0 } : Room) G N ad ce [.int (iI a0), .int (iI a1), va_rf (gz_ G)] μ a μ := by
  generalize gz_ G = o9
  cases o9 with
  | none =>
    refine mi_in (own := "jdk/internal/util/Preconditions") (lv := [(0, .int (iI a0)), (1, .int (iI a1)), (2, .null)]) (by decide) rfl rfl (Nat.le_of_ble_eq_true rfl) (fun X C E => ?_)
    unfold f_J3_checkIndex_8e157 at h
    refine xx_iload_n C 1 rfl 0 dJ3_checkIndex_8e157_0 rfl rfl ?_
    refine xx_if_lt (tgt := 9) C 4 rfl dJ3_checkIndex_8e157_1 (by decide) h (fun h => ?_) (fun h => ?_)
    · exact nn_ h
    · refine xx_iload_n C 5 rfl 0 dJ3_checkIndex_8e157_4 rfl rfl ?_
      refine xx_iload_n C 6 rfl 1 dJ3_checkIndex_8e157_5 rfl rfl ?_
      refine xx_icmp_lt (tgt := 16) C 9 rfl dJ3_checkIndex_8e157_6 (by decide) h (fun h => ?_) (fun h => ?_)
      · refine xx_iload_n C 17 rfl 0 dJ3_checkIndex_8e157_16 rfl rfl ?_
        exact xx_iretp C E rfl ⟨Nat.le_of_ble_eq_true rfl, Nat.le_of_ble_eq_true rfl⟩ dJ3_checkIndex_8e157_17 h
      · exact nn_ h
  | some q9 =>
    refine mi_in (own := "jdk/internal/util/Preconditions") (lv := [(0, .int (iI a0)), (1, .int (iI a1)), (2, .ref q9)]) (by decide) rfl rfl (Nat.le_of_ble_eq_true rfl) (fun X C E => ?_)
    unfold f_J3_checkIndex_8e157 at h
    refine xx_iload_n C 1 rfl 0 dJ3_checkIndex_8e157_0 rfl rfl ?_
    refine xx_if_lt (tgt := 9) C 4 rfl dJ3_checkIndex_8e157_1 (by decide) h (fun h => ?_) (fun h => ?_)
    · exact nn_ h
    · refine xx_iload_n C 5 rfl 0 dJ3_checkIndex_8e157_4 rfl rfl ?_
      refine xx_iload_n C 6 rfl 1 dJ3_checkIndex_8e157_5 rfl rfl ?_
      refine xx_icmp_lt (tgt := 16) C 9 rfl dJ3_checkIndex_8e157_6 (by decide) h (fun h => ?_) (fun h => ?_)
      · refine xx_iload_n C 17 rfl 0 dJ3_checkIndex_8e157_16 rfl rfl ?_
        exact xx_iretp C E rfl ⟨Nat.le_of_ble_eq_true rfl, Nat.le_of_ble_eq_true rfl⟩ dJ3_checkIndex_8e157_17 h
      · exact nn_ h

def f_J0_checkIndex_df160 (μ : mu_T) (a0 : Int) (a1 : Int) : Option Unit :=
  bd_ (f_J3_checkIndex_8e157 μ a0 a1) (fun v5 => some ())
set_option maxHeartbeats 4000000 in
set_option maxRecDepth 100000 in
theorem c_J0_checkIndex_df160 {G : gp_} {N : Nat} {ce : Nat → (Int → Int) → va_E} {ad : Nat → Nat} (μ : mu_T) (a0 : Int) (a1 : Int) (u9 : Unit) (h : f_J0_checkIndex_df160 μ a0 a1 = some u9) : mv_ yJ0_checkIndex_df160 cJ0_checkIndex_df160 2 ({ frames := 1, cells := 0, slots := 0, locals := 22 } : Room) G N ad ce [.int (iI a0), .int (iI a1)] μ μ := by
  refine mv_in (own := "java/lang/String") (lv := [(0, .int (iI a0)), (1, .int (iI a1))]) (by decide) rfl rfl (Nat.le_of_ble_eq_true rfl) (fun X C E => ?_)
  unfold f_J0_checkIndex_df160 at h
  refine xx_iload_n C 1 rfl 0 dJ0_checkIndex_df160_0 rfl rfl ?_
  refine xx_iload_n C 2 rfl 1 dJ0_checkIndex_df160_1 rfl rfl ?_
  refine xx_gsf C 5 rfl w_676 dJ0_checkIndex_df160_2 ?_
  refine xx_cSip (As := [.int (iI a0), .int (iI a1), va_rf (gz_ G)]) (st := []) C 8 rfl  ca_J3_checkIndex_8e157 cs_J3_checkIndex_8e157 w_834 rfl ⟨Nat.le_of_ble_eq_true rfl, Nat.le_of_ble_eq_true rfl⟩ ⟨Nat.le_of_ble_eq_true rfl, Nat.le_of_ble_eq_true rfl⟩ (Nat.le_of_ble_eq_true rfl) dJ0_checkIndex_df160_5 (fun v5 e9 => c_J3_checkIndex_8e157 _ _ _ v5 e9) h (fun v5 h => ?_) rfl
  refine xx_pop C 9 rfl dJ0_checkIndex_df160_8 rfl ?_
  exact xx_vretp C E rfl ⟨Nat.le_of_ble_eq_true rfl, Nat.le_of_ble_eq_true rfl⟩ dJ0_checkIndex_df160_9 h

def f_J1_charAt_3b067 (μ : mu_T) (a0 : Int) (a1 : Int) : Option Int :=
  gd_ (0 ≤ a0 ∧ a0 < 16) (bd_ (f_J0_checkIndex_df160 μ a1 (sn_ a0)) (fun u3 => rs_ a0 a1 (fun v8 => rc_ (i2c_ (an_ v8 255)))))
set_option maxHeartbeats 4000000 in
set_option maxRecDepth 100000 in
theorem c_J1_charAt_3b067 {G : gp_} {N : Nat} {ce : Nat → (Int → Int) → va_E} {ad : Nat → Nat} (μ : mu_T) (a0 : Int) (a1 : Int) (a : Int) (h : f_J1_charAt_3b067 μ a0 a1 = some a) : mi_ yJ1_charAt_3b067 cJ1_charAt_3b067 2 (some .char) ({ frames := 2, cells := 0, slots := 0, locals := 43 } : Room) G N ad ce [.ref (G.2.1 (300 + (a0 : Int).toNat)), .int (iI a1)] μ a μ := by
  refine mi_in (own := "java/lang/StringLatin1") (lv := [(0, .ref (G.2.1 (300 + (a0 : Int).toNat))), (1, .int (iI a1))]) (by decide) rfl rfl (Nat.le_of_ble_eq_true rfl) (fun X C E => ?_)
  unfold f_J1_charAt_3b067 at h
  refine xx_iload_n C 1 rfl 1 dJ1_charAt_3b067_0 rfl rfl ?_
  refine xx_aload_n C 2 rfl 0 dJ1_charAt_3b067_1 rfl rfl ?_
  refine xx_svlen C 3 rfl dJ1_charAt_3b067_2 h (fun h => ?_)
  refine xx_cSvp (As := [.int (iI a1), .int (iI (sn_ a0))]) (st := []) C 6 rfl  ca_J0_checkIndex_df160 cs_J0_checkIndex_df160 w_831 rfl ⟨Nat.le_of_ble_eq_true rfl, Nat.le_of_ble_eq_true rfl⟩ ⟨Nat.le_of_ble_eq_true rfl, Nat.le_of_ble_eq_true rfl⟩ (Nat.le_of_ble_eq_true rfl) dJ1_charAt_3b067_3 (fun u3 e9 => c_J0_checkIndex_df160 _ _ _ u3 e9) h (fun u3 h => ?_) rfl
  refine xx_aload_n C 7 rfl 0 dJ1_charAt_3b067_6 rfl rfl ?_
  refine xx_iload_n C 8 rfl 1 dJ1_charAt_3b067_7 rfl rfl ?_
  refine xx_svld C 9 rfl dJ1_charAt_3b067_8 h (fun v8 h => ?_)
  refine xx_sipush C 12 rfl dJ1_charAt_3b067_9 (by decide) ?_
  refine xx_iand C 13 rfl dJ1_charAt_3b067_12 ?_
  refine xx_i2c C 14 rfl dJ1_charAt_3b067_13 ?_
  exact xx_cretp C E rfl ⟨Nat.le_of_ble_eq_true rfl, Nat.le_of_ble_eq_true rfl⟩ dJ1_charAt_3b067_14 h

def f_J0_charAt_5068e (μ : mu_T) (a0 : Int) (a1 : Int) : Option Int :=
  gd_ (0 ≤ a0 ∧ a0 < 16) (bd_ (f_J0_isLatin1_aae02 μ a0) (fun v1 => eq_ v1 0
      (gd_ (0 ≤ a0 ∧ a0 < 16) (none))
      (gd_ (0 ≤ a0 ∧ a0 < 16) (bd_ (f_J1_charAt_3b067 μ a0 a1) (fun v12 => rc_ v12)))))
set_option maxHeartbeats 4000000 in
set_option maxRecDepth 100000 in
theorem c_J0_charAt_5068e {G : gp_} {N : Nat} {ce : Nat → (Int → Int) → va_E} {ad : Nat → Nat} (μ : mu_T) (a0 : Int) (a1 : Int) (a : Int) (h : f_J0_charAt_5068e μ a0 a1 = some a) : mi_ yJ0_charAt_5068e cJ0_charAt_5068e 2 (some .char) ({ frames := 3, cells := 0, slots := 0, locals := 64 } : Room) G N ad ce [.ref (G.2.1 (200 + (a0 : Int).toNat)), .int (iI a1)] μ a μ := by
  refine mi_in (own := "java/lang/String") (lv := [(0, .ref (G.2.1 (200 + (a0 : Int).toNat))), (1, .int (iI a1))]) (by decide) rfl rfl (Nat.le_of_ble_eq_true rfl) (fun X C E => ?_)
  unfold f_J0_charAt_5068e at h
  refine xx_aload_n C 1 rfl 0 dJ0_charAt_5068e_0 rfl rfl ?_
  refine xx_cKip (As := []) (st := []) (z := a0) C 4 rfl rfl ca_J0_isLatin1_aae02 cv_J0_isLatin1_aae02 w_824 rfl ⟨Nat.le_of_ble_eq_true rfl, Nat.le_of_ble_eq_true rfl⟩ ⟨Nat.le_of_ble_eq_true rfl, Nat.le_of_ble_eq_true rfl⟩ (Nat.le_of_ble_eq_true rfl) dJ0_charAt_5068e_1 (fun v1 e9 => c_J0_isLatin1_aae02 _ _ v1 e9) h (fun v1 h => ?_) rfl
  refine xx_if_eq (tgt := 16) C 7 rfl dJ0_charAt_5068e_4 (by decide) h (fun h => ?_) (fun h => ?_)
  · refine xx_aload_n C 17 rfl 0 dJ0_charAt_5068e_16 rfl rfl ?_
    refine xx_strv C 20 rfl w_805 dJ0_charAt_5068e_17 h (fun h => ?_)
    refine xx_iload_n C 21 rfl 1 dJ0_charAt_5068e_20 rfl rfl ?_
    exact nn_ h
  · refine xx_aload_n C 8 rfl 0 dJ0_charAt_5068e_7 rfl rfl ?_
    refine xx_strv C 11 rfl w_805 dJ0_charAt_5068e_8 h (fun h => ?_)
    refine xx_iload_n C 12 rfl 1 dJ0_charAt_5068e_11 rfl rfl ?_
    refine xx_cSip (As := [.ref (G.2.1 (300 + (a0 : Int).toNat)), .int (iI a1)]) (st := []) C 15 rfl  ca_J1_charAt_3b067 cs_J1_charAt_3b067 w_828 rfl ⟨Nat.le_of_ble_eq_true rfl, Nat.le_of_ble_eq_true rfl⟩ ⟨Nat.le_of_ble_eq_true rfl, Nat.le_of_ble_eq_true rfl⟩ (Nat.le_of_ble_eq_true rfl) dJ0_charAt_5068e_12 (fun v12 e9 => c_J1_charAt_3b067 _ _ _ v12 e9) h (fun v12 h => ?_) rfl
    exact xx_cretp C E rfl ⟨Nat.le_of_ble_eq_true rfl, Nat.le_of_ble_eq_true rfl⟩ dJ0_charAt_5068e_15 h

def f_J6_bitCount_0f7a4 (μ : mu_T) (a0 : Int) : Option Int :=
  nm_ ((a0 - (an_ (su_ a0 1) 1431655765))) (fun n9 => nm_ (((an_ n9 858993459) + (an_ (su_ n9 2) 858993459))) (fun n23 => nm_ ((an_ (n23 + (su_ n23 4)) 252645135)) (fun n33 => nm_ ((n33 + (su_ n33 8))) (fun n40 => nm_ ((n40 + (su_ n40 16))) (fun n47 => some (an_ n47 63))))))
set_option maxHeartbeats 4000000 in
set_option maxRecDepth 100000 in
theorem c_J6_bitCount_0f7a4 {G : gp_} {N : Nat} {ce : Nat → (Int → Int) → va_E} {ad : Nat → Nat} (μ : mu_T) (a0 : Int) (a : Int) (h : f_J6_bitCount_0f7a4 μ a0 = some a) : mi_ yJ6_bitCount_0f7a4 cJ6_bitCount_0f7a4 1 (some .int) ({ frames := 0, cells := 0, slots := 0, locals := 0 } : Room) G N ad ce [.int (iI a0)] μ a μ := by
  refine mi_in (own := "java/lang/Integer") (lv := [(0, .int (iI a0))]) (by decide) rfl rfl (Nat.le_of_ble_eq_true rfl) (fun X C E => ?_)
  unfold f_J6_bitCount_0f7a4 at h
  refine xx_iload_n C 1 rfl 0 dJ6_bitCount_0f7a4_0 rfl rfl ?_
  refine xx_iload_n C 2 rfl 0 dJ6_bitCount_0f7a4_1 rfl rfl ?_
  refine xx_iconst C 3 rfl dJ6_bitCount_0f7a4_2 ?_
  refine xx_iushr C 4 rfl dJ6_bitCount_0f7a4_3 ?_
  refine xx_ldcwi C 7 rfl (v := 1431655765) w_1097 dJ6_bitCount_0f7a4_4 ?_
  refine xx_iand C 8 rfl dJ6_bitCount_0f7a4_7 ?_
  refine xx_isub C 9 rfl dJ6_bitCount_0f7a4_8 ?_
  refine xx_nm C h (fun n9 h => ?_)
  refine xx_istore_n (lv1 := [(0, .int (iI n9))]) C 10 rfl (by decide) dJ6_bitCount_0f7a4_9 rfl rfl ?_
  refine xx_iload_n C 11 rfl 0 dJ6_bitCount_0f7a4_10 rfl rfl ?_
  refine xx_ldcwi C 14 rfl (v := 858993459) w_1098 dJ6_bitCount_0f7a4_11 ?_
  refine xx_iand C 15 rfl dJ6_bitCount_0f7a4_14 ?_
  refine xx_iload_n C 16 rfl 0 dJ6_bitCount_0f7a4_15 rfl rfl ?_
  refine xx_iconst C 17 rfl dJ6_bitCount_0f7a4_16 ?_
  refine xx_iushr C 18 rfl dJ6_bitCount_0f7a4_17 ?_
  refine xx_ldcwi C 21 rfl (v := 858993459) w_1098 dJ6_bitCount_0f7a4_18 ?_
  refine xx_iand C 22 rfl dJ6_bitCount_0f7a4_21 ?_
  refine xx_iadd C 23 rfl dJ6_bitCount_0f7a4_22 ?_
  refine xx_nm C h (fun n23 h => ?_)
  refine xx_istore_n (lv1 := [(0, .int (iI n23))]) C 24 rfl (by decide) dJ6_bitCount_0f7a4_23 rfl rfl ?_
  refine xx_iload_n C 25 rfl 0 dJ6_bitCount_0f7a4_24 rfl rfl ?_
  refine xx_iload_n C 26 rfl 0 dJ6_bitCount_0f7a4_25 rfl rfl ?_
  refine xx_iconst C 27 rfl dJ6_bitCount_0f7a4_26 ?_
  refine xx_iushr C 28 rfl dJ6_bitCount_0f7a4_27 ?_
  refine xx_iadd C 29 rfl dJ6_bitCount_0f7a4_28 ?_
  refine xx_ldcwi C 32 rfl (v := 252645135) w_1099 dJ6_bitCount_0f7a4_29 ?_
  refine xx_iand C 33 rfl dJ6_bitCount_0f7a4_32 ?_
  refine xx_nm C h (fun n33 h => ?_)
  refine xx_istore_n (lv1 := [(0, .int (iI n33))]) C 34 rfl (by decide) dJ6_bitCount_0f7a4_33 rfl rfl ?_
  refine xx_iload_n C 35 rfl 0 dJ6_bitCount_0f7a4_34 rfl rfl ?_
  refine xx_iload_n C 36 rfl 0 dJ6_bitCount_0f7a4_35 rfl rfl ?_
  refine xx_bipush C 38 rfl dJ6_bitCount_0f7a4_36 (by decide) ?_
  refine xx_iushr C 39 rfl dJ6_bitCount_0f7a4_38 ?_
  refine xx_iadd C 40 rfl dJ6_bitCount_0f7a4_39 ?_
  refine xx_nm C h (fun n40 h => ?_)
  refine xx_istore_n (lv1 := [(0, .int (iI n40))]) C 41 rfl (by decide) dJ6_bitCount_0f7a4_40 rfl rfl ?_
  refine xx_iload_n C 42 rfl 0 dJ6_bitCount_0f7a4_41 rfl rfl ?_
  refine xx_iload_n C 43 rfl 0 dJ6_bitCount_0f7a4_42 rfl rfl ?_
  refine xx_bipush C 45 rfl dJ6_bitCount_0f7a4_43 (by decide) ?_
  refine xx_iushr C 46 rfl dJ6_bitCount_0f7a4_45 ?_
  refine xx_iadd C 47 rfl dJ6_bitCount_0f7a4_46 ?_
  refine xx_nm C h (fun n47 h => ?_)
  refine xx_istore_n (lv1 := [(0, .int (iI n47))]) C 48 rfl (by decide) dJ6_bitCount_0f7a4_47 rfl rfl ?_
  refine xx_iload_n C 49 rfl 0 dJ6_bitCount_0f7a4_48 rfl rfl ?_
  refine xx_bipush C 51 rfl dJ6_bitCount_0f7a4_49 (by decide) ?_
  refine xx_iand C 52 rfl dJ6_bitCount_0f7a4_51 ?_
  exact xx_iretp C E rfl ⟨Nat.le_of_ble_eq_true rfl, Nat.le_of_ble_eq_true rfl⟩ dJ6_bitCount_0f7a4_52 h

def f_J6_stringSize_0f7a4_L16 (J27 : Int → Option Int) (J42 : Unit → Option Int) (x0_11 : Int) : Nat → Int → Int → Option Int
  | 0, _, _ => none
  | fu16 + 1, x2_16, x3_16 => lt_ x3_16 10
      (lt_ x2_16 x0_11
      (J27 x3_16)
      (nm_ ((10 * x2_16)) (fun n35 => nm_ (x3_16 + 1) (fun n36 => (f_J6_stringSize_0f7a4_L16 J27 J42 x0_11 fu16) n35 n36))))
      (J42 ())
def f_J6_stringSize_0f7a4 (μ : mu_T) (a0 : Int) : Option Int :=
  jn_ (φ := Int → Int → Option Int) (fun x0_11 x1_11 => jn_ (φ := Unit → Option Int) (fun _ => some (10 + x1_11))
      (fun J42 => jn_ (φ := Int → Option Int) (fun x3_27 => some (x3_27 + x1_11))
      (fun J27 => f_J6_stringSize_0f7a4_L16 J27 J42 x0_11 20000 (-10) 1)))
      (fun J11 => lt_ a0 0
      (J11 a0 1)
      (nm_ ((-a0)) (fun n10 => J11 n10 0)))
set_option maxHeartbeats 4000000 in
set_option maxRecDepth 100000 in
theorem c_J6_stringSize_0f7a4 {G : gp_} {N : Nat} {ce : Nat → (Int → Int) → va_E} {ad : Nat → Nat} (μ : mu_T) (a0 : Int) (a : Int) (h : f_J6_stringSize_0f7a4 μ a0 = some a) : mi_ yJ6_stringSize_0f7a4 cJ6_stringSize_0f7a4 4 (some .int) ({ frames := 0, cells := 0, slots := 0, locals := 0 } : Room) G N ad ce [.int (iI a0)] μ a μ := by
  refine mi_in (own := "java/lang/Integer") (lv := [(0, .int (iI a0))]) (by decide) rfl rfl (Nat.le_of_ble_eq_true rfl) (fun X C E => ?_)
  unfold f_J6_stringSize_0f7a4 at h
  refine xx_iconst C 1 rfl dJ6_stringSize_0f7a4_0 ?_
  refine xx_istore_n (lv1 := [(1, .int (iI 1)), (0, .int (iI a0))]) C 2 rfl (by decide) dJ6_stringSize_0f7a4_1 rfl rfl ?_
  refine xx_iload_n C 3 rfl 1 dJ6_stringSize_0f7a4_2 rfl rfl ?_
  refine jn_r (fun J => ∀ (x0_11 : Int) (x1_11 : Int), J x0_11 x1_11 = some a → wx_ G X N ad ce μ 0 0 11 [(0, .int (iI x0_11)), (1, .int (iI x1_11))] []) h (fun x0_11 x1_11 h => ?_) (fun J11 K11 h => ?_)
  · refine xx_bipush C 13 rfl dJ6_stringSize_0f7a4_11 (by decide) ?_
    refine xx_istore_n (lv1 := [(2, .int (iI (-10))), (0, .int (iI x0_11)), (1, .int (iI x1_11))]) C 14 rfl (by decide) dJ6_stringSize_0f7a4_13 rfl rfl ?_
    refine xx_iconst C 15 rfl dJ6_stringSize_0f7a4_14 ?_
    refine xx_istore_n (lv1 := [(3, .int (iI 1)), (2, .int (iI (-10))), (0, .int (iI x0_11)), (1, .int (iI x1_11))]) C 16 rfl (by decide) dJ6_stringSize_0f7a4_15 rfl rfl ?_
    refine jn_r (fun J => ∀ (_u : Unit), J _u = some a → wx_ G X N ad ce μ 0 0 42 [(1, .int (iI x1_11))] []) h (fun _ h => ?_) (fun J42 K42 h => ?_)
    · refine xx_bipush C 44 rfl dJ6_stringSize_0f7a4_42 (by decide) ?_
      refine xx_iload_n C 45 rfl 0 dJ6_stringSize_0f7a4_44 rfl rfl ?_
      refine xx_iadd C 46 rfl dJ6_stringSize_0f7a4_45 ?_
      exact xx_iretp C E rfl ⟨Nat.le_of_ble_eq_true rfl, Nat.le_of_ble_eq_true rfl⟩ dJ6_stringSize_0f7a4_46 h
    · refine jn_r (fun J => ∀ (x3_27 : Int), J x3_27 = some a → wx_ G X N ad ce μ 0 0 27 [(1, .int (iI x1_11)), (3, .int (iI x3_27))] []) h (fun x3_27 h => ?_) (fun J27 K27 h => ?_)
      · refine xx_iload_n C 28 rfl 1 dJ6_stringSize_0f7a4_27 rfl rfl ?_
        refine xx_iload_n C 29 rfl 0 dJ6_stringSize_0f7a4_28 rfl rfl ?_
        refine xx_iadd C 30 rfl dJ6_stringSize_0f7a4_29 ?_
        exact xx_iretp C E rfl ⟨Nat.le_of_ble_eq_true rfl, Nat.le_of_ble_eq_true rfl⟩ dJ6_stringSize_0f7a4_30 h
      · have L16 : ∀ (fu16 : Nat) (x2_16 : Int) (x3_16 : Int), f_J6_stringSize_0f7a4_L16 J27 J42 x0_11 fu16 x2_16 x3_16 = some a → wx_ G X N ad ce μ 0 0 16 [(0, .int (iI x0_11)), (1, .int (iI x1_11)), (2, .int (iI x2_16)), (3, .int (iI x3_16))] [] := by
          intro fu16
          induction fu16 with
          | zero => intro x2_16 x3_16 h; exact nn_ h
          | succ fu16 K16 =>
            intro x2_16 x3_16 h
            rw [f_J6_stringSize_0f7a4_L16] at h
            generalize f_J6_stringSize_0f7a4_L16 J27 J42 x0_11 fu16 = R16 at K16 h
            refine xx_iload_n C 17 rfl 3 dJ6_stringSize_0f7a4_16 rfl rfl ?_
            refine xx_bipush C 19 rfl dJ6_stringSize_0f7a4_17 (by decide) ?_
            refine xx_icmp_ge (tgt := 42) C 22 rfl dJ6_stringSize_0f7a4_19 (by decide) h (fun h => ?_) (fun h => ?_)
            · refine xx_sub [1] rfl ?_
              exact K42 () h
            · refine xx_iload_n C 23 rfl 0 dJ6_stringSize_0f7a4_22 rfl rfl ?_
              refine xx_iload_n C 24 rfl 2 dJ6_stringSize_0f7a4_23 rfl rfl ?_
              refine xx_icmp_le (tgt := 31) C 27 rfl dJ6_stringSize_0f7a4_24 (by decide) h (fun h => ?_) (fun h => ?_)
              · refine xx_bipush C 33 rfl dJ6_stringSize_0f7a4_31 (by decide) ?_
                refine xx_iload_n C 34 rfl 2 dJ6_stringSize_0f7a4_33 rfl rfl ?_
                refine xx_imul C 35 rfl dJ6_stringSize_0f7a4_34 ?_
                refine xx_nm C h (fun n35 h => ?_)
                refine xx_istore_n (lv1 := [(2, .int (iI n35)), (0, .int (iI x0_11)), (1, .int (iI x1_11)), (3, .int (iI x3_16))]) C 36 rfl (by decide) dJ6_stringSize_0f7a4_35 rfl rfl ?_
                refine xx_iincn C 39 rfl 3 (by decide) dJ6_stringSize_0f7a4_36 rfl h (fun n36 h => ?_)
                refine xx_lv (lv1 := [(3, .int (iI n36)), (2, .int (iI n35)), (0, .int (iI x0_11)), (1, .int (iI x1_11))]) rfl ?_
                refine xx_goto C 16 dJ6_stringSize_0f7a4_39 (by decide) ?_
                refine xx_sub [2, 3, 1, 0] rfl ?_
                exact K16 n35 n36 h
              · refine xx_sub [1, 3] rfl ?_
                exact K27 x3_16 h
        refine xx_sub [2, 3, 1, 0] rfl ?_
        exact L16 _ _ _ h
  · refine xx_if_lt (tgt := 11) C 6 rfl dJ6_stringSize_0f7a4_3 (by decide) h (fun h => ?_) (fun h => ?_)
    · refine xx_sub [1, 0] rfl ?_
      exact K11 a0 1 h
    · refine xx_iconst C 7 rfl dJ6_stringSize_0f7a4_6 ?_
      refine xx_istore_n (lv1 := [(1, .int (iI 0)), (0, .int (iI a0))]) C 8 rfl (by decide) dJ6_stringSize_0f7a4_7 rfl rfl ?_
      refine xx_iload_n C 9 rfl 1 dJ6_stringSize_0f7a4_8 rfl rfl ?_
      refine xx_ineg C 10 rfl dJ6_stringSize_0f7a4_9 ?_
      refine xx_nm C h (fun n10 h => ?_)
      refine xx_istore_n (lv1 := [(0, .int (iI n10)), (1, .int (iI 0))]) C 11 rfl (by decide) dJ6_stringSize_0f7a4_10 rfl rfl ?_
      exact K11 n10 0 h

def f_J1_canEncode_fc78d (μ : mu_T) (a0 : Int) : Option Int :=
  lt_ 255 a0
      (some 0)
      (some 1)
set_option maxHeartbeats 4000000 in
set_option maxRecDepth 100000 in
theorem c_J1_canEncode_fc78d {G : gp_} {N : Nat} {ce : Nat → (Int → Int) → va_E} {ad : Nat → Nat} (μ : mu_T) (a0 : Int) (a : Int) (h : f_J1_canEncode_fc78d μ a0 = some a) : mi_ yJ1_canEncode_fc78d cJ1_canEncode_fc78d 1 (some .boolean) ({ frames := 0, cells := 0, slots := 0, locals := 0 } : Room) G N ad ce [.int (iI a0)] μ a μ := by
  refine mi_in (own := "java/lang/StringLatin1") (lv := [(0, .int (iI a0))]) (by decide) rfl rfl (Nat.le_of_ble_eq_true rfl) (fun X C E => ?_)
  unfold f_J1_canEncode_fc78d at h
  refine xx_iload_n C 1 rfl 0 dJ1_canEncode_fc78d_0 rfl rfl ?_
  refine xx_sipush C 4 rfl dJ1_canEncode_fc78d_1 (by decide) ?_
  refine xx_icmp_gt (tgt := 11) C 7 rfl dJ1_canEncode_fc78d_4 (by decide) h (fun h => ?_) (fun h => ?_)
  · refine xx_iconst C 12 rfl dJ1_canEncode_fc78d_11 ?_
    exact xx_zretl C E rfl rfl ⟨Nat.le_of_ble_eq_true rfl, Nat.le_of_ble_eq_true rfl⟩ dJ1_canEncode_fc78d_12 h
  · refine xx_iconst C 8 rfl dJ1_canEncode_fc78d_7 ?_
    refine xx_goto C 12 dJ1_canEncode_fc78d_8 (by decide) ?_
    exact xx_zretl C E rfl rfl ⟨Nat.le_of_ble_eq_true rfl, Nat.le_of_ble_eq_true rfl⟩ dJ1_canEncode_fc78d_12 h

def f_Jx29ce0_ordinal_8abf5 (μ : mu_T) (a0 : Int) : Option Int :=
  gd_ (0 ≤ a0 ∧ a0 < 10) (some a0)
set_option maxHeartbeats 4000000 in
set_option maxRecDepth 100000 in
theorem c_Jx29ce0_ordinal_8abf5 {G : gp_} {N : Nat} {ce : Nat → (Int → Int) → va_E} {ad : Nat → Nat} (μ : mu_T) (a0 : Int) (a : Int) (h : f_Jx29ce0_ordinal_8abf5 μ a0 = some a) : mi_ yJx29ce0_ordinal_8abf5 cJx29ce0_ordinal_8abf5 1 (some .int) ({ frames := 0, cells := 0, slots := 0, locals := 0 } : Room) G N ad ce [.ref (G.2.1 (100 + (a0 : Int).toNat))] μ a μ := by
  refine mi_in (own := "java/lang/Enum") (lv := [(0, .ref (G.2.1 (100 + (a0 : Int).toNat)))]) (by decide) rfl rfl (Nat.le_of_ble_eq_true rfl) (fun X C E => ?_)
  unfold f_Jx29ce0_ordinal_8abf5 at h
  refine xx_aload_n C 1 rfl 0 dJx29ce0_ordinal_8abf5_0 rfl rfl ?_
  refine xx_ord C 4 rfl w_1199 dJx29ce0_ordinal_8abf5_1 h (fun h => ?_)
  exact xx_iretp C E rfl ⟨Nat.le_of_ble_eq_true rfl, Nat.le_of_ble_eq_true rfl⟩ dJx29ce0_ordinal_8abf5_4 h

