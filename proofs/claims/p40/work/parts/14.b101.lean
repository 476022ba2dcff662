def f_J0_coder_7d493_o1 (μ : mu_T)  : Option Int :=
  eq_ 1 0
      (some 1)
      (nm_ (μ 1 1) (fun v7 => rB_ v7))
set_option maxHeartbeats 4000000 in
set_option maxRecDepth 100000 in
theorem c_J0_coder_7d493_o1 {G : gp_} {ad : Nat → Nat} (μ : mu_T)  (a : Int) (h : f_J0_coder_7d493_o1 μ  = some a) : mi_ yJ0_coder_7d493 cJ0_coder_7d493 1 (some .byte) ({ frames := 0, cells := 0, slots := 0, locals := 0 } : Room) G 2 ad (ceT G ad) [.ref (ad 1)] μ a μ := by
  refine mi_in (own := "java/lang/String") (lv := [(0, .ref (ad 1))]) (by decide) rfl rfl (Nat.le_of_ble_eq_true rfl) (fun X C E => ?_)
  unfold f_J0_coder_7d493_o1 at h
  refine xx_gcs C 3 rfl w_698 dJ0_coder_7d493_0 ?_
  refine xx_if_eq (tgt := 13) C 6 rfl dJ0_coder_7d493_3 (by decide) h (fun h => ?_) (fun h => ?_)
  · refine xx_iconst C 14 rfl dJ0_coder_7d493_13 ?_
    exact xx_zretl C E rfl rfl ⟨Nat.le_of_ble_eq_true rfl, Nat.le_of_ble_eq_true rfl⟩ dJ0_coder_7d493_14 h
  · refine xx_aload_n C 7 rfl 0 dJ0_coder_7d493_6 rfl rfl ?_
    refine xx_geti (fi := 1) (j := 1) C 10 rfl (by decide) (ceT_1 _ _ _) rfl in_J0 (by decide) rfl w_806 dJ0_coder_7d493_7 h (fun v7 h => ?_)
    refine xx_goto C 14 dJ0_coder_7d493_10 (by decide) ?_
    exact xx_bretp C E rfl ⟨Nat.le_of_ble_eq_true rfl, Nat.le_of_ble_eq_true rfl⟩ dJ0_coder_7d493_14 h

def f_J0_length_8abf5_o1 (μ : mu_T)  : Option Int :=
  nm_ (bl_ μ 0) (fun v4 => bd_ (f_J0_coder_7d493_o1 μ) (fun v6 => some (sr_ v4 v6)))
set_option maxHeartbeats 4000000 in
set_option maxRecDepth 100000 in
theorem c_J0_length_8abf5_o1 {G : gp_} {ad : Nat → Nat} (μ : mu_T)  (a : Int) (h : f_J0_length_8abf5_o1 μ  = some a) : mi_ yJ0_length_8abf5 cJ0_length_8abf5 1 (some .int) ({ frames := 1, cells := 0, slots := 0, locals := 20 } : Room) G 2 ad (ceT G ad) [.ref (ad 1)] μ a μ := by
  refine mi_in (own := "java/lang/String") (lv := [(0, .ref (ad 1))]) (by decide) rfl rfl (Nat.le_of_ble_eq_true rfl) (fun X C E => ?_)
  unfold f_J0_length_8abf5_o1 at h
  refine xx_aload_n C 1 rfl 0 dJ0_length_8abf5_0 rfl rfl ?_
  refine xx_getr (fi := 0) C 4 rfl (by decide) (ceT_1 _ _ _) rfl in_J0 (by decide) rfl w_805 dJ0_length_8abf5_1 ?_
  refine xx_blen C 5 rfl (by decide) (fun _ => rfl) dJ0_length_8abf5_4 h (fun v4 h => ?_)
  refine xx_aload_n C 6 rfl 0 dJ0_length_8abf5_5 rfl rfl ?_
  refine xx_cVip (As := []) (st := [.int (iI v4)]) (o := 1) C 9 rfl (by decide) (ceT_1 _ _ _) rfl rfl ca_J0_coder_7d493 cv_J0_coder_7d493 w_694 rfl ⟨Nat.le_of_ble_eq_true rfl, Nat.le_of_ble_eq_true rfl⟩ ⟨Nat.le_of_ble_eq_true rfl, Nat.le_of_ble_eq_true rfl⟩ (Nat.le_of_ble_eq_true rfl) dJ0_length_8abf5_6 (fun v6 e9 => c_J0_coder_7d493_o1 _ v6 e9) h (fun v6 h => ?_) rfl
  refine xx_ishr C 10 rfl dJ0_length_8abf5_9 ?_
  exact xx_iretp C E rfl ⟨Nat.le_of_ble_eq_true rfl, Nat.le_of_ble_eq_true rfl⟩ dJ0_length_8abf5_10 h

def f_J0_isLatin1_aae02_o1 (μ : mu_T)  : Option Int :=
  eq_ 1 0
      (some 0)
      (nm_ (μ 1 1) (fun v7 => eq_ v7 0
      (some 1)
      (some 0)))
set_option maxHeartbeats 4000000 in
set_option maxRecDepth 100000 in
theorem c_J0_isLatin1_aae02_o1 {G : gp_} {ad : Nat → Nat} (μ : mu_T)  (a : Int) (h : f_J0_isLatin1_aae02_o1 μ  = some a) : mi_ yJ0_isLatin1_aae02 cJ0_isLatin1_aae02 1 (some .boolean) ({ frames := 0, cells := 0, slots := 0, locals := 0 } : Room) G 2 ad (ceT G ad) [.ref (ad 1)] μ a μ := by
  refine mi_in (own := "java/lang/String") (lv := [(0, .ref (ad 1))]) (by decide) rfl rfl (Nat.le_of_ble_eq_true rfl) (fun X C E => ?_)
  unfold f_J0_isLatin1_aae02_o1 at h
  refine xx_gcs C 3 rfl w_698 dJ0_isLatin1_aae02_0 ?_
  refine xx_if_eq (tgt := 17) C 6 rfl dJ0_isLatin1_aae02_3 (by decide) h (fun h => ?_) (fun h => ?_)
  · refine xx_iconst C 18 rfl dJ0_isLatin1_aae02_17 ?_
    exact xx_zretl C E rfl rfl ⟨Nat.le_of_ble_eq_true rfl, Nat.le_of_ble_eq_true rfl⟩ dJ0_isLatin1_aae02_18 h
  · refine xx_aload_n C 7 rfl 0 dJ0_isLatin1_aae02_6 rfl rfl ?_
    refine xx_geti (fi := 1) (j := 1) C 10 rfl (by decide) (ceT_1 _ _ _) rfl in_J0 (by decide) rfl w_806 dJ0_isLatin1_aae02_7 h (fun v7 h => ?_)
    refine xx_if_ne (tgt := 17) C 13 rfl dJ0_isLatin1_aae02_10 (by decide) h (fun h => ?_) (fun h => ?_)
    · refine xx_iconst C 18 rfl dJ0_isLatin1_aae02_17 ?_
      exact xx_zretl C E rfl rfl ⟨Nat.le_of_ble_eq_true rfl, Nat.le_of_ble_eq_true rfl⟩ dJ0_isLatin1_aae02_18 h
    · refine xx_iconst C 14 rfl dJ0_isLatin1_aae02_13 ?_
      refine xx_goto C 18 dJ0_isLatin1_aae02_14 (by decide) ?_
      exact xx_zretl C E rfl rfl ⟨Nat.le_of_ble_eq_true rfl, Nat.le_of_ble_eq_true rfl⟩ dJ0_isLatin1_aae02_18 h

def f_J1_charAt_3b067_o0 (μ : mu_T) (a1 : Int) : Option Int :=
  nm_ (bl_ μ 0) (fun v2 => bd_ (f_J0_checkIndex_df160 μ a1 v2) (fun u3 => rb_ μ 0 a1 (fun v8 => rc_ (i2c_ (an_ v8 255)))))
set_option maxHeartbeats 4000000 in
set_option maxRecDepth 100000 in
theorem c_J1_charAt_3b067_o0 {G : gp_} {ad : Nat → Nat} (μ : mu_T) (a1 : Int) (a : Int) (h : f_J1_charAt_3b067_o0 μ a1 = some a) : mi_ yJ1_charAt_3b067 cJ1_charAt_3b067 2 (some .char) ({ frames := 2, cells := 0, slots := 0, locals := 43 } : Room) G 2 ad (ceT G ad) [.ref (ad 0), .int (iI a1)] μ a μ := by
  refine mi_in (own := "java/lang/StringLatin1") (lv := [(0, .ref (ad 0)), (1, .int (iI a1))]) (by decide) rfl rfl (Nat.le_of_ble_eq_true rfl) (fun X C E => ?_)
  unfold f_J1_charAt_3b067_o0 at h
  refine xx_iload_n C 1 rfl 1 dJ1_charAt_3b067_0 rfl rfl ?_
  refine xx_aload_n C 2 rfl 0 dJ1_charAt_3b067_1 rfl rfl ?_
  refine xx_blen C 3 rfl (by decide) (fun _ => rfl) dJ1_charAt_3b067_2 h (fun v2 h => ?_)
  refine xx_cSvp (As := [.int (iI a1), .int (iI v2)]) (st := []) C 6 rfl  ca_J0_checkIndex_df160 cs_J0_checkIndex_df160 w_831 rfl ⟨Nat.le_of_ble_eq_true rfl, Nat.le_of_ble_eq_true rfl⟩ ⟨Nat.le_of_ble_eq_true rfl, Nat.le_of_ble_eq_true rfl⟩ (Nat.le_of_ble_eq_true rfl) dJ1_charAt_3b067_3 (fun u3 e9 => c_J0_checkIndex_df160 _ _ _ u3 e9) h (fun u3 h => ?_) rfl
  refine xx_aload_n C 7 rfl 0 dJ1_charAt_3b067_6 rfl rfl ?_
  refine xx_iload_n C 8 rfl 1 dJ1_charAt_3b067_7 rfl rfl ?_
  refine xx_baload C 9 rfl (by decide) (fun _ => rfl) dJ1_charAt_3b067_8 h (fun v8 h => ?_)
  refine xx_sipush C 12 rfl dJ1_charAt_3b067_9 (by decide) ?_
  refine xx_iand C 13 rfl dJ1_charAt_3b067_12 ?_
  refine xx_i2c C 14 rfl dJ1_charAt_3b067_13 ?_
  exact xx_cretp C E rfl ⟨Nat.le_of_ble_eq_true rfl, Nat.le_of_ble_eq_true rfl⟩ dJ1_charAt_3b067_14 h

def f_J0_charAt_5068e_o1 (μ : mu_T) (a1 : Int) : Option Int :=
  bd_ (f_J0_isLatin1_aae02_o1 μ) (fun v1 => eq_ v1 0
      (none)
      (bd_ (f_J1_charAt_3b067_o0 μ a1) (fun v12 => rc_ v12)))
set_option maxHeartbeats 4000000 in
set_option maxRecDepth 100000 in
theorem c_J0_charAt_5068e_o1 {G : gp_} {ad : Nat → Nat} (μ : mu_T) (a1 : Int) (a : Int) (h : f_J0_charAt_5068e_o1 μ a1 = some a) : mi_ yJ0_charAt_5068e cJ0_charAt_5068e 2 (some .char) ({ frames := 3, cells := 0, slots := 0, locals := 64 } : Room) G 2 ad (ceT G ad) [.ref (ad 1), .int (iI a1)] μ a μ := by
  refine mi_in (own := "java/lang/String") (lv := [(0, .ref (ad 1)), (1, .int (iI a1))]) (by decide) rfl rfl (Nat.le_of_ble_eq_true rfl) (fun X C E => ?_)
  unfold f_J0_charAt_5068e_o1 at h
  refine xx_aload_n C 1 rfl 0 dJ0_charAt_5068e_0 rfl rfl ?_
  refine xx_cVip (As := []) (st := []) (o := 1) C 4 rfl (by decide) (ceT_1 _ _ _) rfl rfl ca_J0_isLatin1_aae02 cv_J0_isLatin1_aae02 w_824 rfl ⟨Nat.le_of_ble_eq_true rfl, Nat.le_of_ble_eq_true rfl⟩ ⟨Nat.le_of_ble_eq_true rfl, Nat.le_of_ble_eq_true rfl⟩ (Nat.le_of_ble_eq_true rfl) dJ0_charAt_5068e_1 (fun v1 e9 => c_J0_isLatin1_aae02_o1 _ v1 e9) h (fun v1 h => ?_) rfl
  refine xx_if_eq (tgt := 16) C 7 rfl dJ0_charAt_5068e_4 (by decide) h (fun h => ?_) (fun h => ?_)
  · refine xx_aload_n C 17 rfl 0 dJ0_charAt_5068e_16 rfl rfl ?_
    refine xx_getr (fi := 0) C 20 rfl (by decide) (ceT_1 _ _ _) rfl in_J0 (by decide) rfl w_805 dJ0_charAt_5068e_17 ?_
    refine xx_iload_n C 21 rfl 1 dJ0_charAt_5068e_20 rfl rfl ?_
    exact nn_ h
  · refine xx_aload_n C 8 rfl 0 dJ0_charAt_5068e_7 rfl rfl ?_
    refine xx_getr (fi := 0) C 11 rfl (by decide) (ceT_1 _ _ _) rfl in_J0 (by decide) rfl w_805 dJ0_charAt_5068e_8 ?_
    refine xx_iload_n C 12 rfl 1 dJ0_charAt_5068e_11 rfl rfl ?_
    refine xx_cSip (As := [.ref (ad 0), .int (iI a1)]) (st := []) C 15 rfl  ca_J1_charAt_3b067 cs_J1_charAt_3b067 w_828 rfl ⟨Nat.le_of_ble_eq_true rfl, Nat.le_of_ble_eq_true rfl⟩ ⟨Nat.le_of_ble_eq_true rfl, Nat.le_of_ble_eq_true rfl⟩ (Nat.le_of_ble_eq_true rfl) dJ0_charAt_5068e_12 (fun v12 e9 => c_J1_charAt_3b067_o0 _ _ v12 e9) h (fun v12 h => ?_) rfl
    exact xx_cretp C E rfl ⟨Nat.le_of_ble_eq_true rfl, Nat.le_of_ble_eq_true rfl⟩ dJ0_charAt_5068e_15 h

