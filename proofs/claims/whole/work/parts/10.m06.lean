theorem dX12_save_0 : decode cX12_save 0 = .ok (.iconst 0, 1) := by decide +kernel
theorem dX12_save_1 : decode cX12_save 1 = .ok (.istore_n 1, 1) := by decide +kernel
theorem dX12_save_2 : decode cX12_save 2 = .ok (.iload_n 1, 1) := by decide +kernel
theorem dX12_save_3 : decode cX12_save 3 = .ok (.sipush 293, 3) := by decide +kernel
theorem dX12_save_6 : decode cX12_save 6 = .ok (.if_icmp .ge 21, 3) := by decide +kernel
theorem dX12_save_9 : decode cX12_save 9 = .ok (.aload_n 0, 1) := by decide +kernel
theorem dX12_save_10 : decode cX12_save 10 = .ok (.getfield 16, 3) := by decide +kernel
theorem dX12_save_13 : decode cX12_save 13 = .ok (.iload_n 1, 1) := by decide +kernel
theorem dX12_save_14 : decode cX12_save 14 = .ok (.aload_n 0, 1) := by decide +kernel
theorem dX12_save_15 : decode cX12_save 15 = .ok (.getfield 7, 3) := by decide +kernel
theorem dX12_save_18 : decode cX12_save 18 = .ok (.iload_n 1, 1) := by decide +kernel
theorem dX12_save_19 : decode cX12_save 19 = .ok (.iaload, 1) := by decide +kernel
theorem dX12_save_20 : decode cX12_save 20 = .ok (.iastore, 1) := by decide +kernel
theorem dX12_save_21 : decode cX12_save 21 = .ok (.iinc 1 1, 3) := by decide +kernel
theorem dX12_save_24 : decode cX12_save 24 = .ok (.goto (-22), 3) := by decide +kernel
theorem dX12_save_27 : decode cX12_save 27 = .ok (.aload_n 0, 1) := by decide +kernel
theorem dX12_save_28 : decode cX12_save 28 = .ok (.iconst 1, 1) := by decide +kernel
theorem dX12_save_29 : decode cX12_save 29 = .ok (.putfield 271, 3) := by decide +kernel
theorem dX12_save_32 : decode cX12_save 32 = .ok (.aload_n 0, 1) := by decide +kernel
theorem dX12_save_33 : decode cX12_save 33 = .ok (.invokevirtual 259, 3) := by decide +kernel
theorem dX12_save_36 : decode cX12_save 36 = .ok (.ireturn, 1) := by decide +kernel
theorem dX12_restore_0 : decode cX12_restore 0 = .ok (.aload_n 0, 1) := by decide +kernel
theorem dX12_restore_1 : decode cX12_restore 1 = .ok (.getfield 271, 3) := by decide +kernel
theorem dX12_restore_4 : decode cX12_restore 4 = .ok (.ifCond .ne 6, 3) := by decide +kernel
theorem dX12_restore_7 : decode cX12_restore 7 = .ok (.bipush (-15), 2) := by decide +kernel
theorem dX12_restore_9 : decode cX12_restore 9 = .ok (.ireturn, 1) := by decide +kernel
theorem dX12_restore_10 : decode cX12_restore 10 = .ok (.iconst 0, 1) := by decide +kernel
theorem dX12_restore_11 : decode cX12_restore 11 = .ok (.istore_n 1, 1) := by decide +kernel
theorem dX12_restore_12 : decode cX12_restore 12 = .ok (.iload_n 1, 1) := by decide +kernel
theorem dX12_restore_13 : decode cX12_restore 13 = .ok (.sipush 293, 3) := by decide +kernel
theorem dX12_restore_16 : decode cX12_restore 16 = .ok (.if_icmp .ge 21, 3) := by decide +kernel
theorem dX12_restore_19 : decode cX12_restore 19 = .ok (.aload_n 0, 1) := by decide +kernel
theorem dX12_restore_20 : decode cX12_restore 20 = .ok (.getfield 7, 3) := by decide +kernel
theorem dX12_restore_23 : decode cX12_restore 23 = .ok (.iload_n 1, 1) := by decide +kernel
theorem dX12_restore_24 : decode cX12_restore 24 = .ok (.aload_n 0, 1) := by decide +kernel
theorem dX12_restore_25 : decode cX12_restore 25 = .ok (.getfield 16, 3) := by decide +kernel
theorem dX12_restore_28 : decode cX12_restore 28 = .ok (.iload_n 1, 1) := by decide +kernel
theorem dX12_restore_29 : decode cX12_restore 29 = .ok (.iaload, 1) := by decide +kernel
theorem dX12_restore_30 : decode cX12_restore 30 = .ok (.iastore, 1) := by decide +kernel
theorem dX12_restore_31 : decode cX12_restore 31 = .ok (.iinc 1 1, 3) := by decide +kernel
theorem dX12_restore_34 : decode cX12_restore 34 = .ok (.goto (-22), 3) := by decide +kernel
theorem dX12_restore_37 : decode cX12_restore 37 = .ok (.aload_n 0, 1) := by decide +kernel
theorem dX12_restore_38 : decode cX12_restore 38 = .ok (.iconst 0, 1) := by decide +kernel
theorem dX12_restore_39 : decode cX12_restore 39 = .ok (.putfield 38, 3) := by decide +kernel
theorem dX12_restore_42 : decode cX12_restore 42 = .ok (.aload_n 0, 1) := by decide +kernel
theorem dX12_restore_43 : decode cX12_restore 43 = .ok (.invokevirtual 259, 3) := by decide +kernel
theorem dX12_restore_46 : decode cX12_restore 46 = .ok (.ireturn, 1) := by decide +kernel
def f_X12_save_L2 (J27 : mu_T → Option (Int × mu_T)) : Nat → Int → mu_T → Option (Int × mu_T)
  | 0, _, _ => none
  | fu2 + 1, x1_2, μ2 => lt_ x1_2 293
      (rd_ μ2 1 293 x1_2 (fun v19 => wr_ μ2 3 293 x1_2 v19 (fun μ20 => nm_ (x1_2 + 1) (fun n21 => (f_X12_save_L2 J27 fu2) n21 μ20))))
      (J27 μ2)
def f_X12_save (μ : mu_T)  : Option (Int × mu_T) :=
  jn_ (φ := mu_T → Option (Int × mu_T)) (fun μ27 => wz_ μ27 0 5 1 (fun μ29 => bd_ (f_X12_manyUrns μ29) (fun v33 => some (v33, μ29))))
      (fun J27 => f_X12_save_L2 J27 20000 0 μ)
set_option maxHeartbeats 4000000 in
set_option maxRecDepth 100000 in
theorem c_X12_save {G : gp_} {ad : Nat → Nat} (μ : mu_T)  (a : Int) (μr : mu_T) (h : f_X12_save μ  = some (a, μr)) : mi_ yX12_save cX12_save 2 (some .int) ({ frames := 1, cells := 0, slots := 0, locals := 22 } : Room) G 9 ad (ceM G ad) [.ref (ad 0)] μ a μr := by
  refine mi_in (own := "UrnHeapModel") (lv := [(0, .ref (ad 0))]) (by decide) rfl rfl (Nat.le_of_ble_eq_true rfl) (fun X C E => ?_)
  unfold f_X12_save at h
  refine xx_iconst C 1 rfl dX12_save_0 ?_
  refine xx_istore_n (lv1 := [(1, .int (iI 0)), (0, .ref (ad 0))]) C 2 rfl (by decide) dX12_save_1 rfl rfl ?_
  refine jn_r (fun J => ∀ (μ27 : mu_T), J μ27 = some (a, μr) → wx_ G X 9 ad (ceM G ad) μ27 0 0 27 [(0, .ref (ad 0))] []) h (fun μ27 h => ?_) (fun J27 K27 h => ?_)
  · refine xx_aload_n C 28 rfl 0 dX12_save_27 rfl rfl ?_
    refine xx_iconst C 29 rfl dX12_save_28 ?_
    refine xx_putz (fi := 5) (j := 5) C 32 rfl (by decide) (ceM_0 _ _ _) (puM_5 _ _ _ _) rfl in_X12 tyX12 tyX12_ok nmX12 (by decide) (Nat.le_of_ble_eq_true rfl) ⟨rfl, rfl, rfl⟩ w_1176 dX12_save_29 h (fun μ29 h => ?_)
    refine xx_aload_n C 33 rfl 0 dX12_save_32 rfl rfl ?_
    refine xx_cVip (As := []) (st := []) (o := 0) C 36 rfl (by decide) (ceM_0 _ _ _) rfl rfl ca_X12_manyUrns cv_X12_manyUrns w_1553 rfl ⟨Nat.le_of_ble_eq_true rfl, Nat.le_of_ble_eq_true rfl⟩ ⟨Nat.le_of_ble_eq_true rfl, Nat.le_of_ble_eq_true rfl⟩ (Nat.le_of_ble_eq_true rfl) dX12_save_33 (fun v33 e9 => c_X12_manyUrns _ v33 e9) h (fun v33 h => ?_) rfl
    exact xx_iret C E rfl ⟨Nat.le_of_ble_eq_true rfl, Nat.le_of_ble_eq_true rfl⟩ dX12_save_36 h
  · have L2 : ∀ (fu2 : Nat) (x1_2 : Int) (μ2 : mu_T), f_X12_save_L2 J27 fu2 x1_2 μ2 = some (a, μr) → wx_ G X 9 ad (ceM G ad) μ2 0 0 2 [(0, .ref (ad 0)), (1, .int (iI x1_2))] [] := by
      intro fu2
      induction fu2 with
      | zero => intro x1_2 μ2 h; exact nn_ h
      | succ fu2 K2 =>
        intro x1_2 μ2 h
        rw [f_X12_save_L2] at h
        generalize f_X12_save_L2 J27 fu2 = R2 at K2 h
        refine xx_iload_n C 3 rfl 1 dX12_save_2 rfl rfl ?_
        refine xx_sipush C 6 rfl dX12_save_3 (by decide) ?_
        refine xx_icmp_ge (tgt := 27) C 9 rfl dX12_save_6 (by decide) h (fun h => ?_) (fun h => ?_)
        · refine xx_sub [0] rfl ?_
          exact K27 μ2 h
        · refine xx_aload_n C 10 rfl 0 dX12_save_9 rfl rfl ?_
          refine xx_getr (fi := 2) C 13 rfl (by decide) (ceM_0 _ _ _) rfl in_X12 (by decide) rfl rfl w_1173 dX12_save_10 ?_
          refine xx_iload_n C 14 rfl 1 dX12_save_13 rfl rfl ?_
          refine xx_aload_n C 15 rfl 0 dX12_save_14 rfl rfl ?_
          refine xx_getr (fi := 0) C 18 rfl (by decide) (ceM_0 _ _ _) rfl in_X12 (by decide) rfl rfl w_1171 dX12_save_15 ?_
          refine xx_iload_n C 19 rfl 1 dX12_save_18 rfl rfl ?_
          refine xx_iaload C 20 rfl (by decide) (fun _ => rfl) (by decide) dX12_save_19 h (fun v19 h => ?_)
          refine xx_iastore C 21 rfl (by decide) (fun _ => rfl) (by decide) dX12_save_20 h (fun μ20 h => ?_)
          refine xx_iincn C 24 rfl 1 (by decide) dX12_save_21 rfl h (fun n21 h => ?_)
          refine xx_lv (lv1 := [(1, .int (iI n21)), (0, .ref (ad 0))]) rfl ?_
          refine xx_goto C 2 dX12_save_24 (by decide) ?_
          refine xx_sub [1, 0] rfl ?_
          exact K2 n21 μ20 h
    refine xx_sub [1, 0] rfl ?_
    exact L2 _ _ _ h

def f_X12_restore_L12 (J37 : mu_T → Option (Int × mu_T)) : Nat → Int → mu_T → Option (Int × mu_T)
  | 0, _, _ => none
  | fu12 + 1, x1_12, μ12 => lt_ x1_12 293
      (rd_ μ12 3 293 x1_12 (fun v29 => wr_ μ12 1 293 x1_12 v29 (fun μ30 => nm_ (x1_12 + 1) (fun n31 => (f_X12_restore_L12 J37 fu12) n31 μ30))))
      (J37 μ12)
def f_X12_restore (μ : mu_T)  : Option (Int × mu_T) :=
  nm_ (μ 0 5) (fun v1 => eq_ v1 0
      (some ((-15), μ))
      (jn_ (φ := mu_T → Option (Int × mu_T)) (fun μ37 => wf_ μ37 0 4 0 (fun μ39 => bd_ (f_X12_manyUrns μ39) (fun v43 => some (v43, μ39))))
      (fun J37 => f_X12_restore_L12 J37 20000 0 μ)))
set_option maxHeartbeats 4000000 in
set_option maxRecDepth 100000 in
theorem c_X12_restore {G : gp_} {ad : Nat → Nat} (μ : mu_T)  (a : Int) (μr : mu_T) (h : f_X12_restore μ  = some (a, μr)) : mi_ yX12_restore cX12_restore 2 (some .int) ({ frames := 1, cells := 0, slots := 0, locals := 22 } : Room) G 9 ad (ceM G ad) [.ref (ad 0)] μ a μr := by
  refine mi_in (own := "UrnHeapModel") (lv := [(0, .ref (ad 0))]) (by decide) rfl rfl (Nat.le_of_ble_eq_true rfl) (fun X C E => ?_)
  unfold f_X12_restore at h
  refine xx_aload_n C 1 rfl 0 dX12_restore_0 rfl rfl ?_
  refine xx_geti (fi := 5) (j := 5) C 4 rfl (by decide) (ceM_0 _ _ _) rfl in_X12 (by decide) rfl rfl w_1176 dX12_restore_1 h (fun v1 h => ?_)
  refine xx_if_ne (tgt := 10) C 7 rfl dX12_restore_4 (by decide) h (fun h => ?_) (fun h => ?_)
  · refine xx_iconst C 11 rfl dX12_restore_10 ?_
    refine xx_istore_n (lv1 := [(1, .int (iI 0)), (0, .ref (ad 0))]) C 12 rfl (by decide) dX12_restore_11 rfl rfl ?_
    refine jn_r (fun J => ∀ (μ37 : mu_T), J μ37 = some (a, μr) → wx_ G X 9 ad (ceM G ad) μ37 0 0 37 [(0, .ref (ad 0))] []) h (fun μ37 h => ?_) (fun J37 K37 h => ?_)
    · refine xx_aload_n C 38 rfl 0 dX12_restore_37 rfl rfl ?_
      refine xx_iconst C 39 rfl dX12_restore_38 ?_
      refine xx_puti (fi := 4) (j := 4) C 42 rfl (by decide) (ceM_0 _ _ _) (puM_4 _ _ _ _) rfl in_X12 tyX12 tyX12_ok nmX12 (by decide) (Nat.le_of_ble_eq_true rfl) ⟨rfl, rfl, rfl⟩ w_1175 dX12_restore_39 h (fun μ39 h => ?_)
      refine xx_aload_n C 43 rfl 0 dX12_restore_42 rfl rfl ?_
      refine xx_cVip (As := []) (st := []) (o := 0) C 46 rfl (by decide) (ceM_0 _ _ _) rfl rfl ca_X12_manyUrns cv_X12_manyUrns w_1553 rfl ⟨Nat.le_of_ble_eq_true rfl, Nat.le_of_ble_eq_true rfl⟩ ⟨Nat.le_of_ble_eq_true rfl, Nat.le_of_ble_eq_true rfl⟩ (Nat.le_of_ble_eq_true rfl) dX12_restore_43 (fun v43 e9 => c_X12_manyUrns _ v43 e9) h (fun v43 h => ?_) rfl
      exact xx_iret C E rfl ⟨Nat.le_of_ble_eq_true rfl, Nat.le_of_ble_eq_true rfl⟩ dX12_restore_46 h
    · have L12 : ∀ (fu12 : Nat) (x1_12 : Int) (μ12 : mu_T), f_X12_restore_L12 J37 fu12 x1_12 μ12 = some (a, μr) → wx_ G X 9 ad (ceM G ad) μ12 0 0 12 [(0, .ref (ad 0)), (1, .int (iI x1_12))] [] := by
        intro fu12
        induction fu12 with
        | zero => intro x1_12 μ12 h; exact nn_ h
        | succ fu12 K12 =>
          intro x1_12 μ12 h
          rw [f_X12_restore_L12] at h
          generalize f_X12_restore_L12 J37 fu12 = R12 at K12 h
          refine xx_iload_n C 13 rfl 1 dX12_restore_12 rfl rfl ?_
          refine xx_sipush C 16 rfl dX12_restore_13 (by decide) ?_
          refine xx_icmp_ge (tgt := 37) C 19 rfl dX12_restore_16 (by decide) h (fun h => ?_) (fun h => ?_)
          · refine xx_sub [0] rfl ?_
            exact K37 μ12 h
          · refine xx_aload_n C 20 rfl 0 dX12_restore_19 rfl rfl ?_
            refine xx_getr (fi := 0) C 23 rfl (by decide) (ceM_0 _ _ _) rfl in_X12 (by decide) rfl rfl w_1171 dX12_restore_20 ?_
            refine xx_iload_n C 24 rfl 1 dX12_restore_23 rfl rfl ?_
            refine xx_aload_n C 25 rfl 0 dX12_restore_24 rfl rfl ?_
            refine xx_getr (fi := 2) C 28 rfl (by decide) (ceM_0 _ _ _) rfl in_X12 (by decide) rfl rfl w_1173 dX12_restore_25 ?_
            refine xx_iload_n C 29 rfl 1 dX12_restore_28 rfl rfl ?_
            refine xx_iaload C 30 rfl (by decide) (fun _ => rfl) (by decide) dX12_restore_29 h (fun v29 h => ?_)
            refine xx_iastore C 31 rfl (by decide) (fun _ => rfl) (by decide) dX12_restore_30 h (fun μ30 h => ?_)
            refine xx_iincn C 34 rfl 1 (by decide) dX12_restore_31 rfl h (fun n31 h => ?_)
            refine xx_lv (lv1 := [(1, .int (iI n31)), (0, .ref (ad 0))]) rfl ?_
            refine xx_goto C 12 dX12_restore_34 (by decide) ?_
            refine xx_sub [1, 0] rfl ?_
            exact K12 n31 μ30 h
      refine xx_sub [1, 0] rfl ?_
      exact L12 _ _ _ h
  · refine xx_bipush C 9 rfl dX12_restore_7 (by decide) ?_
    exact xx_iret C E rfl ⟨Nat.le_of_ble_eq_true rfl, Nat.le_of_ble_eq_true rfl⟩ dX12_restore_9 h

