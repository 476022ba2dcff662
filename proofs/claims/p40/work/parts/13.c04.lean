theorem dX11_init_0 : decode cX11_init 0 = .ok (.aload_n 0, 1) := by decide +kernel
theorem dX11_init_1 : decode cX11_init 1 = .ok (.invokespecial 1, 3) := by decide +kernel
theorem dX11_init_4 : decode cX11_init 4 = .ok (.new 7, 3) := by decide +kernel
theorem dX11_init_7 : decode cX11_init 7 = .ok (.dup, 1) := by decide +kernel
theorem dX11_init_8 : decode cX11_init 8 = .ok (.invokespecial 9, 3) := by decide +kernel
theorem dX11_init_11 : decode cX11_init 11 = .ok (.astore_n 1, 1) := by decide +kernel
theorem dX11_init_12 : decode cX11_init 12 = .ok (.new 10, 3) := by decide +kernel
theorem dX11_init_15 : decode cX11_init 15 = .ok (.dup, 1) := by decide +kernel
theorem dX11_init_16 : decode cX11_init 16 = .ok (.invokespecial 12, 3) := by decide +kernel
theorem dX11_init_19 : decode cX11_init 19 = .ok (.astore_n 2, 1) := by decide +kernel
theorem dX11_init_20 : decode cX11_init 20 = .ok (.aload_n 0, 1) := by decide +kernel
theorem dX11_init_21 : decode cX11_init 21 = .ok (.aload_n 1, 1) := by decide +kernel
theorem dX11_init_22 : decode cX11_init 22 = .ok (.putfield 13, 3) := by decide +kernel
theorem dX11_init_25 : decode cX11_init 25 = .ok (.aload_n 0, 1) := by decide +kernel
theorem dX11_init_26 : decode cX11_init 26 = .ok (.aload_n 2, 1) := by decide +kernel
theorem dX11_init_27 : decode cX11_init 27 = .ok (.putfield 19, 3) := by decide +kernel
theorem dX11_init_30 : decode cX11_init 30 = .ok (.aload_n 0, 1) := by decide +kernel
theorem dX11_init_31 : decode cX11_init 31 = .ok (.new 23, 3) := by decide +kernel
theorem dX11_init_34 : decode cX11_init 34 = .ok (.dup, 1) := by decide +kernel
theorem dX11_init_35 : decode cX11_init 35 = .ok (.aload_n 1, 1) := by decide +kernel
theorem dX11_init_36 : decode cX11_init 36 = .ok (.aload_n 2, 1) := by decide +kernel
theorem dX11_init_37 : decode cX11_init 37 = .ok (.invokespecial 25, 3) := by decide +kernel
theorem dX11_init_40 : decode cX11_init 40 = .ok (.putfield 28, 3) := by decide +kernel
theorem dX11_init_43 : decode cX11_init 43 = .ok (.aload_n 0, 1) := by decide +kernel
theorem dX11_init_44 : decode cX11_init 44 = .ok (.new 32, 3) := by decide +kernel
theorem dX11_init_47 : decode cX11_init 47 = .ok (.dup, 1) := by decide +kernel
theorem dX11_init_48 : decode cX11_init 48 = .ok (.aload_n 1, 1) := by decide +kernel
theorem dX11_init_49 : decode cX11_init 49 = .ok (.aload_n 2, 1) := by decide +kernel
theorem dX11_init_50 : decode cX11_init 50 = .ok (.invokespecial 34, 3) := by decide +kernel
theorem dX11_init_53 : decode cX11_init 53 = .ok (.putfield 35, 3) := by decide +kernel
theorem dX11_init_56 : decode cX11_init 56 = .ok (.aload_n 0, 1) := by decide +kernel
theorem dX11_init_57 : decode cX11_init 57 = .ok (.new 39, 3) := by decide +kernel
theorem dX11_init_60 : decode cX11_init 60 = .ok (.dup, 1) := by decide +kernel
theorem dX11_init_61 : decode cX11_init 61 = .ok (.aload_n 1, 1) := by decide +kernel
theorem dX11_init_62 : decode cX11_init 62 = .ok (.invokespecial 41, 3) := by decide +kernel
theorem dX11_init_65 : decode cX11_init 65 = .ok (.putfield 44, 3) := by decide +kernel
theorem dX11_init_68 : decode cX11_init 68 = .ok (.aload_n 0, 1) := by decide +kernel
theorem dX11_init_69 : decode cX11_init 69 = .ok (.new 48, 3) := by decide +kernel
theorem dX11_init_72 : decode cX11_init 72 = .ok (.dup, 1) := by decide +kernel
theorem dX11_init_73 : decode cX11_init 73 = .ok (.aload_n 1, 1) := by decide +kernel
theorem dX11_init_74 : decode cX11_init 74 = .ok (.invokespecial 50, 3) := by decide +kernel
theorem dX11_init_77 : decode cX11_init 77 = .ok (.putfield 51, 3) := by decide +kernel
theorem dX11_init_80 : decode cX11_init 80 = .ok (.aload_n 0, 1) := by decide +kernel
theorem dX11_init_81 : decode cX11_init 81 = .ok (.new 55, 3) := by decide +kernel
theorem dX11_init_84 : decode cX11_init 84 = .ok (.dup, 1) := by decide +kernel
theorem dX11_init_85 : decode cX11_init 85 = .ok (.invokespecial 57, 3) := by decide +kernel
theorem dX11_init_88 : decode cX11_init 88 = .ok (.putfield 58, 3) := by decide +kernel
theorem dX11_init_91 : decode cX11_init 91 = .ok (.aload_n 0, 1) := by decide +kernel
theorem dX11_init_92 : decode cX11_init 92 = .ok (.new 62, 3) := by decide +kernel
theorem dX11_init_95 : decode cX11_init 95 = .ok (.dup, 1) := by decide +kernel
theorem dX11_init_96 : decode cX11_init 96 = .ok (.invokespecial 64, 3) := by decide +kernel
theorem dX11_init_99 : decode cX11_init 99 = .ok (.putfield 65, 3) := by decide +kernel
theorem dX11_init_102 : decode cX11_init 102 = .ok (.return_, 1) := by decide +kernel
set_option maxHeartbeats 4000000 in
set_option maxRecDepth 100000 in
theorem i_X11 {G : gp_} : mc_ yX11_init cX11_init 3 ({ frames := 4, cells := 150, slots := 3408, locals := 77 } : Room) G [] (.inr (11, [.null, .null, .null, .null, .null, .null, .null, .null])) (S := (Nat → Nat) × (Nat → Nat → Nat) × (Nat → Nat)) (fun (q : Nat) (u : (Nat → Nat) × (Nat → Nat → Nat) × (Nat → Nat)) => hX11_ G q u.1 u.2.1 u.2.2) := by
  refine mc_in (own := "UrnHeap") (by decide) rfl (fun _ => (Nat.le_of_ble_eq_true rfl)) (fun X q C NI E => ?_)
  have NI := NI rfl
  show wv_ G X [(q, .inr (11, [.null, .null, .null, .null, .null, .null, .null, .null]))] 0 0 0 [(0, .ref q)] []
  refine xx_aload_n C 1 rfl 0 dX11_init_0 rfl rfl ?_
  refine xx_obj C 4 rfl ⟨w_55, w_56, w_57⟩ ⟨(Nat.le_of_ble_eq_true rfl), (Nat.le_of_ble_eq_true rfl)⟩ dX11_init_1 ?_
  refine xv_new (ci := 3) (fs := [.null, .null, .null, .null, .null, .null, .null, .null, .null, .int (iI 0), .int (iI 0), .int (iI 0), .int (iI 0), .int (iI 0), .int (iI 0), .int (iI 0), .int (iI 0)]) C 7 rfl in_X2 tyX2 tyX2_ok rfl (fun j hj => by rcases (show j = 0 ∨ j = 1 ∨ j = 2 ∨ j = 3 ∨ j = 4 ∨ j = 5 ∨ j = 6 ∨ j = 7 ∨ j = 8 ∨ j = 9 ∨ j = 10 ∨ j = 11 ∨ j = 12 ∨ j = 13 ∨ j = 14 ∨ j = 15 ∨ j = 16 by omega) with rfl | rfl | rfl | rfl | rfl | rfl | rfl | rfl | rfl | rfl | rfl | rfl | rfl | rfl | rfl | rfl | rfl <;> rfl) ⟨w_58, w_59, w_26⟩ ⟨(Nat.le_of_ble_eq_true rfl), (Nat.le_of_ble_eq_true rfl)⟩ dX11_init_4 (fun q4_1 => ?_)
  show wv_ G X ([(q, .inr (11, [.null, .null, .null, .null, .null, .null, .null, .null]))] ++ [(q4_1, .inr (3, [.null, .null, .null, .null, .null, .null, .null, .null, .null, .int (iI 0), .int (iI 0), .int (iI 0), .int (iI 0), .int (iI 0), .int (iI 0), .int (iI 0), .int (iI 0)]))]) 1 17 7 [(0, .ref q)] [.ref q4_1]
  refine xx_dup C 8 rfl dX11_init_7 rfl ?_
  refine xv_ctor (k := 1) (n := 17) (e := .inr (3, [.null, .null, .null, .null, .null, .null, .null, .null, .null, .int (iI 0), .int (iI 0), .int (iI 0), .int (iI 0), .int (iI 0), .int (iI 0), .int (iI 0), .int (iI 0)])) (ws := [(q, .inr (11, [.null, .null, .null, .null, .null, .null, .null, .null]))]) (q := q4_1) (st := [.ref q4_1]) (As := []) C 11 rfl ca_X2_init ⟨rfl, w_61⟩ w_60 rfl ⟨(Nat.le_of_ble_eq_true rfl), (Nat.le_of_ble_eq_true rfl)⟩ ⟨(Nat.le_of_ble_eq_true rfl), (Nat.le_of_ble_eq_true rfl)⟩ (Nat.le_of_ble_eq_true rfl) dX11_init_8 (i_X2) (fun u8_2 => ?_) rfl
  refine wv_eq (k2 := 12) (n2 := 279) rfl (Nat.eq_of_beq_eq_true rfl) (Nat.eq_of_beq_eq_true rfl) ?_
  show wv_ G X ([(q, .inr (11, [.null, .null, .null, .null, .null, .null, .null, .null]))] ++ (hX2_ G q4_1 u8_2)) 12 279 11 [(0, .ref q)] [.ref q4_1]
  generalize hM1 : (hX2_ G q4_1 u8_2 : va_W) = M1
  refine xx_astore_n (lv1 := [(1, .ref q4_1), (0, .ref q)]) C 12 rfl (by decide) dX11_init_11 rfl rfl ?_
  refine xv_new (ci := 8) (fs := [.int (iI 0), .int (iI 0)]) C 15 rfl in_X8 tyX8 tyX8_ok rfl (fun j hj => by rcases (show j = 0 ∨ j = 1 by omega) with rfl | rfl <;> rfl) ⟨w_176, w_177, w_29⟩ ⟨(Nat.le_of_ble_eq_true rfl), (Nat.le_of_ble_eq_true rfl)⟩ dX11_init_12 (fun q12_3 => ?_)
  show wv_ G X (([(q, .inr (11, [.null, .null, .null, .null, .null, .null, .null, .null]))] ++ M1) ++ [(q12_3, .inr (8, [.int (iI 0), .int (iI 0)]))]) 13 281 15 [(1, .ref q4_1), (0, .ref q)] [.ref q12_3]
  refine xx_dup C 16 rfl dX11_init_15 rfl ?_
  refine xv_ctorN (index0 := 1) (k := 13) (n := 281) (e := .inr (8, [.int (iI 0), .int (iI 0)])) (ws := [(q, .inr (11, [.null, .null, .null, .null, .null, .null, .null, .null]))] ++ M1) (q := q12_3) (st := [.ref q12_3]) (As := []) C 19 rfl ca_X8_init ⟨rfl, w_179⟩ rfl rfl ⟨(Nat.le_of_ble_eq_true rfl), (Nat.le_of_ble_eq_true rfl)⟩ ⟨(Nat.le_of_ble_eq_true rfl), (Nat.le_of_ble_eq_true rfl)⟩ (Nat.le_of_ble_eq_true rfl) dX11_init_16 (i_X8) (fun u16_4 => ?_) rfl
  refine wv_eq (k2 := 13) (n2 := 281) rfl (Nat.eq_of_beq_eq_true rfl) (Nat.eq_of_beq_eq_true rfl) ?_
  refine xv_assoc ?_
  show wv_ G X ([(q, .inr (11, [.null, .null, .null, .null, .null, .null, .null, .null]))] ++ (M1 ++ [(q12_3, .inr (8, [.int (iI (-15)), .int (iI (-15))]))])) 13 281 19 [(1, .ref q4_1), (0, .ref q)] [.ref q12_3]
  generalize hM2 : (M1 ++ [(q12_3, .inr (8, [.int (iI (-15)), .int (iI (-15))]))] : va_W) = M2
  refine xx_astore_n (lv1 := [(2, .ref q12_3), (1, .ref q4_1), (0, .ref q)]) C 20 rfl (by decide) dX11_init_19 rfl rfl ?_
  refine xx_aload_n C 21 rfl 2 dX11_init_20 rfl rfl ?_
  refine xx_aload_n C 22 rfl 1 dX11_init_21 rfl rfl ?_
  refine xv_put0F (fi := 0) C NI 25 rfl (fs := [.null, .null, .null, .null, .null, .null, .null, .null]) rfl in_X11 tyX11 tyX11_ok nmX11 (by decide) (Nat.le_of_ble_eq_true rfl) ⟨rfl, rfl, rfl⟩ rfl rfl w_340 dX11_init_22 ?_
  show wv_ G X ([(q, .inr (11, [.ref q4_1, .null, .null, .null, .null, .null, .null, .null]))] ++ M2) 13 281 25 [(2, .ref q12_3), (1, .ref q4_1), (0, .ref q)] []
  refine xx_aload_n C 26 rfl 2 dX11_init_25 rfl rfl ?_
  refine xx_aload_n C 27 rfl 0 dX11_init_26 rfl rfl ?_
  refine xv_put0F (fi := 1) C NI 30 rfl (fs := [.ref q4_1, .null, .null, .null, .null, .null, .null, .null]) rfl in_X11 tyX11 tyX11_ok nmX11 (by decide) (Nat.le_of_ble_eq_true rfl) ⟨rfl, rfl, rfl⟩ rfl rfl w_341 dX11_init_27 ?_
  show wv_ G X ([(q, .inr (11, [.ref q4_1, .ref q12_3, .null, .null, .null, .null, .null, .null]))] ++ M2) 13 281 30 [(2, .ref q12_3), (1, .ref q4_1), (0, .ref q)] []
  refine xx_aload_n C 31 rfl 2 dX11_init_30 rfl rfl ?_
  refine xv_new (ci := 2) (fs := [.null, .null]) C 34 rfl in_X1 tyX1 tyX1_ok rfl (fun j hj => by rcases (show j = 0 ∨ j = 1 by omega) with rfl | rfl <;> rfl) ⟨w_189, w_190, w_30⟩ ⟨(Nat.le_of_ble_eq_true rfl), (Nat.le_of_ble_eq_true rfl)⟩ dX11_init_31 (fun q31_5 => ?_)
  show wv_ G X (([(q, .inr (11, [.ref q4_1, .ref q12_3, .null, .null, .null, .null, .null, .null]))] ++ M2) ++ [(q31_5, .inr (2, [.null, .null]))]) 14 283 34 [(2, .ref q12_3), (1, .ref q4_1), (0, .ref q)] [.ref q31_5, .ref q]
  refine xx_dup C 35 rfl dX11_init_34 rfl ?_
  refine xx_aload_n C 36 rfl 1 dX11_init_35 rfl rfl ?_
  refine xx_aload_n C 37 rfl 0 dX11_init_36 rfl rfl ?_
  refine xv_ctor (k := 14) (n := 283) (e := .inr (2, [.null, .null])) (ws := [(q, .inr (11, [.ref q4_1, .ref q12_3, .null, .null, .null, .null, .null, .null]))] ++ M2) (q := q31_5) (st := [.ref q31_5, .ref q]) (As := [.ref q4_1, .ref q12_3]) C 40 rfl ca_X1_init ⟨rfl, w_192⟩ w_191 rfl ⟨(Nat.le_of_ble_eq_true rfl), (Nat.le_of_ble_eq_true rfl)⟩ ⟨(Nat.le_of_ble_eq_true rfl), (Nat.le_of_ble_eq_true rfl)⟩ (Nat.le_of_ble_eq_true rfl) dX11_init_37 (i_X1 q4_1 q12_3) (fun u37_6 => ?_) rfl
  refine wv_eq (k2 := 14) (n2 := 283) rfl (Nat.eq_of_beq_eq_true rfl) (Nat.eq_of_beq_eq_true rfl) ?_
  refine xv_assoc ?_
  show wv_ G X ([(q, .inr (11, [.ref q4_1, .ref q12_3, .null, .null, .null, .null, .null, .null]))] ++ (M2 ++ [(q31_5, .inr (2, [.ref q4_1, .ref q12_3]))])) 14 283 40 [(2, .ref q12_3), (1, .ref q4_1), (0, .ref q)] [.ref q31_5, .ref q]
  generalize hM3 : (M2 ++ [(q31_5, .inr (2, [.ref q4_1, .ref q12_3]))] : va_W) = M3
  refine xv_put0F (fi := 2) C NI 43 rfl (fs := [.ref q4_1, .ref q12_3, .null, .null, .null, .null, .null, .null]) rfl in_X11 tyX11 tyX11_ok nmX11 (by decide) (Nat.le_of_ble_eq_true rfl) ⟨rfl, rfl, rfl⟩ rfl rfl w_342 dX11_init_40 ?_
  show wv_ G X ([(q, .inr (11, [.ref q4_1, .ref q12_3, .ref q31_5, .null, .null, .null, .null, .null]))] ++ M3) 14 283 43 [(2, .ref q12_3), (1, .ref q4_1), (0, .ref q)] []
  refine xx_aload_n C 44 rfl 2 dX11_init_43 rfl rfl ?_
  refine xv_new (ci := 10) (fs := [.null, .null]) C 47 rfl in_X10 tyX10 tyX10_ok rfl (fun j hj => by rcases (show j = 0 ∨ j = 1 by omega) with rfl | rfl <;> rfl) ⟨w_202, w_203, w_31⟩ ⟨(Nat.le_of_ble_eq_true rfl), (Nat.le_of_ble_eq_true rfl)⟩ dX11_init_44 (fun q44_7 => ?_)
  show wv_ G X (([(q, .inr (11, [.ref q4_1, .ref q12_3, .ref q31_5, .null, .null, .null, .null, .null]))] ++ M3) ++ [(q44_7, .inr (10, [.null, .null]))]) 15 285 47 [(2, .ref q12_3), (1, .ref q4_1), (0, .ref q)] [.ref q44_7, .ref q]
  refine xx_dup C 48 rfl dX11_init_47 rfl ?_
  refine xx_aload_n C 49 rfl 1 dX11_init_48 rfl rfl ?_
  refine xx_aload_n C 50 rfl 0 dX11_init_49 rfl rfl ?_
  refine xv_ctor (k := 15) (n := 285) (e := .inr (10, [.null, .null])) (ws := [(q, .inr (11, [.ref q4_1, .ref q12_3, .ref q31_5, .null, .null, .null, .null, .null]))] ++ M3) (q := q44_7) (st := [.ref q44_7, .ref q]) (As := [.ref q4_1, .ref q12_3]) C 53 rfl ca_X10_init ⟨rfl, w_205⟩ w_204 rfl ⟨(Nat.le_of_ble_eq_true rfl), (Nat.le_of_ble_eq_true rfl)⟩ ⟨(Nat.le_of_ble_eq_true rfl), (Nat.le_of_ble_eq_true rfl)⟩ (Nat.le_of_ble_eq_true rfl) dX11_init_50 (i_X10 q4_1 q12_3) (fun u50_8 => ?_) rfl
  refine wv_eq (k2 := 15) (n2 := 285) rfl (Nat.eq_of_beq_eq_true rfl) (Nat.eq_of_beq_eq_true rfl) ?_
  refine xv_assoc ?_
  show wv_ G X ([(q, .inr (11, [.ref q4_1, .ref q12_3, .ref q31_5, .null, .null, .null, .null, .null]))] ++ (M3 ++ [(q44_7, .inr (10, [.ref q4_1, .ref q12_3]))])) 15 285 53 [(2, .ref q12_3), (1, .ref q4_1), (0, .ref q)] [.ref q44_7, .ref q]
  generalize hM4 : (M3 ++ [(q44_7, .inr (10, [.ref q4_1, .ref q12_3]))] : va_W) = M4
  refine xv_put0F (fi := 3) C NI 56 rfl (fs := [.ref q4_1, .ref q12_3, .ref q31_5, .null, .null, .null, .null, .null]) rfl in_X11 tyX11 tyX11_ok nmX11 (by decide) (Nat.le_of_ble_eq_true rfl) ⟨rfl, rfl, rfl⟩ rfl rfl w_343 dX11_init_53 ?_
  show wv_ G X ([(q, .inr (11, [.ref q4_1, .ref q12_3, .ref q31_5, .ref q44_7, .null, .null, .null, .null]))] ++ M4) 15 285 56 [(2, .ref q12_3), (1, .ref q4_1), (0, .ref q)] []
  refine xx_aload_n C 57 rfl 2 dX11_init_56 rfl rfl ?_
  refine xv_new (ci := 7) (fs := [.null, .null]) C 60 rfl in_X7 tyX7 tyX7_ok rfl (fun j hj => by rcases (show j = 0 ∨ j = 1 by omega) with rfl | rfl <;> rfl) ⟨w_215, w_216, w_32⟩ ⟨(Nat.le_of_ble_eq_true rfl), (Nat.le_of_ble_eq_true rfl)⟩ dX11_init_57 (fun q57_9 => ?_)
  show wv_ G X (([(q, .inr (11, [.ref q4_1, .ref q12_3, .ref q31_5, .ref q44_7, .null, .null, .null, .null]))] ++ M4) ++ [(q57_9, .inr (7, [.null, .null]))]) 16 287 60 [(2, .ref q12_3), (1, .ref q4_1), (0, .ref q)] [.ref q57_9, .ref q]
  refine xx_dup C 61 rfl dX11_init_60 rfl ?_
  refine xx_aload_n C 62 rfl 1 dX11_init_61 rfl rfl ?_
  refine xv_ctor (k := 16) (n := 287) (e := .inr (7, [.null, .null])) (ws := [(q, .inr (11, [.ref q4_1, .ref q12_3, .ref q31_5, .ref q44_7, .null, .null, .null, .null]))] ++ M4) (q := q57_9) (st := [.ref q57_9, .ref q]) (As := [.ref q4_1]) C 65 rfl ca_X7_init ⟨rfl, w_218⟩ w_217 rfl ⟨(Nat.le_of_ble_eq_true rfl), (Nat.le_of_ble_eq_true rfl)⟩ ⟨(Nat.le_of_ble_eq_true rfl), (Nat.le_of_ble_eq_true rfl)⟩ (Nat.le_of_ble_eq_true rfl) dX11_init_62 (i_X7 q4_1) (fun u62_10 => ?_) rfl
  refine wv_eq (k2 := 17) (n2 := 311) rfl (Nat.eq_of_beq_eq_true rfl) (Nat.eq_of_beq_eq_true rfl) ?_
  refine xv_assoc ?_
  show wv_ G X ([(q, .inr (11, [.ref q4_1, .ref q12_3, .ref q31_5, .ref q44_7, .null, .null, .null, .null]))] ++ (M4 ++ [(q57_9, .inr (7, [.ref q4_1, .ref (u62_10 1)])), ((u62_10 1), .inl (G.1.1 100, 24, .inl (fun _ => iI 0)))])) 17 311 65 [(2, .ref q12_3), (1, .ref q4_1), (0, .ref q)] [.ref q57_9, .ref q]
  generalize hM5 : (M4 ++ [(q57_9, .inr (7, [.ref q4_1, .ref (u62_10 1)])), ((u62_10 1), .inl (G.1.1 100, 24, .inl (fun _ => iI 0)))] : va_W) = M5
  refine xv_put0F (fi := 4) C NI 68 rfl (fs := [.ref q4_1, .ref q12_3, .ref q31_5, .ref q44_7, .null, .null, .null, .null]) rfl in_X11 tyX11 tyX11_ok nmX11 (by decide) (Nat.le_of_ble_eq_true rfl) ⟨rfl, rfl, rfl⟩ rfl rfl w_344 dX11_init_65 ?_
  show wv_ G X ([(q, .inr (11, [.ref q4_1, .ref q12_3, .ref q31_5, .ref q44_7, .ref q57_9, .null, .null, .null]))] ++ M5) 17 311 68 [(2, .ref q12_3), (1, .ref q4_1), (0, .ref q)] []
  refine xx_aload_n C 69 rfl 2 dX11_init_68 rfl rfl ?_
  refine xv_new (ci := 4) (fs := [.null, .null, .null, .int (iI 0), .int (iI 0), .int (iI 0)]) C 72 rfl in_X3 tyX3 tyX3_ok rfl (fun j hj => by rcases (show j = 0 ∨ j = 1 ∨ j = 2 ∨ j = 3 ∨ j = 4 ∨ j = 5 by omega) with rfl | rfl | rfl | rfl | rfl | rfl <;> rfl) ⟨w_228, w_229, w_33⟩ ⟨(Nat.le_of_ble_eq_true rfl), (Nat.le_of_ble_eq_true rfl)⟩ dX11_init_69 (fun q69_11 => ?_)
  show wv_ G X (([(q, .inr (11, [.ref q4_1, .ref q12_3, .ref q31_5, .ref q44_7, .ref q57_9, .null, .null, .null]))] ++ M5) ++ [(q69_11, .inr (4, [.null, .null, .null, .int (iI 0), .int (iI 0), .int (iI 0)]))]) 18 317 72 [(2, .ref q12_3), (1, .ref q4_1), (0, .ref q)] [.ref q69_11, .ref q]
  refine xx_dup C 73 rfl dX11_init_72 rfl ?_
  refine xx_aload_n C 74 rfl 1 dX11_init_73 rfl rfl ?_
  refine xv_ctor (k := 18) (n := 317) (e := .inr (4, [.null, .null, .null, .int (iI 0), .int (iI 0), .int (iI 0)])) (ws := [(q, .inr (11, [.ref q4_1, .ref q12_3, .ref q31_5, .ref q44_7, .ref q57_9, .null, .null, .null]))] ++ M5) (q := q69_11) (st := [.ref q69_11, .ref q]) (As := [.ref q4_1]) C 77 rfl ca_X3_init ⟨rfl, w_231⟩ w_230 rfl ⟨(Nat.le_of_ble_eq_true rfl), (Nat.le_of_ble_eq_true rfl)⟩ ⟨(Nat.le_of_ble_eq_true rfl), (Nat.le_of_ble_eq_true rfl)⟩ (Nat.le_of_ble_eq_true rfl) dX11_init_74 (i_X3 q4_1) (fun u74_12 => ?_) rfl
  refine wv_eq (k2 := 139) (n2 := 3116) rfl (Nat.eq_of_beq_eq_true rfl) (Nat.eq_of_beq_eq_true rfl) ?_
  refine xv_assoc ?_
  show wv_ G X ([(q, .inr (11, [.ref q4_1, .ref q12_3, .ref q31_5, .ref q44_7, .ref q57_9, .null, .null, .null]))] ++ (M5 ++ hX3_ G q4_1 q69_11 u74_12.1 u74_12.2)) 139 3116 77 [(2, .ref q12_3), (1, .ref q4_1), (0, .ref q)] [.ref q69_11, .ref q]
  generalize hM6 : (M5 ++ hX3_ G q4_1 q69_11 u74_12.1 u74_12.2 : va_W) = M6
  refine xv_put0F (fi := 5) C NI 80 rfl (fs := [.ref q4_1, .ref q12_3, .ref q31_5, .ref q44_7, .ref q57_9, .null, .null, .null]) rfl in_X11 tyX11 tyX11_ok nmX11 (by decide) (Nat.le_of_ble_eq_true rfl) ⟨rfl, rfl, rfl⟩ rfl rfl w_345 dX11_init_77 ?_
  show wv_ G X ([(q, .inr (11, [.ref q4_1, .ref q12_3, .ref q31_5, .ref q44_7, .ref q57_9, .ref q69_11, .null, .null]))] ++ M6) 139 3116 80 [(2, .ref q12_3), (1, .ref q4_1), (0, .ref q)] []
  refine xx_aload_n C 81 rfl 2 dX11_init_80 rfl rfl ?_
  refine xv_new (ci := 6) (fs := [.null, .null, .null, .null, .null, .int (iI 0), .null, .int (iI 0)]) C 84 rfl in_X6 tyX6 tyX6_ok rfl (fun j hj => by rcases (show j = 0 ∨ j = 1 ∨ j = 2 ∨ j = 3 ∨ j = 4 ∨ j = 5 ∨ j = 6 ∨ j = 7 by omega) with rfl | rfl | rfl | rfl | rfl | rfl | rfl | rfl <;> rfl) ⟨w_257, w_258, w_34⟩ ⟨(Nat.le_of_ble_eq_true rfl), (Nat.le_of_ble_eq_true rfl)⟩ dX11_init_81 (fun q81_13 => ?_)
  show wv_ G X (([(q, .inr (11, [.ref q4_1, .ref q12_3, .ref q31_5, .ref q44_7, .ref q57_9, .ref q69_11, .null, .null]))] ++ M6) ++ [(q81_13, .inr (6, [.null, .null, .null, .null, .null, .int (iI 0), .null, .int (iI 0)]))]) 140 3124 84 [(2, .ref q12_3), (1, .ref q4_1), (0, .ref q)] [.ref q81_13, .ref q]
  refine xx_dup C 85 rfl dX11_init_84 rfl ?_
  refine xv_ctorN (index0 := 2) (k := 140) (n := 3124) (e := .inr (6, [.null, .null, .null, .null, .null, .int (iI 0), .null, .int (iI 0)])) (ws := [(q, .inr (11, [.ref q4_1, .ref q12_3, .ref q31_5, .ref q44_7, .ref q57_9, .ref q69_11, .null, .null]))] ++ M6) (q := q81_13) (st := [.ref q81_13, .ref q]) (As := []) C 88 rfl ca_X6_init ⟨rfl, w_260⟩ rfl rfl ⟨(Nat.le_of_ble_eq_true rfl), (Nat.le_of_ble_eq_true rfl)⟩ ⟨(Nat.le_of_ble_eq_true rfl), (Nat.le_of_ble_eq_true rfl)⟩ (Nat.le_of_ble_eq_true rfl) dX11_init_85 (i_X6) (fun u85_14 => ?_) rfl
  refine wv_eq (k2 := 147) (n2 := 3387) rfl (Nat.eq_of_beq_eq_true rfl) (Nat.eq_of_beq_eq_true rfl) ?_
  refine xv_assoc ?_
  show wv_ G X ([(q, .inr (11, [.ref q4_1, .ref q12_3, .ref q31_5, .ref q44_7, .ref q57_9, .ref q69_11, .null, .null]))] ++ (M6 ++ [(q81_13, .inr (6, [.ref (u85_14 1), .ref (u85_14 3), .ref (u85_14 4), .ref (u85_14 5), .ref (u85_14 6), .int (iI 0), .ref (u85_14 7), .int (iI 0)])), ((u85_14 1), .inr (1, [.ref (u85_14 2), .int (iI 0), .int (iI 0), .int (iI 0)])), ((u85_14 2), .inl (G.1.1 101, (br_ 16 (-1)).toNat, .inl (fun j => iI (br_ 16 (j : Nat))))), ((u85_14 3), .inl (G.1.1 103, 60, .inr (.inr (.inr (.inr (fun _ => none)))))), ((u85_14 4), .inl (G.1.1 100, 60, .inl (fun _ => iI 0))), ((u85_14 5), .inl (G.1.1 100, 60, .inl (fun _ => iI 0))), ((u85_14 6), .inl (G.1.1 100, 60, .inl (fun _ => iI 0))), ((u85_14 7), .inl (G.1.1 100, 3, .inl (fun _ => iI 0)))])) 147 3387 88 [(2, .ref q12_3), (1, .ref q4_1), (0, .ref q)] [.ref q81_13, .ref q]
  generalize hM7 : (M6 ++ [(q81_13, .inr (6, [.ref (u85_14 1), .ref (u85_14 3), .ref (u85_14 4), .ref (u85_14 5), .ref (u85_14 6), .int (iI 0), .ref (u85_14 7), .int (iI 0)])), ((u85_14 1), .inr (1, [.ref (u85_14 2), .int (iI 0), .int (iI 0), .int (iI 0)])), ((u85_14 2), .inl (G.1.1 101, (br_ 16 (-1)).toNat, .inl (fun j => iI (br_ 16 (j : Nat))))), ((u85_14 3), .inl (G.1.1 103, 60, .inr (.inr (.inr (.inr (fun _ => none)))))), ((u85_14 4), .inl (G.1.1 100, 60, .inl (fun _ => iI 0))), ((u85_14 5), .inl (G.1.1 100, 60, .inl (fun _ => iI 0))), ((u85_14 6), .inl (G.1.1 100, 60, .inl (fun _ => iI 0))), ((u85_14 7), .inl (G.1.1 100, 3, .inl (fun _ => iI 0)))] : va_W) = M7
  refine xv_put0F (fi := 6) C NI 91 rfl (fs := [.ref q4_1, .ref q12_3, .ref q31_5, .ref q44_7, .ref q57_9, .ref q69_11, .null, .null]) rfl in_X11 tyX11 tyX11_ok nmX11 (by decide) (Nat.le_of_ble_eq_true rfl) ⟨rfl, rfl, rfl⟩ rfl rfl w_346 dX11_init_88 ?_
  show wv_ G X ([(q, .inr (11, [.ref q4_1, .ref q12_3, .ref q31_5, .ref q44_7, .ref q57_9, .ref q69_11, .ref q81_13, .null]))] ++ M7) 147 3387 91 [(2, .ref q12_3), (1, .ref q4_1), (0, .ref q)] []
  refine xx_aload_n C 92 rfl 2 dX11_init_91 rfl rfl ?_
  refine xv_new (ci := 5) (fs := [.null]) C 95 rfl in_X5 tyX5 tyX5_ok rfl (fun j hj => by rcases (show j = 0 by omega) with rfl <;> rfl) ⟨w_328, w_329, w_39⟩ ⟨(Nat.le_of_ble_eq_true rfl), (Nat.le_of_ble_eq_true rfl)⟩ dX11_init_92 (fun q92_15 => ?_)
  show wv_ G X (([(q, .inr (11, [.ref q4_1, .ref q12_3, .ref q31_5, .ref q44_7, .ref q57_9, .ref q69_11, .ref q81_13, .null]))] ++ M7) ++ [(q92_15, .inr (5, [.null]))]) 148 3388 95 [(2, .ref q12_3), (1, .ref q4_1), (0, .ref q)] [.ref q92_15, .ref q]
  refine xx_dup C 96 rfl dX11_init_95 rfl ?_
  refine xv_ctorN (index0 := 3) (k := 148) (n := 3388) (e := .inr (5, [.null])) (ws := [(q, .inr (11, [.ref q4_1, .ref q12_3, .ref q31_5, .ref q44_7, .ref q57_9, .ref q69_11, .ref q81_13, .null]))] ++ M7) (q := q92_15) (st := [.ref q92_15, .ref q]) (As := []) C 99 rfl ca_X5_init ⟨rfl, w_331⟩ rfl rfl ⟨(Nat.le_of_ble_eq_true rfl), (Nat.le_of_ble_eq_true rfl)⟩ ⟨(Nat.le_of_ble_eq_true rfl), (Nat.le_of_ble_eq_true rfl)⟩ (Nat.le_of_ble_eq_true rfl) dX11_init_96 (i_X5) (fun u96_16 => ?_) rfl
  refine wv_eq (k2 := 150) (n2 := 3408) rfl (Nat.eq_of_beq_eq_true rfl) (Nat.eq_of_beq_eq_true rfl) ?_
  refine xv_assoc ?_
  show wv_ G X ([(q, .inr (11, [.ref q4_1, .ref q12_3, .ref q31_5, .ref q44_7, .ref q57_9, .ref q69_11, .ref q81_13, .null]))] ++ (M7 ++ [(q92_15, .inr (5, [.ref (u96_16 1)])), ((u96_16 1), .inr (1, [.ref (u96_16 2), .int (iI 0), .int (iI 0), .int (iI 0)])), ((u96_16 2), .inl (G.1.1 101, (br_ 16 (-1)).toNat, .inl (fun j => iI (br_ 16 (j : Nat)))))])) 150 3408 99 [(2, .ref q12_3), (1, .ref q4_1), (0, .ref q)] [.ref q92_15, .ref q]
  generalize hM8 : (M7 ++ [(q92_15, .inr (5, [.ref (u96_16 1)])), ((u96_16 1), .inr (1, [.ref (u96_16 2), .int (iI 0), .int (iI 0), .int (iI 0)])), ((u96_16 2), .inl (G.1.1 101, (br_ 16 (-1)).toNat, .inl (fun j => iI (br_ 16 (j : Nat)))))] : va_W) = M8
  refine xv_put0F (fi := 7) C NI 102 rfl (fs := [.ref q4_1, .ref q12_3, .ref q31_5, .ref q44_7, .ref q57_9, .ref q69_11, .ref q81_13, .null]) rfl in_X11 tyX11 tyX11_ok nmX11 (by decide) (Nat.le_of_ble_eq_true rfl) ⟨rfl, rfl, rfl⟩ rfl rfl w_347 dX11_init_99 ?_
  show wv_ G X ([(q, .inr (11, [.ref q4_1, .ref q12_3, .ref q31_5, .ref q44_7, .ref q57_9, .ref q69_11, .ref q81_13, .ref q92_15]))] ++ M8) 150 3408 102 [(2, .ref q12_3), (1, .ref q4_1), (0, .ref q)] []
  subst hM8
  subst hM7
  subst hM6
  subst hM5
  subst hM4
  subst hM3
  subst hM2
  subst hM1
  show wv_ G X ((fun (q : Nat) (u : (Nat → Nat) × (Nat → Nat → Nat) × (Nat → Nat)) => hX11_ G q u.1 u.2.1 u.2.2) q ((cq_ q4_1 u8_2, u74_12.2, fun j => ([q, q12_3, q31_5, q44_7, q57_9, (u62_10 1), q69_11, u74_12.1, q81_13, (u85_14 1), (u85_14 2), (u85_14 3), (u85_14 4), (u85_14 5), (u85_14 6), (u85_14 7), q92_15, (u96_16 1), (u96_16 2)] : List Nat).getD j 0))) 150 3408 102 [(2, .ref q12_3), (1, .ref q4_1), (0, .ref q)] []
  exact xv_ret (w := (fun (q : Nat) (u : (Nat → Nat) × (Nat → Nat → Nat) × (Nat → Nat)) => hX11_ G q u.1 u.2.1 u.2.2) q) (k := 150) (n := 3408) C E rfl ((cq_ q4_1 u8_2, u74_12.2, fun j => ([q, q12_3, q31_5, q44_7, q57_9, (u62_10 1), q69_11, u74_12.1, q81_13, (u85_14 1), (u85_14 2), (u85_14 3), (u85_14 4), (u85_14 5), (u85_14 6), (u85_14 7), q92_15, (u96_16 1), (u96_16 2)] : List Nat).getD j 0)) ⟨(Nat.le_of_ble_eq_true rfl), (Nat.le_of_ble_eq_true rfl)⟩ dX11_init_102

