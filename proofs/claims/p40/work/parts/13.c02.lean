theorem dJ5_init_d00df_0 : decode cJ5_init_d00df 0 = .ok (.aload_n 0, 1) := by decide +kernel
theorem dJ5_init_d00df_1 : decode cJ5_init_d00df 1 = .ok (.invokespecial 3, 3) := by decide +kernel
theorem dJ5_init_d00df_4 : decode cJ5_init_d00df 4 = .ok (.getstatic 18, 3) := by decide +kernel
theorem dJ5_init_d00df_7 : decode cJ5_init_d00df 7 = .ok (.ifCond .eq 18, 3) := by decide +kernel
theorem dJ5_init_d00df_10 : decode cJ5_init_d00df 10 = .ok (.aload_n 0, 1) := by decide +kernel
theorem dJ5_init_d00df_11 : decode cJ5_init_d00df 11 = .ok (.iload_n 1, 1) := by decide +kernel
theorem dJ5_init_d00df_12 : decode cJ5_init_d00df 12 = .ok (.newarray .byte, 2) := by decide +kernel
theorem dJ5_init_d00df_14 : decode cJ5_init_d00df 14 = .ok (.putfield 15, 3) := by decide +kernel
theorem dJ5_init_d00df_17 : decode cJ5_init_d00df 17 = .ok (.aload_n 0, 1) := by decide +kernel
theorem dJ5_init_d00df_18 : decode cJ5_init_d00df 18 = .ok (.iconst 0, 1) := by decide +kernel
theorem dJ5_init_d00df_19 : decode cJ5_init_d00df 19 = .ok (.putfield 22, 3) := by decide +kernel
theorem dJ5_init_d00df_22 : decode cJ5_init_d00df 22 = .ok (.goto 16, 3) := by decide +kernel
theorem dJ5_init_d00df_25 : decode cJ5_init_d00df 25 = .ok (.aload_n 0, 1) := by decide +kernel
theorem dJ5_init_d00df_26 : decode cJ5_init_d00df 26 = .ok (.iload_n 1, 1) := by decide +kernel
theorem dJ5_init_d00df_27 : decode cJ5_init_d00df 27 = .ok (.invokestatic 26, 3) := by decide +kernel
theorem dJ5_init_d00df_30 : decode cJ5_init_d00df 30 = .ok (.putfield 15, 3) := by decide +kernel
theorem dJ5_init_d00df_33 : decode cJ5_init_d00df 33 = .ok (.aload_n 0, 1) := by decide +kernel
theorem dJ5_init_d00df_34 : decode cJ5_init_d00df 34 = .ok (.iconst 1, 1) := by decide +kernel
theorem dJ5_init_d00df_35 : decode cJ5_init_d00df 35 = .ok (.putfield 22, 3) := by decide +kernel
theorem dJ5_init_d00df_38 : decode cJ5_init_d00df 38 = .ok (.return_, 1) := by decide +kernel
set_option maxHeartbeats 4000000 in
set_option maxRecDepth 100000 in
theorem i_J5 {G : gp_} : mc_ yJ5_init_d00df cJ5_init_d00df 2 ({ frames := 1, cells := 1, slots := 16, locals := 12 } : Room) G [.int (iI 16)] (.inr (1, [.null, .int (iI 0), .int (iI 0), .int (iI 0)])) (S := Nat → Nat) (fun (q : Nat) (u : Nat → Nat) => [(q, .inr (1, [.ref (u 1), .int (iI 0), .int (iI 0), .int (iI 0)])), ((u 1), .inl (G.1.1 101, (br_ 16 (-1)).toNat, .inl (fun j => iI (br_ 16 (j : Nat)))))]) := by
  refine mc_in (own := "java/lang/AbstractStringBuilder") (by decide) rfl (fun _ => (Nat.le_of_ble_eq_true rfl)) (fun X q C NI E => ?_)
  have NI := NI rfl
  show wv_ G X [(q, .inr (1, [.null, .int (iI 0), .int (iI 0), .int (iI 0)]))] 0 0 0 [(0, .ref q), (1, .int (iI 16))] []
  refine xx_aload_n C 1 rfl 0 dJ5_init_d00df_0 rfl rfl ?_
  refine xx_obj C 4 rfl ⟨w_271, w_56, w_57⟩ ⟨(Nat.le_of_ble_eq_true rfl), (Nat.le_of_ble_eq_true rfl)⟩ dJ5_init_d00df_1 ?_
  refine xx_gcs C 7 rfl w_272 dJ5_init_d00df_4 ?_
  refine xx_if_eq (tgt := 25) (t := none) (f := some ()) (r := ()) C 10 rfl dJ5_init_d00df_7 (by decide) (by decide) (fun h => nn_ h) (fun _ => ?_)
  refine xx_aload_n C 11 rfl 0 dJ5_init_d00df_10 rfl rfl ?_
  refine xx_iload_n C 12 rfl 1 dJ5_init_d00df_11 rfl rfl ?_
  refine xv_newb (z := 16) C 14 rfl (by decide) (by decide) w_295 ⟨(Nat.le_of_ble_eq_true rfl), (Nat.le_of_ble_eq_true rfl)⟩ dJ5_init_d00df_12 (fun q12_1 => ?_)
  refine wv_eq (k2 := 1) (n2 := 16) rfl (Nat.eq_of_beq_eq_true rfl) (Nat.eq_of_beq_eq_true rfl) ?_
  show wv_ G X ([(q, .inr (1, [.null, .int (iI 0), .int (iI 0), .int (iI 0)])), (q12_1, .inl (G.1.1 101, (br_ 16 (-1)).toNat, .inl (fun j => iI (br_ 16 (j : Nat)))))]) 1 16 14 [(0, .ref q), (1, .int (iI 16))] [.ref q12_1, .ref q]
  refine xv_put (fi := 0) C 17 rfl 0 (fs := [.null, .int (iI 0), .int (iI 0), .int (iI 0)]) rfl rfl in_J4 tyJ4 tyJ4_ok nmJ4 (by decide) (Nat.le_of_ble_eq_true rfl) ⟨rfl, rfl⟩ rfl rfl w_281 dJ5_init_d00df_14 ?_
  show wv_ G X ([(q, .inr (1, [.ref q12_1, .int (iI 0), .int (iI 0), .int (iI 0)])), (q12_1, .inl (G.1.1 101, (br_ 16 (-1)).toNat, .inl (fun j => iI (br_ 16 (j : Nat)))))]) 1 16 17 [(0, .ref q), (1, .int (iI 16))] []
  refine xx_aload_n C 18 rfl 0 dJ5_init_d00df_17 rfl rfl ?_
  refine xx_iconst C 19 rfl dJ5_init_d00df_18 ?_
  refine xv_put (fi := 1) C 22 rfl 0 (fs := [.ref q12_1, .int (iI 0), .int (iI 0), .int (iI 0)]) rfl rfl in_J4 tyJ4 tyJ4_ok nmJ4 (by decide) (Nat.le_of_ble_eq_true rfl) ⟨rfl, rfl⟩ rfl rfl w_282 dJ5_init_d00df_19 ?_
  show wv_ G X ([(q, .inr (1, [.ref q12_1, .int (iI 0), .int (iI 0), .int (iI 0)])), (q12_1, .inl (G.1.1 101, (br_ 16 (-1)).toNat, .inl (fun j => iI (br_ 16 (j : Nat)))))]) 1 16 22 [(0, .ref q), (1, .int (iI 16))] []
  refine xx_goto C 38 dJ5_init_d00df_22 (by decide) ?_
  show wv_ G X ((fun (q : Nat) (u : Nat → Nat) => [(q, .inr (1, [.ref (u 1), .int (iI 0), .int (iI 0), .int (iI 0)])), ((u 1), .inl (G.1.1 101, (br_ 16 (-1)).toNat, .inl (fun j => iI (br_ 16 (j : Nat)))))]) q (fun j => ([q, q12_1] : List Nat).getD j 0)) 1 16 38 [(0, .ref q), (1, .int (iI 16))] []
  exact xv_ret (w := (fun (q : Nat) (u : Nat → Nat) => [(q, .inr (1, [.ref (u 1), .int (iI 0), .int (iI 0), .int (iI 0)])), ((u 1), .inl (G.1.1 101, (br_ 16 (-1)).toNat, .inl (fun j => iI (br_ 16 (j : Nat)))))]) q) (k := 1) (n := 16) C E rfl (fun j => ([q, q12_1] : List Nat).getD j 0) ⟨(Nat.le_of_ble_eq_true rfl), (Nat.le_of_ble_eq_true rfl)⟩ dJ5_init_d00df_38

theorem dJ4_init_da8c8_0 : decode cJ4_init_da8c8 0 = .ok (.aload_n 0, 1) := by decide +kernel
theorem dJ4_init_da8c8_1 : decode cJ4_init_da8c8 1 = .ok (.bipush 16, 2) := by decide +kernel
theorem dJ4_init_da8c8_3 : decode cJ4_init_da8c8 3 = .ok (.invokespecial 1, 3) := by decide +kernel
theorem dJ4_init_da8c8_6 : decode cJ4_init_da8c8 6 = .ok (.return_, 1) := by decide +kernel
set_option maxHeartbeats 4000000 in
set_option maxRecDepth 100000 in
theorem i_J4 {G : gp_} : mc_ yJ4_init_da8c8 cJ4_init_da8c8 1 ({ frames := 2, cells := 1, slots := 16, locals := 33 } : Room) G [] (.inr (1, [.null, .int (iI 0), .int (iI 0), .int (iI 0)])) (S := Nat → Nat) (fun (q : Nat) (u : Nat → Nat) => [(q, .inr (1, [.ref (u 1), .int (iI 0), .int (iI 0), .int (iI 0)])), ((u 1), .inl (G.1.1 101, (br_ 16 (-1)).toNat, .inl (fun j => iI (br_ 16 (j : Nat)))))]) := by
  refine mc_in (own := "java/lang/StringBuilder") (by decide) rfl (fun _ => (Nat.le_of_ble_eq_true rfl)) (fun X q C NI E => ?_)
  have NI := NI rfl
  show wv_ G X [(q, .inr (1, [.null, .int (iI 0), .int (iI 0), .int (iI 0)]))] 0 0 0 [(0, .ref q)] []
  refine xx_aload_n C 1 rfl 0 dJ4_init_da8c8_0 rfl rfl ?_
  refine xx_bipush C 3 rfl dJ4_init_da8c8_1 (by decide) ?_
  refine xv_ctor (k := 0) (n := 0) (e := .inr (1, [.null, .int (iI 0), .int (iI 0), .int (iI 0)])) (ws := []) (q := q) (st := []) (As := [.int (iI 16)]) C 6 rfl ca_J5_init_d00df ⟨rfl, w_269⟩ w_268 rfl ⟨(Nat.le_of_ble_eq_true rfl), (Nat.le_of_ble_eq_true rfl)⟩ ⟨(Nat.le_of_ble_eq_true rfl), (Nat.le_of_ble_eq_true rfl)⟩ (Nat.le_of_ble_eq_true rfl) dJ4_init_da8c8_3 (i_J5) (fun u3_1 => ?_) rfl
  refine wv_eq (k2 := 1) (n2 := 16) rfl (Nat.eq_of_beq_eq_true rfl) (Nat.eq_of_beq_eq_true rfl) ?_
  show wv_ G X ([(q, .inr (1, [.ref (u3_1 1), .int (iI 0), .int (iI 0), .int (iI 0)])), ((u3_1 1), .inl (G.1.1 101, (br_ 16 (-1)).toNat, .inl (fun j => iI (br_ 16 (j : Nat)))))]) 1 16 6 [(0, .ref q)] []
  show wv_ G X ((fun (q : Nat) (u : Nat → Nat) => [(q, .inr (1, [.ref (u 1), .int (iI 0), .int (iI 0), .int (iI 0)])), ((u 1), .inl (G.1.1 101, (br_ 16 (-1)).toNat, .inl (fun j => iI (br_ 16 (j : Nat)))))]) q (u3_1)) 1 16 6 [(0, .ref q)] []
  exact xv_ret (w := (fun (q : Nat) (u : Nat → Nat) => [(q, .inr (1, [.ref (u 1), .int (iI 0), .int (iI 0), .int (iI 0)])), ((u 1), .inl (G.1.1 101, (br_ 16 (-1)).toNat, .inl (fun j => iI (br_ 16 (j : Nat)))))]) q) (k := 1) (n := 16) C E rfl (u3_1) ⟨(Nat.le_of_ble_eq_true rfl), (Nat.le_of_ble_eq_true rfl)⟩ dJ4_init_da8c8_6

theorem dX9_init_0 : decode cX9_init 0 = .ok (.aload_n 0, 1) := by decide +kernel
theorem dX9_init_1 : decode cX9_init 1 = .ok (.invokespecial 3, 3) := by decide +kernel
theorem dX9_init_4 : decode cX9_init 4 = .ok (.aload_n 0, 1) := by decide +kernel
theorem dX9_init_5 : decode cX9_init 5 = .ok (.bipush 24, 2) := by decide +kernel
theorem dX9_init_7 : decode cX9_init 7 = .ok (.newarray .int, 2) := by decide +kernel
theorem dX9_init_9 : decode cX9_init 9 = .ok (.putfield 9, 3) := by decide +kernel
theorem dX9_init_12 : decode cX9_init 12 = .ok (.aload_n 0, 1) := by decide +kernel
theorem dX9_init_13 : decode cX9_init 13 = .ok (.iconst 0, 1) := by decide +kernel
theorem dX9_init_14 : decode cX9_init 14 = .ok (.putfield 15, 3) := by decide +kernel
theorem dX9_init_17 : decode cX9_init 17 = .ok (.return_, 1) := by decide +kernel
set_option maxHeartbeats 4000000 in
set_option maxRecDepth 100000 in
theorem i_X9 {G : gp_} : mc_ yX9_init cX9_init 1 ({ frames := 1, cells := 1, slots := 24, locals := 12 } : Room) G [] (.inr (9, [.null, .int (iI 0)])) (S := Nat → Nat) (fun (q : Nat) (u : Nat → Nat) => [(q, .inr (9, [.ref (u 1), .int (iI 0)])), ((u 1), .inl (G.1.1 100, 24, .inl (fun _ => iI 0)))]) := by
  refine mc_in (own := "UrnHeap$Row") (by decide) rfl (fun _ => (Nat.le_of_ble_eq_true rfl)) (fun X q C NI E => ?_)
  have NI := NI rfl
  show wv_ G X [(q, .inr (9, [.null, .int (iI 0)]))] 0 0 0 [(0, .ref q)] []
  refine xx_aload_n C 1 rfl 0 dX9_init_0 rfl rfl ?_
  refine xx_obj C 4 rfl ⟨w_69, w_56, w_57⟩ ⟨(Nat.le_of_ble_eq_true rfl), (Nat.le_of_ble_eq_true rfl)⟩ dX9_init_1 ?_
  refine xx_aload_n C 5 rfl 0 dX9_init_4 rfl rfl ?_
  refine xx_bipush C 7 rfl dX9_init_5 (by decide) ?_
  refine xv_newi (z := 24) C 9 rfl (by decide) (by decide) w_79 ⟨(Nat.le_of_ble_eq_true rfl), (Nat.le_of_ble_eq_true rfl)⟩ dX9_init_7 (fun q7_1 => ?_)
  refine wv_eq (k2 := 1) (n2 := 24) rfl (Nat.eq_of_beq_eq_true rfl) (Nat.eq_of_beq_eq_true rfl) ?_
  show wv_ G X ([(q, .inr (9, [.null, .int (iI 0)])), (q7_1, .inl (G.1.1 100, 24, .inl (fun _ => iI 0)))]) 1 24 9 [(0, .ref q)] [.ref q7_1, .ref q]
  refine xv_putF (fi := 0) C NI 12 rfl 0 (fs := [.null, .int (iI 0)]) rfl rfl in_X9 tyX9 tyX9_ok nmX9 (by decide) (Nat.le_of_ble_eq_true rfl) ⟨rfl, rfl, rfl⟩ rfl rfl w_70 dX9_init_9 ?_
  show wv_ G X ([(q, .inr (9, [.ref q7_1, .int (iI 0)])), (q7_1, .inl (G.1.1 100, 24, .inl (fun _ => iI 0)))]) 1 24 12 [(0, .ref q)] []
  refine xx_aload_n C 13 rfl 0 dX9_init_12 rfl rfl ?_
  refine xx_iconst C 14 rfl dX9_init_13 ?_
  refine xv_put (fi := 1) C 17 rfl 0 (fs := [.ref q7_1, .int (iI 0)]) rfl rfl in_X9 tyX9 tyX9_ok nmX9 (by decide) (Nat.le_of_ble_eq_true rfl) ⟨rfl, rfl⟩ rfl rfl w_71 dX9_init_14 ?_
  show wv_ G X ([(q, .inr (9, [.ref q7_1, .int (iI 0)])), (q7_1, .inl (G.1.1 100, 24, .inl (fun _ => iI 0)))]) 1 24 17 [(0, .ref q)] []
  show wv_ G X ((fun (q : Nat) (u : Nat → Nat) => [(q, .inr (9, [.ref (u 1), .int (iI 0)])), ((u 1), .inl (G.1.1 100, 24, .inl (fun _ => iI 0)))]) q (fun j => ([q, q7_1] : List Nat).getD j 0)) 1 24 17 [(0, .ref q)] []
  exact xv_ret (w := (fun (q : Nat) (u : Nat → Nat) => [(q, .inr (9, [.ref (u 1), .int (iI 0)])), ((u 1), .inl (G.1.1 100, 24, .inl (fun _ => iI 0)))]) q) (k := 1) (n := 24) C E rfl (fun j => ([q, q7_1] : List Nat).getD j 0) ⟨(Nat.le_of_ble_eq_true rfl), (Nat.le_of_ble_eq_true rfl)⟩ dX9_init_17

theorem dX8_init_0 : decode cX8_init 0 = .ok (.aload_n 0, 1) := by decide +kernel
theorem dX8_init_1 : decode cX8_init 1 = .ok (.invokespecial 3, 3) := by decide +kernel
theorem dX8_init_4 : decode cX8_init 4 = .ok (.aload_n 0, 1) := by decide +kernel
theorem dX8_init_5 : decode cX8_init 5 = .ok (.bipush (-15), 2) := by decide +kernel
theorem dX8_init_7 : decode cX8_init 7 = .ok (.putfield 9, 3) := by decide +kernel
theorem dX8_init_10 : decode cX8_init 10 = .ok (.aload_n 0, 1) := by decide +kernel
theorem dX8_init_11 : decode cX8_init 11 = .ok (.bipush (-15), 2) := by decide +kernel
theorem dX8_init_13 : decode cX8_init 13 = .ok (.putfield 15, 3) := by decide +kernel
theorem dX8_init_16 : decode cX8_init 16 = .ok (.return_, 1) := by decide +kernel
set_option maxHeartbeats 4000000 in
set_option maxRecDepth 100000 in
theorem i_X8 {G : gp_} : mc_ yX8_init cX8_init 1 ({ frames := 1, cells := 0, slots := 0, locals := 12 } : Room) G [] (.inr (8, [.int (iI 0), .int (iI 0)])) (S := Unit) (fun (q : Nat) (_ : Unit) => [(q, .inr (8, [.int (iI (-15)), .int (iI (-15))]))]) := by
  refine mc_in (own := "UrnHeap$Refusals") (by decide) rfl (fun _ => (Nat.le_of_ble_eq_true rfl)) (fun X q C NI E => ?_)
  have NI := NI rfl
  show wv_ G X [(q, .inr (8, [.int (iI 0), .int (iI 0)]))] 0 0 0 [(0, .ref q)] []
  refine xx_aload_n C 1 rfl 0 dX8_init_0 rfl rfl ?_
  refine xx_obj C 4 rfl ⟨w_181, w_56, w_57⟩ ⟨(Nat.le_of_ble_eq_true rfl), (Nat.le_of_ble_eq_true rfl)⟩ dX8_init_1 ?_
  refine xx_aload_n C 5 rfl 0 dX8_init_4 rfl rfl ?_
  refine xx_bipush C 7 rfl dX8_init_5 (by decide) ?_
  refine xv_put (fi := 0) C 10 rfl 0 (fs := [.int (iI 0), .int (iI 0)]) rfl rfl in_X8 tyX8 tyX8_ok nmX8 (by decide) (Nat.le_of_ble_eq_true rfl) ⟨rfl, rfl⟩ rfl rfl w_182 dX8_init_7 ?_
  show wv_ G X ([(q, .inr (8, [.int (iI (-15)), .int (iI 0)]))]) 0 0 10 [(0, .ref q)] []
  refine xx_aload_n C 11 rfl 0 dX8_init_10 rfl rfl ?_
  refine xx_bipush C 13 rfl dX8_init_11 (by decide) ?_
  refine xv_put (fi := 1) C 16 rfl 0 (fs := [.int (iI (-15)), .int (iI 0)]) rfl rfl in_X8 tyX8 tyX8_ok nmX8 (by decide) (Nat.le_of_ble_eq_true rfl) ⟨rfl, rfl⟩ rfl rfl w_183 dX8_init_13 ?_
  show wv_ G X ([(q, .inr (8, [.int (iI (-15)), .int (iI (-15))]))]) 0 0 16 [(0, .ref q)] []
  show wv_ G X ((fun (q : Nat) (_ : Unit) => [(q, .inr (8, [.int (iI (-15)), .int (iI (-15))]))]) q (())) 0 0 16 [(0, .ref q)] []
  exact xv_ret (w := (fun (q : Nat) (_ : Unit) => [(q, .inr (8, [.int (iI (-15)), .int (iI (-15))]))]) q) (k := 0) (n := 0) C E rfl (()) ⟨(Nat.le_of_ble_eq_true rfl), (Nat.le_of_ble_eq_true rfl)⟩ dX8_init_16

theorem dX1_init_0 : decode cX1_init 0 = .ok (.aload_n 0, 1) := by decide +kernel
theorem dX1_init_1 : decode cX1_init 1 = .ok (.invokespecial 3, 3) := by decide +kernel
theorem dX1_init_4 : decode cX1_init 4 = .ok (.aload_n 0, 1) := by decide +kernel
theorem dX1_init_5 : decode cX1_init 5 = .ok (.aload_n 1, 1) := by decide +kernel
theorem dX1_init_6 : decode cX1_init 6 = .ok (.putfield 9, 3) := by decide +kernel
theorem dX1_init_9 : decode cX1_init 9 = .ok (.aload_n 0, 1) := by decide +kernel
theorem dX1_init_10 : decode cX1_init 10 = .ok (.aload_n 2, 1) := by decide +kernel
theorem dX1_init_11 : decode cX1_init 11 = .ok (.putfield 15, 3) := by decide +kernel
theorem dX1_init_14 : decode cX1_init 14 = .ok (.return_, 1) := by decide +kernel
set_option maxHeartbeats 4000000 in
set_option maxRecDepth 100000 in
theorem i_X1 {G : gp_} (r1 r2 : Nat) : mc_ yX1_init cX1_init 3 ({ frames := 1, cells := 0, slots := 0, locals := 12 } : Room) G [.ref r1, .ref r2] (.inr (2, [.null, .null])) (S := Unit) (fun (q : Nat) (_ : Unit) => [(q, .inr (2, [.ref r1, .ref r2]))]) := by
  refine mc_in (own := "UrnHeap$Hands") (by decide) rfl (fun _ => (Nat.le_of_ble_eq_true rfl)) (fun X q C NI E => ?_)
  have NI := NI rfl
  show wv_ G X [(q, .inr (2, [.null, .null]))] 0 0 0 [(0, .ref q), (1, .ref r1), (2, .ref r2)] []
  refine xx_aload_n C 1 rfl 0 dX1_init_0 rfl rfl ?_
  refine xx_obj C 4 rfl ⟨w_194, w_56, w_57⟩ ⟨(Nat.le_of_ble_eq_true rfl), (Nat.le_of_ble_eq_true rfl)⟩ dX1_init_1 ?_
  refine xx_aload_n C 5 rfl 0 dX1_init_4 rfl rfl ?_
  refine xx_aload_n C 6 rfl 1 dX1_init_5 rfl rfl ?_
  refine xv_putF (fi := 0) C NI 9 rfl 0 (fs := [.null, .null]) rfl rfl in_X1 tyX1 tyX1_ok nmX1 (by decide) (Nat.le_of_ble_eq_true rfl) ⟨rfl, rfl, rfl⟩ rfl rfl w_195 dX1_init_6 ?_
  show wv_ G X ([(q, .inr (2, [.ref r1, .null]))]) 0 0 9 [(0, .ref q), (1, .ref r1), (2, .ref r2)] []
  refine xx_aload_n C 10 rfl 0 dX1_init_9 rfl rfl ?_
  refine xx_aload_n C 11 rfl 2 dX1_init_10 rfl rfl ?_
  refine xv_putF (fi := 1) C NI 14 rfl 0 (fs := [.ref r1, .null]) rfl rfl in_X1 tyX1 tyX1_ok nmX1 (by decide) (Nat.le_of_ble_eq_true rfl) ⟨rfl, rfl, rfl⟩ rfl rfl w_196 dX1_init_11 ?_
  show wv_ G X ([(q, .inr (2, [.ref r1, .ref r2]))]) 0 0 14 [(0, .ref q), (1, .ref r1), (2, .ref r2)] []
  show wv_ G X ((fun (q : Nat) (_ : Unit) => [(q, .inr (2, [.ref r1, .ref r2]))]) q (())) 0 0 14 [(0, .ref q), (1, .ref r1), (2, .ref r2)] []
  exact xv_ret (w := (fun (q : Nat) (_ : Unit) => [(q, .inr (2, [.ref r1, .ref r2]))]) q) (k := 0) (n := 0) C E rfl (()) ⟨(Nat.le_of_ble_eq_true rfl), (Nat.le_of_ble_eq_true rfl)⟩ dX1_init_14

theorem dX10_init_0 : decode cX10_init 0 = .ok (.aload_n 0, 1) := by decide +kernel
theorem dX10_init_1 : decode cX10_init 1 = .ok (.invokespecial 3, 3) := by decide +kernel
theorem dX10_init_4 : decode cX10_init 4 = .ok (.aload_n 0, 1) := by decide +kernel
theorem dX10_init_5 : decode cX10_init 5 = .ok (.aload_n 1, 1) := by decide +kernel
theorem dX10_init_6 : decode cX10_init 6 = .ok (.putfield 9, 3) := by decide +kernel
theorem dX10_init_9 : decode cX10_init 9 = .ok (.aload_n 0, 1) := by decide +kernel
theorem dX10_init_10 : decode cX10_init 10 = .ok (.aload_n 2, 1) := by decide +kernel
theorem dX10_init_11 : decode cX10_init 11 = .ok (.putfield 15, 3) := by decide +kernel
theorem dX10_init_14 : decode cX10_init 14 = .ok (.return_, 1) := by decide +kernel
set_option maxHeartbeats 4000000 in
set_option maxRecDepth 100000 in
theorem i_X10 {G : gp_} (r1 r2 : Nat) : mc_ yX10_init cX10_init 3 ({ frames := 1, cells := 0, slots := 0, locals := 12 } : Room) G [.ref r1, .ref r2] (.inr (10, [.null, .null])) (S := Unit) (fun (q : Nat) (_ : Unit) => [(q, .inr (10, [.ref r1, .ref r2]))]) := by
  refine mc_in (own := "UrnHeap$Sexton") (by decide) rfl (fun _ => (Nat.le_of_ble_eq_true rfl)) (fun X q C NI E => ?_)
  have NI := NI rfl
  show wv_ G X [(q, .inr (10, [.null, .null]))] 0 0 0 [(0, .ref q), (1, .ref r1), (2, .ref r2)] []
  refine xx_aload_n C 1 rfl 0 dX10_init_0 rfl rfl ?_
  refine xx_obj C 4 rfl ⟨w_207, w_56, w_57⟩ ⟨(Nat.le_of_ble_eq_true rfl), (Nat.le_of_ble_eq_true rfl)⟩ dX10_init_1 ?_
  refine xx_aload_n C 5 rfl 0 dX10_init_4 rfl rfl ?_
  refine xx_aload_n C 6 rfl 1 dX10_init_5 rfl rfl ?_
  refine xv_putF (fi := 0) C NI 9 rfl 0 (fs := [.null, .null]) rfl rfl in_X10 tyX10 tyX10_ok nmX10 (by decide) (Nat.le_of_ble_eq_true rfl) ⟨rfl, rfl, rfl⟩ rfl rfl w_208 dX10_init_6 ?_
  show wv_ G X ([(q, .inr (10, [.ref r1, .null]))]) 0 0 9 [(0, .ref q), (1, .ref r1), (2, .ref r2)] []
  refine xx_aload_n C 10 rfl 0 dX10_init_9 rfl rfl ?_
  refine xx_aload_n C 11 rfl 2 dX10_init_10 rfl rfl ?_
  refine xv_putF (fi := 1) C NI 14 rfl 0 (fs := [.ref r1, .null]) rfl rfl in_X10 tyX10 tyX10_ok nmX10 (by decide) (Nat.le_of_ble_eq_true rfl) ⟨rfl, rfl, rfl⟩ rfl rfl w_209 dX10_init_11 ?_
  show wv_ G X ([(q, .inr (10, [.ref r1, .ref r2]))]) 0 0 14 [(0, .ref q), (1, .ref r1), (2, .ref r2)] []
  show wv_ G X ((fun (q : Nat) (_ : Unit) => [(q, .inr (10, [.ref r1, .ref r2]))]) q (())) 0 0 14 [(0, .ref q), (1, .ref r1), (2, .ref r2)] []
  exact xv_ret (w := (fun (q : Nat) (_ : Unit) => [(q, .inr (10, [.ref r1, .ref r2]))]) q) (k := 0) (n := 0) C E rfl (()) ⟨(Nat.le_of_ble_eq_true rfl), (Nat.le_of_ble_eq_true rfl)⟩ dX10_init_14

theorem dX7_init_0 : decode cX7_init 0 = .ok (.aload_n 0, 1) := by decide +kernel
theorem dX7_init_1 : decode cX7_init 1 = .ok (.invokespecial 3, 3) := by decide +kernel
theorem dX7_init_4 : decode cX7_init 4 = .ok (.aload_n 0, 1) := by decide +kernel
theorem dX7_init_5 : decode cX7_init 5 = .ok (.bipush 24, 2) := by decide +kernel
theorem dX7_init_7 : decode cX7_init 7 = .ok (.newarray .int, 2) := by decide +kernel
theorem dX7_init_9 : decode cX7_init 9 = .ok (.putfield 9, 3) := by decide +kernel
theorem dX7_init_12 : decode cX7_init 12 = .ok (.aload_n 0, 1) := by decide +kernel
theorem dX7_init_13 : decode cX7_init 13 = .ok (.aload_n 1, 1) := by decide +kernel
theorem dX7_init_14 : decode cX7_init 14 = .ok (.putfield 15, 3) := by decide +kernel
theorem dX7_init_17 : decode cX7_init 17 = .ok (.return_, 1) := by decide +kernel
set_option maxHeartbeats 4000000 in
set_option maxRecDepth 100000 in
theorem i_X7 {G : gp_} (r1 : Nat) : mc_ yX7_init cX7_init 2 ({ frames := 1, cells := 1, slots := 24, locals := 12 } : Room) G [.ref r1] (.inr (7, [.null, .null])) (S := Nat → Nat) (fun (q : Nat) (u : Nat → Nat) => [(q, .inr (7, [.ref r1, .ref (u 1)])), ((u 1), .inl (G.1.1 100, 24, .inl (fun _ => iI 0)))]) := by
  refine mc_in (own := "UrnHeap$Paths") (by decide) rfl (fun _ => (Nat.le_of_ble_eq_true rfl)) (fun X q C NI E => ?_)
  have NI := NI rfl
  show wv_ G X [(q, .inr (7, [.null, .null]))] 0 0 0 [(0, .ref q), (1, .ref r1)] []
  refine xx_aload_n C 1 rfl 0 dX7_init_0 rfl rfl ?_
  refine xx_obj C 4 rfl ⟨w_220, w_56, w_57⟩ ⟨(Nat.le_of_ble_eq_true rfl), (Nat.le_of_ble_eq_true rfl)⟩ dX7_init_1 ?_
  refine xx_aload_n C 5 rfl 0 dX7_init_4 rfl rfl ?_
  refine xx_bipush C 7 rfl dX7_init_5 (by decide) ?_
  refine xv_newi (z := 24) C 9 rfl (by decide) (by decide) w_79 ⟨(Nat.le_of_ble_eq_true rfl), (Nat.le_of_ble_eq_true rfl)⟩ dX7_init_7 (fun q7_1 => ?_)
  refine wv_eq (k2 := 1) (n2 := 24) rfl (Nat.eq_of_beq_eq_true rfl) (Nat.eq_of_beq_eq_true rfl) ?_
  show wv_ G X ([(q, .inr (7, [.null, .null])), (q7_1, .inl (G.1.1 100, 24, .inl (fun _ => iI 0)))]) 1 24 9 [(0, .ref q), (1, .ref r1)] [.ref q7_1, .ref q]
  refine xv_putF (fi := 1) C NI 12 rfl 0 (fs := [.null, .null]) rfl rfl in_X7 tyX7 tyX7_ok nmX7 (by decide) (Nat.le_of_ble_eq_true rfl) ⟨rfl, rfl, rfl⟩ rfl rfl w_222 dX7_init_9 ?_
  show wv_ G X ([(q, .inr (7, [.null, .ref q7_1])), (q7_1, .inl (G.1.1 100, 24, .inl (fun _ => iI 0)))]) 1 24 12 [(0, .ref q), (1, .ref r1)] []
  refine xx_aload_n C 13 rfl 0 dX7_init_12 rfl rfl ?_
  refine xx_aload_n C 14 rfl 1 dX7_init_13 rfl rfl ?_
  refine xv_putF (fi := 0) C NI 17 rfl 0 (fs := [.null, .ref q7_1]) rfl rfl in_X7 tyX7 tyX7_ok nmX7 (by decide) (Nat.le_of_ble_eq_true rfl) ⟨rfl, rfl, rfl⟩ rfl rfl w_221 dX7_init_14 ?_
  show wv_ G X ([(q, .inr (7, [.ref r1, .ref q7_1])), (q7_1, .inl (G.1.1 100, 24, .inl (fun _ => iI 0)))]) 1 24 17 [(0, .ref q), (1, .ref r1)] []
  show wv_ G X ((fun (q : Nat) (u : Nat → Nat) => [(q, .inr (7, [.ref r1, .ref (u 1)])), ((u 1), .inl (G.1.1 100, 24, .inl (fun _ => iI 0)))]) q (fun j => ([q, q7_1] : List Nat).getD j 0)) 1 24 17 [(0, .ref q), (1, .ref r1)] []
  exact xv_ret (w := (fun (q : Nat) (u : Nat → Nat) => [(q, .inr (7, [.ref r1, .ref (u 1)])), ((u 1), .inl (G.1.1 100, 24, .inl (fun _ => iI 0)))]) q) (k := 1) (n := 24) C E rfl (fun j => ([q, q7_1] : List Nat).getD j 0) ⟨(Nat.le_of_ble_eq_true rfl), (Nat.le_of_ble_eq_true rfl)⟩ dX7_init_17

theorem dX2_init_0 : decode cX2_init 0 = .ok (.aload_n 0, 1) := by decide +kernel
theorem dX2_init_1 : decode cX2_init 1 = .ok (.invokespecial 3, 3) := by decide +kernel
theorem dX2_init_4 : decode cX2_init 4 = .ok (.aload_n 0, 1) := by decide +kernel
theorem dX2_init_5 : decode cX2_init 5 = .ok (.bipush 96, 2) := by decide +kernel
theorem dX2_init_7 : decode cX2_init 7 = .ok (.newarray .int, 2) := by decide +kernel
theorem dX2_init_9 : decode cX2_init 9 = .ok (.putfield 9, 3) := by decide +kernel
theorem dX2_init_12 : decode cX2_init 12 = .ok (.aload_n 0, 1) := by decide +kernel
theorem dX2_init_13 : decode cX2_init 13 = .ok (.bipush 24, 2) := by decide +kernel
theorem dX2_init_15 : decode cX2_init 15 = .ok (.newarray .int, 2) := by decide +kernel
theorem dX2_init_17 : decode cX2_init 17 = .ok (.putfield 15, 3) := by decide +kernel
theorem dX2_init_20 : decode cX2_init 20 = .ok (.aload_n 0, 1) := by decide +kernel
theorem dX2_init_21 : decode cX2_init 21 = .ok (.bipush 24, 2) := by decide +kernel
theorem dX2_init_23 : decode cX2_init 23 = .ok (.newarray .int, 2) := by decide +kernel
theorem dX2_init_25 : decode cX2_init 25 = .ok (.putfield 18, 3) := by decide +kernel
theorem dX2_init_28 : decode cX2_init 28 = .ok (.aload_n 0, 1) := by decide +kernel
theorem dX2_init_29 : decode cX2_init 29 = .ok (.bipush 24, 2) := by decide +kernel
theorem dX2_init_31 : decode cX2_init 31 = .ok (.newarray .int, 2) := by decide +kernel
theorem dX2_init_33 : decode cX2_init 33 = .ok (.putfield 21, 3) := by decide +kernel
theorem dX2_init_36 : decode cX2_init 36 = .ok (.aload_n 0, 1) := by decide +kernel
theorem dX2_init_37 : decode cX2_init 37 = .ok (.bipush 24, 2) := by decide +kernel
theorem dX2_init_39 : decode cX2_init 39 = .ok (.newarray .int, 2) := by decide +kernel
theorem dX2_init_41 : decode cX2_init 41 = .ok (.putfield 24, 3) := by decide +kernel
theorem dX2_init_44 : decode cX2_init 44 = .ok (.aload_n 0, 1) := by decide +kernel
theorem dX2_init_45 : decode cX2_init 45 = .ok (.bipush 6, 2) := by decide +kernel
theorem dX2_init_47 : decode cX2_init 47 = .ok (.newarray .int, 2) := by decide +kernel
theorem dX2_init_49 : decode cX2_init 49 = .ok (.putfield 27, 3) := by decide +kernel
theorem dX2_init_52 : decode cX2_init 52 = .ok (.aload_n 0, 1) := by decide +kernel
theorem dX2_init_53 : decode cX2_init 53 = .ok (.bipush 12, 2) := by decide +kernel
theorem dX2_init_55 : decode cX2_init 55 = .ok (.newarray .int, 2) := by decide +kernel
theorem dX2_init_57 : decode cX2_init 57 = .ok (.putfield 30, 3) := by decide +kernel
theorem dX2_init_60 : decode cX2_init 60 = .ok (.aload_n 0, 1) := by decide +kernel
theorem dX2_init_61 : decode cX2_init 61 = .ok (.new 33, 3) := by decide +kernel
theorem dX2_init_64 : decode cX2_init 64 = .ok (.dup, 1) := by decide +kernel
theorem dX2_init_65 : decode cX2_init 65 = .ok (.invokespecial 35, 3) := by decide +kernel
theorem dX2_init_68 : decode cX2_init 68 = .ok (.putfield 36, 3) := by decide +kernel
theorem dX2_init_71 : decode cX2_init 71 = .ok (.aload_n 0, 1) := by decide +kernel
theorem dX2_init_72 : decode cX2_init 72 = .ok (.new 33, 3) := by decide +kernel
theorem dX2_init_75 : decode cX2_init 75 = .ok (.dup, 1) := by decide +kernel
theorem dX2_init_76 : decode cX2_init 76 = .ok (.invokespecial 35, 3) := by decide +kernel
theorem dX2_init_79 : decode cX2_init 79 = .ok (.putfield 40, 3) := by decide +kernel
theorem dX2_init_82 : decode cX2_init 82 = .ok (.aload_n 0, 1) := by decide +kernel
theorem dX2_init_83 : decode cX2_init 83 = .ok (.iconst 0, 1) := by decide +kernel
theorem dX2_init_84 : decode cX2_init 84 = .ok (.putfield 43, 3) := by decide +kernel
theorem dX2_init_87 : decode cX2_init 87 = .ok (.aload_n 0, 1) := by decide +kernel
theorem dX2_init_88 : decode cX2_init 88 = .ok (.iconst 0, 1) := by decide +kernel
theorem dX2_init_89 : decode cX2_init 89 = .ok (.putfield 47, 3) := by decide +kernel
theorem dX2_init_92 : decode cX2_init 92 = .ok (.aload_n 0, 1) := by decide +kernel
theorem dX2_init_93 : decode cX2_init 93 = .ok (.iconst 0, 1) := by decide +kernel
theorem dX2_init_94 : decode cX2_init 94 = .ok (.putfield 50, 3) := by decide +kernel
theorem dX2_init_97 : decode cX2_init 97 = .ok (.aload_n 0, 1) := by decide +kernel
theorem dX2_init_98 : decode cX2_init 98 = .ok (.iconst 0, 1) := by decide +kernel
theorem dX2_init_99 : decode cX2_init 99 = .ok (.putfield 53, 3) := by decide +kernel
theorem dX2_init_102 : decode cX2_init 102 = .ok (.aload_n 0, 1) := by decide +kernel
theorem dX2_init_103 : decode cX2_init 103 = .ok (.iconst 0, 1) := by decide +kernel
theorem dX2_init_104 : decode cX2_init 104 = .ok (.putfield 56, 3) := by decide +kernel
theorem dX2_init_107 : decode cX2_init 107 = .ok (.aload_n 0, 1) := by decide +kernel
theorem dX2_init_108 : decode cX2_init 108 = .ok (.iconst 0, 1) := by decide +kernel
theorem dX2_init_109 : decode cX2_init 109 = .ok (.putfield 59, 3) := by decide +kernel
theorem dX2_init_112 : decode cX2_init 112 = .ok (.aload_n 0, 1) := by decide +kernel
theorem dX2_init_113 : decode cX2_init 113 = .ok (.iconst 0, 1) := by decide +kernel
theorem dX2_init_114 : decode cX2_init 114 = .ok (.putfield 62, 3) := by decide +kernel
theorem dX2_init_117 : decode cX2_init 117 = .ok (.aload_n 0, 1) := by decide +kernel
theorem dX2_init_118 : decode cX2_init 118 = .ok (.iconst 0, 1) := by decide +kernel
theorem dX2_init_119 : decode cX2_init 119 = .ok (.putfield 65, 3) := by decide +kernel
theorem dX2_init_122 : decode cX2_init 122 = .ok (.aload_n 0, 1) := by decide +kernel
theorem dX2_init_123 : decode cX2_init 123 = .ok (.getfield 9, 3) := by decide +kernel
theorem dX2_init_126 : decode cX2_init 126 = .ok (.bipush (-15), 2) := by decide +kernel
theorem dX2_init_128 : decode cX2_init 128 = .ok (.invokestatic 68, 3) := by decide +kernel
theorem dX2_init_131 : decode cX2_init 131 = .ok (.aload_n 0, 1) := by decide +kernel
theorem dX2_init_132 : decode cX2_init 132 = .ok (.getfield 15, 3) := by decide +kernel
theorem dX2_init_135 : decode cX2_init 135 = .ok (.bipush (-15), 2) := by decide +kernel
theorem dX2_init_137 : decode cX2_init 137 = .ok (.invokestatic 68, 3) := by decide +kernel
theorem dX2_init_140 : decode cX2_init 140 = .ok (.aload_n 0, 1) := by decide +kernel
theorem dX2_init_141 : decode cX2_init 141 = .ok (.getfield 27, 3) := by decide +kernel
theorem dX2_init_144 : decode cX2_init 144 = .ok (.bipush (-15), 2) := by decide +kernel
theorem dX2_init_146 : decode cX2_init 146 = .ok (.invokestatic 68, 3) := by decide +kernel
theorem dX2_init_149 : decode cX2_init 149 = .ok (.aload_n 0, 1) := by decide +kernel
theorem dX2_init_150 : decode cX2_init 150 = .ok (.getfield 21, 3) := by decide +kernel
theorem dX2_init_153 : decode cX2_init 153 = .ok (.iconst (-1), 1) := by decide +kernel
theorem dX2_init_154 : decode cX2_init 154 = .ok (.invokestatic 68, 3) := by decide +kernel
theorem dX2_init_157 : decode cX2_init 157 = .ok (.return_, 1) := by decide +kernel
set_option maxHeartbeats 4000000 in
set_option maxRecDepth 100000 in
theorem i_X2 {G : gp_} : mc_ yX2_init cX2_init 1 ({ frames := 2, cells := 11, slots := 262, locals := 32 } : Room) G [] (.inr (3, [.null, .null, .null, .null, .null, .null, .null, .null, .null, .int (iI 0), .int (iI 0), .int (iI 0), .int (iI 0), .int (iI 0), .int (iI 0), .int (iI 0), .int (iI 0)])) (S := Nat → Nat) (fun (q : Nat) (u : Nat → Nat) => hX2_ G q u) := by
  refine mc_in (own := "UrnHeap$Heap") (by decide) rfl (fun _ => (Nat.le_of_ble_eq_true rfl)) (fun X q C NI E => ?_)
  have NI := NI rfl
  show wv_ G X [(q, .inr (3, [.null, .null, .null, .null, .null, .null, .null, .null, .null, .int (iI 0), .int (iI 0), .int (iI 0), .int (iI 0), .int (iI 0), .int (iI 0), .int (iI 0), .int (iI 0)]))] 0 0 0 [(0, .ref q)] []
  refine xx_aload_n C 1 rfl 0 dX2_init_0 rfl rfl ?_
  refine xx_obj C 4 rfl ⟨w_63, w_56, w_57⟩ ⟨(Nat.le_of_ble_eq_true rfl), (Nat.le_of_ble_eq_true rfl)⟩ dX2_init_1 ?_
  refine xx_aload_n C 5 rfl 0 dX2_init_4 rfl rfl ?_
  refine xx_bipush C 7 rfl dX2_init_5 (by decide) ?_
  refine xv_newi (z := 96) C 9 rfl (by decide) (by decide) w_79 ⟨(Nat.le_of_ble_eq_true rfl), (Nat.le_of_ble_eq_true rfl)⟩ dX2_init_7 (fun q7_1 => ?_)
  refine wv_eq (k2 := 1) (n2 := 96) rfl (Nat.eq_of_beq_eq_true rfl) (Nat.eq_of_beq_eq_true rfl) ?_
  show wv_ G X ([(q, .inr (3, [.null, .null, .null, .null, .null, .null, .null, .null, .null, .int (iI 0), .int (iI 0), .int (iI 0), .int (iI 0), .int (iI 0), .int (iI 0), .int (iI 0), .int (iI 0)])), (q7_1, .inl (G.1.1 100, 96, .inl (fun _ => iI 0)))]) 1 96 9 [(0, .ref q)] [.ref q7_1, .ref q]
  refine xv_putF (fi := 0) C NI 12 rfl 0 (fs := [.null, .null, .null, .null, .null, .null, .null, .null, .null, .int (iI 0), .int (iI 0), .int (iI 0), .int (iI 0), .int (iI 0), .int (iI 0), .int (iI 0), .int (iI 0)]) rfl rfl in_X2 tyX2 tyX2_ok nmX2 (by decide) (Nat.le_of_ble_eq_true rfl) ⟨rfl, rfl, rfl⟩ rfl rfl w_83 dX2_init_9 ?_
  show wv_ G X ([(q, .inr (3, [.ref q7_1, .null, .null, .null, .null, .null, .null, .null, .null, .int (iI 0), .int (iI 0), .int (iI 0), .int (iI 0), .int (iI 0), .int (iI 0), .int (iI 0), .int (iI 0)])), (q7_1, .inl (G.1.1 100, 96, .inl (fun _ => iI 0)))]) 1 96 12 [(0, .ref q)] []
  refine xx_aload_n C 13 rfl 0 dX2_init_12 rfl rfl ?_
  refine xx_bipush C 15 rfl dX2_init_13 (by decide) ?_
  refine xv_newi (z := 24) C 17 rfl (by decide) (by decide) w_79 ⟨(Nat.le_of_ble_eq_true rfl), (Nat.le_of_ble_eq_true rfl)⟩ dX2_init_15 (fun q15_2 => ?_)
  refine wv_eq (k2 := 2) (n2 := 120) rfl (Nat.eq_of_beq_eq_true rfl) (Nat.eq_of_beq_eq_true rfl) ?_
  show wv_ G X ([(q, .inr (3, [.ref q7_1, .null, .null, .null, .null, .null, .null, .null, .null, .int (iI 0), .int (iI 0), .int (iI 0), .int (iI 0), .int (iI 0), .int (iI 0), .int (iI 0), .int (iI 0)])), (q7_1, .inl (G.1.1 100, 96, .inl (fun _ => iI 0))), (q15_2, .inl (G.1.1 100, 24, .inl (fun _ => iI 0)))]) 2 120 17 [(0, .ref q)] [.ref q15_2, .ref q]
  refine xv_putF (fi := 1) C NI 20 rfl 0 (fs := [.ref q7_1, .null, .null, .null, .null, .null, .null, .null, .null, .int (iI 0), .int (iI 0), .int (iI 0), .int (iI 0), .int (iI 0), .int (iI 0), .int (iI 0), .int (iI 0)]) rfl rfl in_X2 tyX2 tyX2_ok nmX2 (by decide) (Nat.le_of_ble_eq_true rfl) ⟨rfl, rfl, rfl⟩ rfl rfl w_86 dX2_init_17 ?_
  show wv_ G X ([(q, .inr (3, [.ref q7_1, .ref q15_2, .null, .null, .null, .null, .null, .null, .null, .int (iI 0), .int (iI 0), .int (iI 0), .int (iI 0), .int (iI 0), .int (iI 0), .int (iI 0), .int (iI 0)])), (q7_1, .inl (G.1.1 100, 96, .inl (fun _ => iI 0))), (q15_2, .inl (G.1.1 100, 24, .inl (fun _ => iI 0)))]) 2 120 20 [(0, .ref q)] []
  refine xx_aload_n C 21 rfl 0 dX2_init_20 rfl rfl ?_
  refine xx_bipush C 23 rfl dX2_init_21 (by decide) ?_
  refine xv_newi (z := 24) C 25 rfl (by decide) (by decide) w_79 ⟨(Nat.le_of_ble_eq_true rfl), (Nat.le_of_ble_eq_true rfl)⟩ dX2_init_23 (fun q23_3 => ?_)
  refine wv_eq (k2 := 3) (n2 := 144) rfl (Nat.eq_of_beq_eq_true rfl) (Nat.eq_of_beq_eq_true rfl) ?_
  show wv_ G X ([(q, .inr (3, [.ref q7_1, .ref q15_2, .null, .null, .null, .null, .null, .null, .null, .int (iI 0), .int (iI 0), .int (iI 0), .int (iI 0), .int (iI 0), .int (iI 0), .int (iI 0), .int (iI 0)])), (q7_1, .inl (G.1.1 100, 96, .inl (fun _ => iI 0))), (q15_2, .inl (G.1.1 100, 24, .inl (fun _ => iI 0))), (q23_3, .inl (G.1.1 100, 24, .inl (fun _ => iI 0)))]) 3 144 25 [(0, .ref q)] [.ref q23_3, .ref q]
  refine xv_putF (fi := 2) C NI 28 rfl 0 (fs := [.ref q7_1, .ref q15_2, .null, .null, .null, .null, .null, .null, .null, .int (iI 0), .int (iI 0), .int (iI 0), .int (iI 0), .int (iI 0), .int (iI 0), .int (iI 0), .int (iI 0)]) rfl rfl in_X2 tyX2 tyX2_ok nmX2 (by decide) (Nat.le_of_ble_eq_true rfl) ⟨rfl, rfl, rfl⟩ rfl rfl w_90 dX2_init_25 ?_
  show wv_ G X ([(q, .inr (3, [.ref q7_1, .ref q15_2, .ref q23_3, .null, .null, .null, .null, .null, .null, .int (iI 0), .int (iI 0), .int (iI 0), .int (iI 0), .int (iI 0), .int (iI 0), .int (iI 0), .int (iI 0)])), (q7_1, .inl (G.1.1 100, 96, .inl (fun _ => iI 0))), (q15_2, .inl (G.1.1 100, 24, .inl (fun _ => iI 0))), (q23_3, .inl (G.1.1 100, 24, .inl (fun _ => iI 0)))]) 3 144 28 [(0, .ref q)] []
  refine xx_aload_n C 29 rfl 0 dX2_init_28 rfl rfl ?_
  refine xx_bipush C 31 rfl dX2_init_29 (by decide) ?_
  refine xv_newi (z := 24) C 33 rfl (by decide) (by decide) w_79 ⟨(Nat.le_of_ble_eq_true rfl), (Nat.le_of_ble_eq_true rfl)⟩ dX2_init_31 (fun q31_4 => ?_)
  refine wv_eq (k2 := 4) (n2 := 168) rfl (Nat.eq_of_beq_eq_true rfl) (Nat.eq_of_beq_eq_true rfl) ?_
  show wv_ G X ([(q, .inr (3, [.ref q7_1, .ref q15_2, .ref q23_3, .null, .null, .null, .null, .null, .null, .int (iI 0), .int (iI 0), .int (iI 0), .int (iI 0), .int (iI 0), .int (iI 0), .int (iI 0), .int (iI 0)])), (q7_1, .inl (G.1.1 100, 96, .inl (fun _ => iI 0))), (q15_2, .inl (G.1.1 100, 24, .inl (fun _ => iI 0))), (q23_3, .inl (G.1.1 100, 24, .inl (fun _ => iI 0))), (q31_4, .inl (G.1.1 100, 24, .inl (fun _ => iI 0)))]) 4 168 33 [(0, .ref q)] [.ref q31_4, .ref q]
  refine xv_putF (fi := 3) C NI 36 rfl 0 (fs := [.ref q7_1, .ref q15_2, .ref q23_3, .null, .null, .null, .null, .null, .null, .int (iI 0), .int (iI 0), .int (iI 0), .int (iI 0), .int (iI 0), .int (iI 0), .int (iI 0), .int (iI 0)]) rfl rfl in_X2 tyX2 tyX2_ok nmX2 (by decide) (Nat.le_of_ble_eq_true rfl) ⟨rfl, rfl, rfl⟩ rfl rfl w_95 dX2_init_33 ?_
  show wv_ G X ([(q, .inr (3, [.ref q7_1, .ref q15_2, .ref q23_3, .ref q31_4, .null, .null, .null, .null, .null, .int (iI 0), .int (iI 0), .int (iI 0), .int (iI 0), .int (iI 0), .int (iI 0), .int (iI 0), .int (iI 0)])), (q7_1, .inl (G.1.1 100, 96, .inl (fun _ => iI 0))), (q15_2, .inl (G.1.1 100, 24, .inl (fun _ => iI 0))), (q23_3, .inl (G.1.1 100, 24, .inl (fun _ => iI 0))), (q31_4, .inl (G.1.1 100, 24, .inl (fun _ => iI 0)))]) 4 168 36 [(0, .ref q)] []
  refine xx_aload_n C 37 rfl 0 dX2_init_36 rfl rfl ?_
  refine xx_bipush C 39 rfl dX2_init_37 (by decide) ?_
  refine xv_newi (z := 24) C 41 rfl (by decide) (by decide) w_79 ⟨(Nat.le_of_ble_eq_true rfl), (Nat.le_of_ble_eq_true rfl)⟩ dX2_init_39 (fun q39_5 => ?_)
  refine wv_eq (k2 := 5) (n2 := 192) rfl (Nat.eq_of_beq_eq_true rfl) (Nat.eq_of_beq_eq_true rfl) ?_
  show wv_ G X ([(q, .inr (3, [.ref q7_1, .ref q15_2, .ref q23_3, .ref q31_4, .null, .null, .null, .null, .null, .int (iI 0), .int (iI 0), .int (iI 0), .int (iI 0), .int (iI 0), .int (iI 0), .int (iI 0), .int (iI 0)])), (q7_1, .inl (G.1.1 100, 96, .inl (fun _ => iI 0))), (q15_2, .inl (G.1.1 100, 24, .inl (fun _ => iI 0))), (q23_3, .inl (G.1.1 100, 24, .inl (fun _ => iI 0))), (q31_4, .inl (G.1.1 100, 24, .inl (fun _ => iI 0))), (q39_5, .inl (G.1.1 100, 24, .inl (fun _ => iI 0)))]) 5 192 41 [(0, .ref q)] [.ref q39_5, .ref q]
  refine xv_putF (fi := 4) C NI 44 rfl 0 (fs := [.ref q7_1, .ref q15_2, .ref q23_3, .ref q31_4, .null, .null, .null, .null, .null, .int (iI 0), .int (iI 0), .int (iI 0), .int (iI 0), .int (iI 0), .int (iI 0), .int (iI 0), .int (iI 0)]) rfl rfl in_X2 tyX2 tyX2_ok nmX2 (by decide) (Nat.le_of_ble_eq_true rfl) ⟨rfl, rfl, rfl⟩ rfl rfl w_99 dX2_init_41 ?_
  show wv_ G X ([(q, .inr (3, [.ref q7_1, .ref q15_2, .ref q23_3, .ref q31_4, .ref q39_5, .null, .null, .null, .null, .int (iI 0), .int (iI 0), .int (iI 0), .int (iI 0), .int (iI 0), .int (iI 0), .int (iI 0), .int (iI 0)])), (q7_1, .inl (G.1.1 100, 96, .inl (fun _ => iI 0))), (q15_2, .inl (G.1.1 100, 24, .inl (fun _ => iI 0))), (q23_3, .inl (G.1.1 100, 24, .inl (fun _ => iI 0))), (q31_4, .inl (G.1.1 100, 24, .inl (fun _ => iI 0))), (q39_5, .inl (G.1.1 100, 24, .inl (fun _ => iI 0)))]) 5 192 44 [(0, .ref q)] []
  refine xx_aload_n C 45 rfl 0 dX2_init_44 rfl rfl ?_
  refine xx_bipush C 47 rfl dX2_init_45 (by decide) ?_
  refine xv_newi (z := 6) C 49 rfl (by decide) (by decide) w_79 ⟨(Nat.le_of_ble_eq_true rfl), (Nat.le_of_ble_eq_true rfl)⟩ dX2_init_47 (fun q47_6 => ?_)
  refine wv_eq (k2 := 6) (n2 := 198) rfl (Nat.eq_of_beq_eq_true rfl) (Nat.eq_of_beq_eq_true rfl) ?_
  show wv_ G X ([(q, .inr (3, [.ref q7_1, .ref q15_2, .ref q23_3, .ref q31_4, .ref q39_5, .null, .null, .null, .null, .int (iI 0), .int (iI 0), .int (iI 0), .int (iI 0), .int (iI 0), .int (iI 0), .int (iI 0), .int (iI 0)])), (q7_1, .inl (G.1.1 100, 96, .inl (fun _ => iI 0))), (q15_2, .inl (G.1.1 100, 24, .inl (fun _ => iI 0))), (q23_3, .inl (G.1.1 100, 24, .inl (fun _ => iI 0))), (q31_4, .inl (G.1.1 100, 24, .inl (fun _ => iI 0))), (q39_5, .inl (G.1.1 100, 24, .inl (fun _ => iI 0))), (q47_6, .inl (G.1.1 100, 6, .inl (fun _ => iI 0)))]) 6 198 49 [(0, .ref q)] [.ref q47_6, .ref q]
  refine xv_putF (fi := 5) C NI 52 rfl 0 (fs := [.ref q7_1, .ref q15_2, .ref q23_3, .ref q31_4, .ref q39_5, .null, .null, .null, .null, .int (iI 0), .int (iI 0), .int (iI 0), .int (iI 0), .int (iI 0), .int (iI 0), .int (iI 0), .int (iI 0)]) rfl rfl in_X2 tyX2 tyX2_ok nmX2 (by decide) (Nat.le_of_ble_eq_true rfl) ⟨rfl, rfl, rfl⟩ rfl rfl w_102 dX2_init_49 ?_
  show wv_ G X ([(q, .inr (3, [.ref q7_1, .ref q15_2, .ref q23_3, .ref q31_4, .ref q39_5, .ref q47_6, .null, .null, .null, .int (iI 0), .int (iI 0), .int (iI 0), .int (iI 0), .int (iI 0), .int (iI 0), .int (iI 0), .int (iI 0)])), (q7_1, .inl (G.1.1 100, 96, .inl (fun _ => iI 0))), (q15_2, .inl (G.1.1 100, 24, .inl (fun _ => iI 0))), (q23_3, .inl (G.1.1 100, 24, .inl (fun _ => iI 0))), (q31_4, .inl (G.1.1 100, 24, .inl (fun _ => iI 0))), (q39_5, .inl (G.1.1 100, 24, .inl (fun _ => iI 0))), (q47_6, .inl (G.1.1 100, 6, .inl (fun _ => iI 0)))]) 6 198 52 [(0, .ref q)] []
  refine xx_aload_n C 53 rfl 0 dX2_init_52 rfl rfl ?_
  refine xx_bipush C 55 rfl dX2_init_53 (by decide) ?_
  refine xv_newi (z := 12) C 57 rfl (by decide) (by decide) w_79 ⟨(Nat.le_of_ble_eq_true rfl), (Nat.le_of_ble_eq_true rfl)⟩ dX2_init_55 (fun q55_7 => ?_)
  refine wv_eq (k2 := 7) (n2 := 210) rfl (Nat.eq_of_beq_eq_true rfl) (Nat.eq_of_beq_eq_true rfl) ?_
  show wv_ G X ([(q, .inr (3, [.ref q7_1, .ref q15_2, .ref q23_3, .ref q31_4, .ref q39_5, .ref q47_6, .null, .null, .null, .int (iI 0), .int (iI 0), .int (iI 0), .int (iI 0), .int (iI 0), .int (iI 0), .int (iI 0), .int (iI 0)])), (q7_1, .inl (G.1.1 100, 96, .inl (fun _ => iI 0))), (q15_2, .inl (G.1.1 100, 24, .inl (fun _ => iI 0))), (q23_3, .inl (G.1.1 100, 24, .inl (fun _ => iI 0))), (q31_4, .inl (G.1.1 100, 24, .inl (fun _ => iI 0))), (q39_5, .inl (G.1.1 100, 24, .inl (fun _ => iI 0))), (q47_6, .inl (G.1.1 100, 6, .inl (fun _ => iI 0))), (q55_7, .inl (G.1.1 100, 12, .inl (fun _ => iI 0)))]) 7 210 57 [(0, .ref q)] [.ref q55_7, .ref q]
  refine xv_putF (fi := 6) C NI 60 rfl 0 (fs := [.ref q7_1, .ref q15_2, .ref q23_3, .ref q31_4, .ref q39_5, .ref q47_6, .null, .null, .null, .int (iI 0), .int (iI 0), .int (iI 0), .int (iI 0), .int (iI 0), .int (iI 0), .int (iI 0), .int (iI 0)]) rfl rfl in_X2 tyX2 tyX2_ok nmX2 (by decide) (Nat.le_of_ble_eq_true rfl) ⟨rfl, rfl, rfl⟩ rfl rfl w_107 dX2_init_57 ?_
  show wv_ G X ([(q, .inr (3, [.ref q7_1, .ref q15_2, .ref q23_3, .ref q31_4, .ref q39_5, .ref q47_6, .ref q55_7, .null, .null, .int (iI 0), .int (iI 0), .int (iI 0), .int (iI 0), .int (iI 0), .int (iI 0), .int (iI 0), .int (iI 0)])), (q7_1, .inl (G.1.1 100, 96, .inl (fun _ => iI 0))), (q15_2, .inl (G.1.1 100, 24, .inl (fun _ => iI 0))), (q23_3, .inl (G.1.1 100, 24, .inl (fun _ => iI 0))), (q31_4, .inl (G.1.1 100, 24, .inl (fun _ => iI 0))), (q39_5, .inl (G.1.1 100, 24, .inl (fun _ => iI 0))), (q47_6, .inl (G.1.1 100, 6, .inl (fun _ => iI 0))), (q55_7, .inl (G.1.1 100, 12, .inl (fun _ => iI 0)))]) 7 210 60 [(0, .ref q)] []
  refine xx_aload_n C 61 rfl 0 dX2_init_60 rfl rfl ?_
  refine xv_new (ci := 9) (fs := [.null, .int (iI 0)]) C 64 rfl in_X9 tyX9 tyX9_ok rfl (fun j hj => by rcases (show j = 0 ∨ j = 1 by omega) with rfl | rfl <;> rfl) ⟨w_64, w_65, w_27⟩ ⟨(Nat.le_of_ble_eq_true rfl), (Nat.le_of_ble_eq_true rfl)⟩ dX2_init_61 (fun q61_8 => ?_)
  show wv_ G X ([(q, .inr (3, [.ref q7_1, .ref q15_2, .ref q23_3, .ref q31_4, .ref q39_5, .ref q47_6, .ref q55_7, .null, .null, .int (iI 0), .int (iI 0), .int (iI 0), .int (iI 0), .int (iI 0), .int (iI 0), .int (iI 0), .int (iI 0)])), (q7_1, .inl (G.1.1 100, 96, .inl (fun _ => iI 0))), (q15_2, .inl (G.1.1 100, 24, .inl (fun _ => iI 0))), (q23_3, .inl (G.1.1 100, 24, .inl (fun _ => iI 0))), (q31_4, .inl (G.1.1 100, 24, .inl (fun _ => iI 0))), (q39_5, .inl (G.1.1 100, 24, .inl (fun _ => iI 0))), (q47_6, .inl (G.1.1 100, 6, .inl (fun _ => iI 0))), (q55_7, .inl (G.1.1 100, 12, .inl (fun _ => iI 0))), (q61_8, .inr (9, [.null, .int (iI 0)]))]) 8 212 64 [(0, .ref q)] [.ref q61_8, .ref q]
  refine xx_dup C 65 rfl dX2_init_64 rfl ?_
  refine xv_ctorN (index0 := 0) (k := 8) (n := 212) (e := .inr (9, [.null, .int (iI 0)])) (ws := [(q, .inr (3, [.ref q7_1, .ref q15_2, .ref q23_3, .ref q31_4, .ref q39_5, .ref q47_6, .ref q55_7, .null, .null, .int (iI 0), .int (iI 0), .int (iI 0), .int (iI 0), .int (iI 0), .int (iI 0), .int (iI 0), .int (iI 0)])), (q7_1, .inl (G.1.1 100, 96, .inl (fun _ => iI 0))), (q15_2, .inl (G.1.1 100, 24, .inl (fun _ => iI 0))), (q23_3, .inl (G.1.1 100, 24, .inl (fun _ => iI 0))), (q31_4, .inl (G.1.1 100, 24, .inl (fun _ => iI 0))), (q39_5, .inl (G.1.1 100, 24, .inl (fun _ => iI 0))), (q47_6, .inl (G.1.1 100, 6, .inl (fun _ => iI 0))), (q55_7, .inl (G.1.1 100, 12, .inl (fun _ => iI 0)))]) (q := q61_8) (st := [.ref q61_8, .ref q]) (As := []) C 68 rfl ca_X9_init ⟨rfl, w_67⟩ rfl rfl ⟨(Nat.le_of_ble_eq_true rfl), (Nat.le_of_ble_eq_true rfl)⟩ ⟨(Nat.le_of_ble_eq_true rfl), (Nat.le_of_ble_eq_true rfl)⟩ (Nat.le_of_ble_eq_true rfl) dX2_init_65 (i_X9) (fun u65_9 => ?_) rfl
  refine wv_eq (k2 := 9) (n2 := 236) rfl (Nat.eq_of_beq_eq_true rfl) (Nat.eq_of_beq_eq_true rfl) ?_
  show wv_ G X ([(q, .inr (3, [.ref q7_1, .ref q15_2, .ref q23_3, .ref q31_4, .ref q39_5, .ref q47_6, .ref q55_7, .null, .null, .int (iI 0), .int (iI 0), .int (iI 0), .int (iI 0), .int (iI 0), .int (iI 0), .int (iI 0), .int (iI 0)])), (q7_1, .inl (G.1.1 100, 96, .inl (fun _ => iI 0))), (q15_2, .inl (G.1.1 100, 24, .inl (fun _ => iI 0))), (q23_3, .inl (G.1.1 100, 24, .inl (fun _ => iI 0))), (q31_4, .inl (G.1.1 100, 24, .inl (fun _ => iI 0))), (q39_5, .inl (G.1.1 100, 24, .inl (fun _ => iI 0))), (q47_6, .inl (G.1.1 100, 6, .inl (fun _ => iI 0))), (q55_7, .inl (G.1.1 100, 12, .inl (fun _ => iI 0))), (q61_8, .inr (9, [.ref (u65_9 1), .int (iI 0)])), ((u65_9 1), .inl (G.1.1 100, 24, .inl (fun _ => iI 0)))]) 9 236 68 [(0, .ref q)] [.ref q61_8, .ref q]
  refine xv_putF (fi := 7) C NI 71 rfl 0 (fs := [.ref q7_1, .ref q15_2, .ref q23_3, .ref q31_4, .ref q39_5, .ref q47_6, .ref q55_7, .null, .null, .int (iI 0), .int (iI 0), .int (iI 0), .int (iI 0), .int (iI 0), .int (iI 0), .int (iI 0), .int (iI 0)]) rfl rfl in_X2 tyX2 tyX2_ok nmX2 (by decide) (Nat.le_of_ble_eq_true rfl) ⟨rfl, rfl, rfl⟩ rfl rfl w_108 dX2_init_68 ?_
  show wv_ G X ([(q, .inr (3, [.ref q7_1, .ref q15_2, .ref q23_3, .ref q31_4, .ref q39_5, .ref q47_6, .ref q55_7, .ref q61_8, .null, .int (iI 0), .int (iI 0), .int (iI 0), .int (iI 0), .int (iI 0), .int (iI 0), .int (iI 0), .int (iI 0)])), (q7_1, .inl (G.1.1 100, 96, .inl (fun _ => iI 0))), (q15_2, .inl (G.1.1 100, 24, .inl (fun _ => iI 0))), (q23_3, .inl (G.1.1 100, 24, .inl (fun _ => iI 0))), (q31_4, .inl (G.1.1 100, 24, .inl (fun _ => iI 0))), (q39_5, .inl (G.1.1 100, 24, .inl (fun _ => iI 0))), (q47_6, .inl (G.1.1 100, 6, .inl (fun _ => iI 0))), (q55_7, .inl (G.1.1 100, 12, .inl (fun _ => iI 0))), (q61_8, .inr (9, [.ref (u65_9 1), .int (iI 0)])), ((u65_9 1), .inl (G.1.1 100, 24, .inl (fun _ => iI 0)))]) 9 236 71 [(0, .ref q)] []
  refine xx_aload_n C 72 rfl 0 dX2_init_71 rfl rfl ?_
  refine xv_new (ci := 9) (fs := [.null, .int (iI 0)]) C 75 rfl in_X9 tyX9 tyX9_ok rfl (fun j hj => by rcases (show j = 0 ∨ j = 1 by omega) with rfl | rfl <;> rfl) ⟨w_64, w_65, w_27⟩ ⟨(Nat.le_of_ble_eq_true rfl), (Nat.le_of_ble_eq_true rfl)⟩ dX2_init_72 (fun q72_10 => ?_)
  show wv_ G X ([(q, .inr (3, [.ref q7_1, .ref q15_2, .ref q23_3, .ref q31_4, .ref q39_5, .ref q47_6, .ref q55_7, .ref q61_8, .null, .int (iI 0), .int (iI 0), .int (iI 0), .int (iI 0), .int (iI 0), .int (iI 0), .int (iI 0), .int (iI 0)])), (q7_1, .inl (G.1.1 100, 96, .inl (fun _ => iI 0))), (q15_2, .inl (G.1.1 100, 24, .inl (fun _ => iI 0))), (q23_3, .inl (G.1.1 100, 24, .inl (fun _ => iI 0))), (q31_4, .inl (G.1.1 100, 24, .inl (fun _ => iI 0))), (q39_5, .inl (G.1.1 100, 24, .inl (fun _ => iI 0))), (q47_6, .inl (G.1.1 100, 6, .inl (fun _ => iI 0))), (q55_7, .inl (G.1.1 100, 12, .inl (fun _ => iI 0))), (q61_8, .inr (9, [.ref (u65_9 1), .int (iI 0)])), ((u65_9 1), .inl (G.1.1 100, 24, .inl (fun _ => iI 0))), (q72_10, .inr (9, [.null, .int (iI 0)]))]) 10 238 75 [(0, .ref q)] [.ref q72_10, .ref q]
  refine xx_dup C 76 rfl dX2_init_75 rfl ?_
  refine xv_ctorN (index0 := 0) (k := 10) (n := 238) (e := .inr (9, [.null, .int (iI 0)])) (ws := [(q, .inr (3, [.ref q7_1, .ref q15_2, .ref q23_3, .ref q31_4, .ref q39_5, .ref q47_6, .ref q55_7, .ref q61_8, .null, .int (iI 0), .int (iI 0), .int (iI 0), .int (iI 0), .int (iI 0), .int (iI 0), .int (iI 0), .int (iI 0)])), (q7_1, .inl (G.1.1 100, 96, .inl (fun _ => iI 0))), (q15_2, .inl (G.1.1 100, 24, .inl (fun _ => iI 0))), (q23_3, .inl (G.1.1 100, 24, .inl (fun _ => iI 0))), (q31_4, .inl (G.1.1 100, 24, .inl (fun _ => iI 0))), (q39_5, .inl (G.1.1 100, 24, .inl (fun _ => iI 0))), (q47_6, .inl (G.1.1 100, 6, .inl (fun _ => iI 0))), (q55_7, .inl (G.1.1 100, 12, .inl (fun _ => iI 0))), (q61_8, .inr (9, [.ref (u65_9 1), .int (iI 0)])), ((u65_9 1), .inl (G.1.1 100, 24, .inl (fun _ => iI 0)))]) (q := q72_10) (st := [.ref q72_10, .ref q]) (As := []) C 79 rfl ca_X9_init ⟨rfl, w_67⟩ rfl rfl ⟨(Nat.le_of_ble_eq_true rfl), (Nat.le_of_ble_eq_true rfl)⟩ ⟨(Nat.le_of_ble_eq_true rfl), (Nat.le_of_ble_eq_true rfl)⟩ (Nat.le_of_ble_eq_true rfl) dX2_init_76 (i_X9) (fun u76_11 => ?_) rfl
  refine wv_eq (k2 := 11) (n2 := 262) rfl (Nat.eq_of_beq_eq_true rfl) (Nat.eq_of_beq_eq_true rfl) ?_
  show wv_ G X ([(q, .inr (3, [.ref q7_1, .ref q15_2, .ref q23_3, .ref q31_4, .ref q39_5, .ref q47_6, .ref q55_7, .ref q61_8, .null, .int (iI 0), .int (iI 0), .int (iI 0), .int (iI 0), .int (iI 0), .int (iI 0), .int (iI 0), .int (iI 0)])), (q7_1, .inl (G.1.1 100, 96, .inl (fun _ => iI 0))), (q15_2, .inl (G.1.1 100, 24, .inl (fun _ => iI 0))), (q23_3, .inl (G.1.1 100, 24, .inl (fun _ => iI 0))), (q31_4, .inl (G.1.1 100, 24, .inl (fun _ => iI 0))), (q39_5, .inl (G.1.1 100, 24, .inl (fun _ => iI 0))), (q47_6, .inl (G.1.1 100, 6, .inl (fun _ => iI 0))), (q55_7, .inl (G.1.1 100, 12, .inl (fun _ => iI 0))), (q61_8, .inr (9, [.ref (u65_9 1), .int (iI 0)])), ((u65_9 1), .inl (G.1.1 100, 24, .inl (fun _ => iI 0))), (q72_10, .inr (9, [.ref (u76_11 1), .int (iI 0)])), ((u76_11 1), .inl (G.1.1 100, 24, .inl (fun _ => iI 0)))]) 11 262 79 [(0, .ref q)] [.ref q72_10, .ref q]
  refine xv_putF (fi := 8) C NI 82 rfl 0 (fs := [.ref q7_1, .ref q15_2, .ref q23_3, .ref q31_4, .ref q39_5, .ref q47_6, .ref q55_7, .ref q61_8, .null, .int (iI 0), .int (iI 0), .int (iI 0), .int (iI 0), .int (iI 0), .int (iI 0), .int (iI 0), .int (iI 0)]) rfl rfl in_X2 tyX2 tyX2_ok nmX2 (by decide) (Nat.le_of_ble_eq_true rfl) ⟨rfl, rfl, rfl⟩ rfl rfl w_111 dX2_init_79 ?_
  show wv_ G X ([(q, .inr (3, [.ref q7_1, .ref q15_2, .ref q23_3, .ref q31_4, .ref q39_5, .ref q47_6, .ref q55_7, .ref q61_8, .ref q72_10, .int (iI 0), .int (iI 0), .int (iI 0), .int (iI 0), .int (iI 0), .int (iI 0), .int (iI 0), .int (iI 0)])), (q7_1, .inl (G.1.1 100, 96, .inl (fun _ => iI 0))), (q15_2, .inl (G.1.1 100, 24, .inl (fun _ => iI 0))), (q23_3, .inl (G.1.1 100, 24, .inl (fun _ => iI 0))), (q31_4, .inl (G.1.1 100, 24, .inl (fun _ => iI 0))), (q39_5, .inl (G.1.1 100, 24, .inl (fun _ => iI 0))), (q47_6, .inl (G.1.1 100, 6, .inl (fun _ => iI 0))), (q55_7, .inl (G.1.1 100, 12, .inl (fun _ => iI 0))), (q61_8, .inr (9, [.ref (u65_9 1), .int (iI 0)])), ((u65_9 1), .inl (G.1.1 100, 24, .inl (fun _ => iI 0))), (q72_10, .inr (9, [.ref (u76_11 1), .int (iI 0)])), ((u76_11 1), .inl (G.1.1 100, 24, .inl (fun _ => iI 0)))]) 11 262 82 [(0, .ref q)] []
  refine xx_aload_n C 83 rfl 0 dX2_init_82 rfl rfl ?_
  refine xx_iconst C 84 rfl dX2_init_83 ?_
  refine xv_put (fi := 9) C 87 rfl 0 (fs := [.ref q7_1, .ref q15_2, .ref q23_3, .ref q31_4, .ref q39_5, .ref q47_6, .ref q55_7, .ref q61_8, .ref q72_10, .int (iI 0), .int (iI 0), .int (iI 0), .int (iI 0), .int (iI 0), .int (iI 0), .int (iI 0), .int (iI 0)]) rfl rfl in_X2 tyX2 tyX2_ok nmX2 (by decide) (Nat.le_of_ble_eq_true rfl) ⟨rfl, rfl⟩ rfl rfl w_114 dX2_init_84 ?_
  show wv_ G X ([(q, .inr (3, [.ref q7_1, .ref q15_2, .ref q23_3, .ref q31_4, .ref q39_5, .ref q47_6, .ref q55_7, .ref q61_8, .ref q72_10, .int (iI 0), .int (iI 0), .int (iI 0), .int (iI 0), .int (iI 0), .int (iI 0), .int (iI 0), .int (iI 0)])), (q7_1, .inl (G.1.1 100, 96, .inl (fun _ => iI 0))), (q15_2, .inl (G.1.1 100, 24, .inl (fun _ => iI 0))), (q23_3, .inl (G.1.1 100, 24, .inl (fun _ => iI 0))), (q31_4, .inl (G.1.1 100, 24, .inl (fun _ => iI 0))), (q39_5, .inl (G.1.1 100, 24, .inl (fun _ => iI 0))), (q47_6, .inl (G.1.1 100, 6, .inl (fun _ => iI 0))), (q55_7, .inl (G.1.1 100, 12, .inl (fun _ => iI 0))), (q61_8, .inr (9, [.ref (u65_9 1), .int (iI 0)])), ((u65_9 1), .inl (G.1.1 100, 24, .inl (fun _ => iI 0))), (q72_10, .inr (9, [.ref (u76_11 1), .int (iI 0)])), ((u76_11 1), .inl (G.1.1 100, 24, .inl (fun _ => iI 0)))]) 11 262 87 [(0, .ref q)] []
  refine xx_aload_n C 88 rfl 0 dX2_init_87 rfl rfl ?_
  refine xx_iconst C 89 rfl dX2_init_88 ?_
  refine xv_put (fi := 10) C 92 rfl 0 (fs := [.ref q7_1, .ref q15_2, .ref q23_3, .ref q31_4, .ref q39_5, .ref q47_6, .ref q55_7, .ref q61_8, .ref q72_10, .int (iI 0), .int (iI 0), .int (iI 0), .int (iI 0), .int (iI 0), .int (iI 0), .int (iI 0), .int (iI 0)]) rfl rfl in_X2 tyX2 tyX2_ok nmX2 (by decide) (Nat.le_of_ble_eq_true rfl) ⟨rfl, rfl⟩ rfl rfl w_118 dX2_init_89 ?_
  show wv_ G X ([(q, .inr (3, [.ref q7_1, .ref q15_2, .ref q23_3, .ref q31_4, .ref q39_5, .ref q47_6, .ref q55_7, .ref q61_8, .ref q72_10, .int (iI 0), .int (iI 0), .int (iI 0), .int (iI 0), .int (iI 0), .int (iI 0), .int (iI 0), .int (iI 0)])), (q7_1, .inl (G.1.1 100, 96, .inl (fun _ => iI 0))), (q15_2, .inl (G.1.1 100, 24, .inl (fun _ => iI 0))), (q23_3, .inl (G.1.1 100, 24, .inl (fun _ => iI 0))), (q31_4, .inl (G.1.1 100, 24, .inl (fun _ => iI 0))), (q39_5, .inl (G.1.1 100, 24, .inl (fun _ => iI 0))), (q47_6, .inl (G.1.1 100, 6, .inl (fun _ => iI 0))), (q55_7, .inl (G.1.1 100, 12, .inl (fun _ => iI 0))), (q61_8, .inr (9, [.ref (u65_9 1), .int (iI 0)])), ((u65_9 1), .inl (G.1.1 100, 24, .inl (fun _ => iI 0))), (q72_10, .inr (9, [.ref (u76_11 1), .int (iI 0)])), ((u76_11 1), .inl (G.1.1 100, 24, .inl (fun _ => iI 0)))]) 11 262 92 [(0, .ref q)] []
  refine xx_aload_n C 93 rfl 0 dX2_init_92 rfl rfl ?_
  refine xx_iconst C 94 rfl dX2_init_93 ?_
  refine xv_put (fi := 11) C 97 rfl 0 (fs := [.ref q7_1, .ref q15_2, .ref q23_3, .ref q31_4, .ref q39_5, .ref q47_6, .ref q55_7, .ref q61_8, .ref q72_10, .int (iI 0), .int (iI 0), .int (iI 0), .int (iI 0), .int (iI 0), .int (iI 0), .int (iI 0), .int (iI 0)]) rfl rfl in_X2 tyX2 tyX2_ok nmX2 (by decide) (Nat.le_of_ble_eq_true rfl) ⟨rfl, rfl⟩ rfl rfl w_122 dX2_init_94 ?_
  show wv_ G X ([(q, .inr (3, [.ref q7_1, .ref q15_2, .ref q23_3, .ref q31_4, .ref q39_5, .ref q47_6, .ref q55_7, .ref q61_8, .ref q72_10, .int (iI 0), .int (iI 0), .int (iI 0), .int (iI 0), .int (iI 0), .int (iI 0), .int (iI 0), .int (iI 0)])), (q7_1, .inl (G.1.1 100, 96, .inl (fun _ => iI 0))), (q15_2, .inl (G.1.1 100, 24, .inl (fun _ => iI 0))), (q23_3, .inl (G.1.1 100, 24, .inl (fun _ => iI 0))), (q31_4, .inl (G.1.1 100, 24, .inl (fun _ => iI 0))), (q39_5, .inl (G.1.1 100, 24, .inl (fun _ => iI 0))), (q47_6, .inl (G.1.1 100, 6, .inl (fun _ => iI 0))), (q55_7, .inl (G.1.1 100, 12, .inl (fun _ => iI 0))), (q61_8, .inr (9, [.ref (u65_9 1), .int (iI 0)])), ((u65_9 1), .inl (G.1.1 100, 24, .inl (fun _ => iI 0))), (q72_10, .inr (9, [.ref (u76_11 1), .int (iI 0)])), ((u76_11 1), .inl (G.1.1 100, 24, .inl (fun _ => iI 0)))]) 11 262 97 [(0, .ref q)] []
  refine xx_aload_n C 98 rfl 0 dX2_init_97 rfl rfl ?_
  refine xx_iconst C 99 rfl dX2_init_98 ?_
  refine xv_put (fi := 12) C 102 rfl 0 (fs := [.ref q7_1, .ref q15_2, .ref q23_3, .ref q31_4, .ref q39_5, .ref q47_6, .ref q55_7, .ref q61_8, .ref q72_10, .int (iI 0), .int (iI 0), .int (iI 0), .int (iI 0), .int (iI 0), .int (iI 0), .int (iI 0), .int (iI 0)]) rfl rfl in_X2 tyX2 tyX2_ok nmX2 (by decide) (Nat.le_of_ble_eq_true rfl) ⟨rfl, rfl⟩ rfl rfl w_126 dX2_init_99 ?_
  show wv_ G X ([(q, .inr (3, [.ref q7_1, .ref q15_2, .ref q23_3, .ref q31_4, .ref q39_5, .ref q47_6, .ref q55_7, .ref q61_8, .ref q72_10, .int (iI 0), .int (iI 0), .int (iI 0), .int (iI 0), .int (iI 0), .int (iI 0), .int (iI 0), .int (iI 0)])), (q7_1, .inl (G.1.1 100, 96, .inl (fun _ => iI 0))), (q15_2, .inl (G.1.1 100, 24, .inl (fun _ => iI 0))), (q23_3, .inl (G.1.1 100, 24, .inl (fun _ => iI 0))), (q31_4, .inl (G.1.1 100, 24, .inl (fun _ => iI 0))), (q39_5, .inl (G.1.1 100, 24, .inl (fun _ => iI 0))), (q47_6, .inl (G.1.1 100, 6, .inl (fun _ => iI 0))), (q55_7, .inl (G.1.1 100, 12, .inl (fun _ => iI 0))), (q61_8, .inr (9, [.ref (u65_9 1), .int (iI 0)])), ((u65_9 1), .inl (G.1.1 100, 24, .inl (fun _ => iI 0))), (q72_10, .inr (9, [.ref (u76_11 1), .int (iI 0)])), ((u76_11 1), .inl (G.1.1 100, 24, .inl (fun _ => iI 0)))]) 11 262 102 [(0, .ref q)] []
  refine xx_aload_n C 103 rfl 0 dX2_init_102 rfl rfl ?_
  refine xx_iconst C 104 rfl dX2_init_103 ?_
  refine xv_put (fi := 13) C 107 rfl 0 (fs := [.ref q7_1, .ref q15_2, .ref q23_3, .ref q31_4, .ref q39_5, .ref q47_6, .ref q55_7, .ref q61_8, .ref q72_10, .int (iI 0), .int (iI 0), .int (iI 0), .int (iI 0), .int (iI 0), .int (iI 0), .int (iI 0), .int (iI 0)]) rfl rfl in_X2 tyX2 tyX2_ok nmX2 (by decide) (Nat.le_of_ble_eq_true rfl) ⟨rfl, rfl⟩ rfl rfl w_129 dX2_init_104 ?_
  show wv_ G X ([(q, .inr (3, [.ref q7_1, .ref q15_2, .ref q23_3, .ref q31_4, .ref q39_5, .ref q47_6, .ref q55_7, .ref q61_8, .ref q72_10, .int (iI 0), .int (iI 0), .int (iI 0), .int (iI 0), .int (iI 0), .int (iI 0), .int (iI 0), .int (iI 0)])), (q7_1, .inl (G.1.1 100, 96, .inl (fun _ => iI 0))), (q15_2, .inl (G.1.1 100, 24, .inl (fun _ => iI 0))), (q23_3, .inl (G.1.1 100, 24, .inl (fun _ => iI 0))), (q31_4, .inl (G.1.1 100, 24, .inl (fun _ => iI 0))), (q39_5, .inl (G.1.1 100, 24, .inl (fun _ => iI 0))), (q47_6, .inl (G.1.1 100, 6, .inl (fun _ => iI 0))), (q55_7, .inl (G.1.1 100, 12, .inl (fun _ => iI 0))), (q61_8, .inr (9, [.ref (u65_9 1), .int (iI 0)])), ((u65_9 1), .inl (G.1.1 100, 24, .inl (fun _ => iI 0))), (q72_10, .inr (9, [.ref (u76_11 1), .int (iI 0)])), ((u76_11 1), .inl (G.1.1 100, 24, .inl (fun _ => iI 0)))]) 11 262 107 [(0, .ref q)] []
  refine xx_aload_n C 108 rfl 0 dX2_init_107 rfl rfl ?_
  refine xx_iconst C 109 rfl dX2_init_108 ?_
  refine xv_put (fi := 14) C 112 rfl 0 (fs := [.ref q7_1, .ref q15_2, .ref q23_3, .ref q31_4, .ref q39_5, .ref q47_6, .ref q55_7, .ref q61_8, .ref q72_10, .int (iI 0), .int (iI 0), .int (iI 0), .int (iI 0), .int (iI 0), .int (iI 0), .int (iI 0), .int (iI 0)]) rfl rfl in_X2 tyX2 tyX2_ok nmX2 (by decide) (Nat.le_of_ble_eq_true rfl) ⟨rfl, rfl⟩ rfl rfl w_132 dX2_init_109 ?_
  show wv_ G X ([(q, .inr (3, [.ref q7_1, .ref q15_2, .ref q23_3, .ref q31_4, .ref q39_5, .ref q47_6, .ref q55_7, .ref q61_8, .ref q72_10, .int (iI 0), .int (iI 0), .int (iI 0), .int (iI 0), .int (iI 0), .int (iI 0), .int (iI 0), .int (iI 0)])), (q7_1, .inl (G.1.1 100, 96, .inl (fun _ => iI 0))), (q15_2, .inl (G.1.1 100, 24, .inl (fun _ => iI 0))), (q23_3, .inl (G.1.1 100, 24, .inl (fun _ => iI 0))), (q31_4, .inl (G.1.1 100, 24, .inl (fun _ => iI 0))), (q39_5, .inl (G.1.1 100, 24, .inl (fun _ => iI 0))), (q47_6, .inl (G.1.1 100, 6, .inl (fun _ => iI 0))), (q55_7, .inl (G.1.1 100, 12, .inl (fun _ => iI 0))), (q61_8, .inr (9, [.ref (u65_9 1), .int (iI 0)])), ((u65_9 1), .inl (G.1.1 100, 24, .inl (fun _ => iI 0))), (q72_10, .inr (9, [.ref (u76_11 1), .int (iI 0)])), ((u76_11 1), .inl (G.1.1 100, 24, .inl (fun _ => iI 0)))]) 11 262 112 [(0, .ref q)] []
  refine xx_aload_n C 113 rfl 0 dX2_init_112 rfl rfl ?_
  refine xx_iconst C 114 rfl dX2_init_113 ?_
  refine xv_put (fi := 15) C 117 rfl 0 (fs := [.ref q7_1, .ref q15_2, .ref q23_3, .ref q31_4, .ref q39_5, .ref q47_6, .ref q55_7, .ref q61_8, .ref q72_10, .int (iI 0), .int (iI 0), .int (iI 0), .int (iI 0), .int (iI 0), .int (iI 0), .int (iI 0), .int (iI 0)]) rfl rfl in_X2 tyX2 tyX2_ok nmX2 (by decide) (Nat.le_of_ble_eq_true rfl) ⟨rfl, rfl⟩ rfl rfl w_135 dX2_init_114 ?_
  show wv_ G X ([(q, .inr (3, [.ref q7_1, .ref q15_2, .ref q23_3, .ref q31_4, .ref q39_5, .ref q47_6, .ref q55_7, .ref q61_8, .ref q72_10, .int (iI 0), .int (iI 0), .int (iI 0), .int (iI 0), .int (iI 0), .int (iI 0), .int (iI 0), .int (iI 0)])), (q7_1, .inl (G.1.1 100, 96, .inl (fun _ => iI 0))), (q15_2, .inl (G.1.1 100, 24, .inl (fun _ => iI 0))), (q23_3, .inl (G.1.1 100, 24, .inl (fun _ => iI 0))), (q31_4, .inl (G.1.1 100, 24, .inl (fun _ => iI 0))), (q39_5, .inl (G.1.1 100, 24, .inl (fun _ => iI 0))), (q47_6, .inl (G.1.1 100, 6, .inl (fun _ => iI 0))), (q55_7, .inl (G.1.1 100, 12, .inl (fun _ => iI 0))), (q61_8, .inr (9, [.ref (u65_9 1), .int (iI 0)])), ((u65_9 1), .inl (G.1.1 100, 24, .inl (fun _ => iI 0))), (q72_10, .inr (9, [.ref (u76_11 1), .int (iI 0)])), ((u76_11 1), .inl (G.1.1 100, 24, .inl (fun _ => iI 0)))]) 11 262 117 [(0, .ref q)] []
  refine xx_aload_n C 118 rfl 0 dX2_init_117 rfl rfl ?_
  refine xx_iconst C 119 rfl dX2_init_118 ?_
  refine xv_put (fi := 16) C 122 rfl 0 (fs := [.ref q7_1, .ref q15_2, .ref q23_3, .ref q31_4, .ref q39_5, .ref q47_6, .ref q55_7, .ref q61_8, .ref q72_10, .int (iI 0), .int (iI 0), .int (iI 0), .int (iI 0), .int (iI 0), .int (iI 0), .int (iI 0), .int (iI 0)]) rfl rfl in_X2 tyX2 tyX2_ok nmX2 (by decide) (Nat.le_of_ble_eq_true rfl) ⟨rfl, rfl⟩ rfl rfl w_138 dX2_init_119 ?_
  show wv_ G X ([(q, .inr (3, [.ref q7_1, .ref q15_2, .ref q23_3, .ref q31_4, .ref q39_5, .ref q47_6, .ref q55_7, .ref q61_8, .ref q72_10, .int (iI 0), .int (iI 0), .int (iI 0), .int (iI 0), .int (iI 0), .int (iI 0), .int (iI 0), .int (iI 0)])), (q7_1, .inl (G.1.1 100, 96, .inl (fun _ => iI 0))), (q15_2, .inl (G.1.1 100, 24, .inl (fun _ => iI 0))), (q23_3, .inl (G.1.1 100, 24, .inl (fun _ => iI 0))), (q31_4, .inl (G.1.1 100, 24, .inl (fun _ => iI 0))), (q39_5, .inl (G.1.1 100, 24, .inl (fun _ => iI 0))), (q47_6, .inl (G.1.1 100, 6, .inl (fun _ => iI 0))), (q55_7, .inl (G.1.1 100, 12, .inl (fun _ => iI 0))), (q61_8, .inr (9, [.ref (u65_9 1), .int (iI 0)])), ((u65_9 1), .inl (G.1.1 100, 24, .inl (fun _ => iI 0))), (q72_10, .inr (9, [.ref (u76_11 1), .int (iI 0)])), ((u76_11 1), .inl (G.1.1 100, 24, .inl (fun _ => iI 0)))]) 11 262 122 [(0, .ref q)] []
  refine xx_aload_n C 123 rfl 0 dX2_init_122 rfl rfl ?_
  refine xx_getr (q := 0) (fi := 0) C 126 rfl (Nat.le_of_ble_eq_true rfl) rfl rfl in_X2 (by decide) rfl w_83 dX2_init_123 ?_
  show wv_ G X ([(q, .inr (3, [.ref q7_1, .ref q15_2, .ref q23_3, .ref q31_4, .ref q39_5, .ref q47_6, .ref q55_7, .ref q61_8, .ref q72_10, .int (iI 0), .int (iI 0), .int (iI 0), .int (iI 0), .int (iI 0), .int (iI 0), .int (iI 0), .int (iI 0)])), (q7_1, .inl (G.1.1 100, 96, .inl (fun _ => iI 0))), (q15_2, .inl (G.1.1 100, 24, .inl (fun _ => iI 0))), (q23_3, .inl (G.1.1 100, 24, .inl (fun _ => iI 0))), (q31_4, .inl (G.1.1 100, 24, .inl (fun _ => iI 0))), (q39_5, .inl (G.1.1 100, 24, .inl (fun _ => iI 0))), (q47_6, .inl (G.1.1 100, 6, .inl (fun _ => iI 0))), (q55_7, .inl (G.1.1 100, 12, .inl (fun _ => iI 0))), (q61_8, .inr (9, [.ref (u65_9 1), .int (iI 0)])), ((u65_9 1), .inl (G.1.1 100, 24, .inl (fun _ => iI 0))), (q72_10, .inr (9, [.ref (u76_11 1), .int (iI 0)])), ((u76_11 1), .inl (G.1.1 100, 24, .inl (fun _ => iI 0)))]) 11 262 126 [(0, .ref q)] [.ref q7_1]
  refine xx_bipush C 128 rfl dX2_init_126 (by decide) ?_
  refine xv_fill C 131 rfl 1 rfl ca_J7_fill_53178 w_81 w_80 ⟨(Nat.le_of_ble_eq_true rfl), (Nat.le_of_ble_eq_true rfl)⟩ ⟨(Nat.le_of_ble_eq_true rfl), (Nat.le_of_ble_eq_true rfl)⟩ (Nat.le_of_ble_eq_true rfl) dX2_init_128 (i_fill 96 (by decide) (-15)) ?_
  show wv_ G X ([(q, .inr (3, [.ref q7_1, .ref q15_2, .ref q23_3, .ref q31_4, .ref q39_5, .ref q47_6, .ref q55_7, .ref q61_8, .ref q72_10, .int (iI 0), .int (iI 0), .int (iI 0), .int (iI 0), .int (iI 0), .int (iI 0), .int (iI 0), .int (iI 0)])), (q7_1, .inl (G.1.1 100, 96, .inl (fun j => iI (fr_ 96 (-15) (j : Nat))))), (q15_2, .inl (G.1.1 100, 24, .inl (fun _ => iI 0))), (q23_3, .inl (G.1.1 100, 24, .inl (fun _ => iI 0))), (q31_4, .inl (G.1.1 100, 24, .inl (fun _ => iI 0))), (q39_5, .inl (G.1.1 100, 24, .inl (fun _ => iI 0))), (q47_6, .inl (G.1.1 100, 6, .inl (fun _ => iI 0))), (q55_7, .inl (G.1.1 100, 12, .inl (fun _ => iI 0))), (q61_8, .inr (9, [.ref (u65_9 1), .int (iI 0)])), ((u65_9 1), .inl (G.1.1 100, 24, .inl (fun _ => iI 0))), (q72_10, .inr (9, [.ref (u76_11 1), .int (iI 0)])), ((u76_11 1), .inl (G.1.1 100, 24, .inl (fun _ => iI 0)))]) 11 262 131 [(0, .ref q)] []
  refine xx_aload_n C 132 rfl 0 dX2_init_131 rfl rfl ?_
  refine xx_getr (q := 0) (fi := 1) C 135 rfl (Nat.le_of_ble_eq_true rfl) rfl rfl in_X2 (by decide) rfl w_86 dX2_init_132 ?_
  show wv_ G X ([(q, .inr (3, [.ref q7_1, .ref q15_2, .ref q23_3, .ref q31_4, .ref q39_5, .ref q47_6, .ref q55_7, .ref q61_8, .ref q72_10, .int (iI 0), .int (iI 0), .int (iI 0), .int (iI 0), .int (iI 0), .int (iI 0), .int (iI 0), .int (iI 0)])), (q7_1, .inl (G.1.1 100, 96, .inl (fun j => iI (fr_ 96 (-15) (j : Nat))))), (q15_2, .inl (G.1.1 100, 24, .inl (fun _ => iI 0))), (q23_3, .inl (G.1.1 100, 24, .inl (fun _ => iI 0))), (q31_4, .inl (G.1.1 100, 24, .inl (fun _ => iI 0))), (q39_5, .inl (G.1.1 100, 24, .inl (fun _ => iI 0))), (q47_6, .inl (G.1.1 100, 6, .inl (fun _ => iI 0))), (q55_7, .inl (G.1.1 100, 12, .inl (fun _ => iI 0))), (q61_8, .inr (9, [.ref (u65_9 1), .int (iI 0)])), ((u65_9 1), .inl (G.1.1 100, 24, .inl (fun _ => iI 0))), (q72_10, .inr (9, [.ref (u76_11 1), .int (iI 0)])), ((u76_11 1), .inl (G.1.1 100, 24, .inl (fun _ => iI 0)))]) 11 262 135 [(0, .ref q)] [.ref q15_2]
  refine xx_bipush C 137 rfl dX2_init_135 (by decide) ?_
  refine xv_fill C 140 rfl 2 rfl ca_J7_fill_53178 w_81 w_80 ⟨(Nat.le_of_ble_eq_true rfl), (Nat.le_of_ble_eq_true rfl)⟩ ⟨(Nat.le_of_ble_eq_true rfl), (Nat.le_of_ble_eq_true rfl)⟩ (Nat.le_of_ble_eq_true rfl) dX2_init_137 (i_fill 24 (by decide) (-15)) ?_
  show wv_ G X ([(q, .inr (3, [.ref q7_1, .ref q15_2, .ref q23_3, .ref q31_4, .ref q39_5, .ref q47_6, .ref q55_7, .ref q61_8, .ref q72_10, .int (iI 0), .int (iI 0), .int (iI 0), .int (iI 0), .int (iI 0), .int (iI 0), .int (iI 0), .int (iI 0)])), (q7_1, .inl (G.1.1 100, 96, .inl (fun j => iI (fr_ 96 (-15) (j : Nat))))), (q15_2, .inl (G.1.1 100, 24, .inl (fun j => iI (fr_ 24 (-15) (j : Nat))))), (q23_3, .inl (G.1.1 100, 24, .inl (fun _ => iI 0))), (q31_4, .inl (G.1.1 100, 24, .inl (fun _ => iI 0))), (q39_5, .inl (G.1.1 100, 24, .inl (fun _ => iI 0))), (q47_6, .inl (G.1.1 100, 6, .inl (fun _ => iI 0))), (q55_7, .inl (G.1.1 100, 12, .inl (fun _ => iI 0))), (q61_8, .inr (9, [.ref (u65_9 1), .int (iI 0)])), ((u65_9 1), .inl (G.1.1 100, 24, .inl (fun _ => iI 0))), (q72_10, .inr (9, [.ref (u76_11 1), .int (iI 0)])), ((u76_11 1), .inl (G.1.1 100, 24, .inl (fun _ => iI 0)))]) 11 262 140 [(0, .ref q)] []
  refine xx_aload_n C 141 rfl 0 dX2_init_140 rfl rfl ?_
  refine xx_getr (q := 0) (fi := 5) C 144 rfl (Nat.le_of_ble_eq_true rfl) rfl rfl in_X2 (by decide) rfl w_102 dX2_init_141 ?_
  show wv_ G X ([(q, .inr (3, [.ref q7_1, .ref q15_2, .ref q23_3, .ref q31_4, .ref q39_5, .ref q47_6, .ref q55_7, .ref q61_8, .ref q72_10, .int (iI 0), .int (iI 0), .int (iI 0), .int (iI 0), .int (iI 0), .int (iI 0), .int (iI 0), .int (iI 0)])), (q7_1, .inl (G.1.1 100, 96, .inl (fun j => iI (fr_ 96 (-15) (j : Nat))))), (q15_2, .inl (G.1.1 100, 24, .inl (fun j => iI (fr_ 24 (-15) (j : Nat))))), (q23_3, .inl (G.1.1 100, 24, .inl (fun _ => iI 0))), (q31_4, .inl (G.1.1 100, 24, .inl (fun _ => iI 0))), (q39_5, .inl (G.1.1 100, 24, .inl (fun _ => iI 0))), (q47_6, .inl (G.1.1 100, 6, .inl (fun _ => iI 0))), (q55_7, .inl (G.1.1 100, 12, .inl (fun _ => iI 0))), (q61_8, .inr (9, [.ref (u65_9 1), .int (iI 0)])), ((u65_9 1), .inl (G.1.1 100, 24, .inl (fun _ => iI 0))), (q72_10, .inr (9, [.ref (u76_11 1), .int (iI 0)])), ((u76_11 1), .inl (G.1.1 100, 24, .inl (fun _ => iI 0)))]) 11 262 144 [(0, .ref q)] [.ref q47_6]
  refine xx_bipush C 146 rfl dX2_init_144 (by decide) ?_
  refine xv_fill C 149 rfl 6 rfl ca_J7_fill_53178 w_81 w_80 ⟨(Nat.le_of_ble_eq_true rfl), (Nat.le_of_ble_eq_true rfl)⟩ ⟨(Nat.le_of_ble_eq_true rfl), (Nat.le_of_ble_eq_true rfl)⟩ (Nat.le_of_ble_eq_true rfl) dX2_init_146 (i_fill 6 (by decide) (-15)) ?_
  show wv_ G X ([(q, .inr (3, [.ref q7_1, .ref q15_2, .ref q23_3, .ref q31_4, .ref q39_5, .ref q47_6, .ref q55_7, .ref q61_8, .ref q72_10, .int (iI 0), .int (iI 0), .int (iI 0), .int (iI 0), .int (iI 0), .int (iI 0), .int (iI 0), .int (iI 0)])), (q7_1, .inl (G.1.1 100, 96, .inl (fun j => iI (fr_ 96 (-15) (j : Nat))))), (q15_2, .inl (G.1.1 100, 24, .inl (fun j => iI (fr_ 24 (-15) (j : Nat))))), (q23_3, .inl (G.1.1 100, 24, .inl (fun _ => iI 0))), (q31_4, .inl (G.1.1 100, 24, .inl (fun _ => iI 0))), (q39_5, .inl (G.1.1 100, 24, .inl (fun _ => iI 0))), (q47_6, .inl (G.1.1 100, 6, .inl (fun j => iI (fr_ 6 (-15) (j : Nat))))), (q55_7, .inl (G.1.1 100, 12, .inl (fun _ => iI 0))), (q61_8, .inr (9, [.ref (u65_9 1), .int (iI 0)])), ((u65_9 1), .inl (G.1.1 100, 24, .inl (fun _ => iI 0))), (q72_10, .inr (9, [.ref (u76_11 1), .int (iI 0)])), ((u76_11 1), .inl (G.1.1 100, 24, .inl (fun _ => iI 0)))]) 11 262 149 [(0, .ref q)] []
  refine xx_aload_n C 150 rfl 0 dX2_init_149 rfl rfl ?_
  refine xx_getr (q := 0) (fi := 3) C 153 rfl (Nat.le_of_ble_eq_true rfl) rfl rfl in_X2 (by decide) rfl w_95 dX2_init_150 ?_
  show wv_ G X ([(q, .inr (3, [.ref q7_1, .ref q15_2, .ref q23_3, .ref q31_4, .ref q39_5, .ref q47_6, .ref q55_7, .ref q61_8, .ref q72_10, .int (iI 0), .int (iI 0), .int (iI 0), .int (iI 0), .int (iI 0), .int (iI 0), .int (iI 0), .int (iI 0)])), (q7_1, .inl (G.1.1 100, 96, .inl (fun j => iI (fr_ 96 (-15) (j : Nat))))), (q15_2, .inl (G.1.1 100, 24, .inl (fun j => iI (fr_ 24 (-15) (j : Nat))))), (q23_3, .inl (G.1.1 100, 24, .inl (fun _ => iI 0))), (q31_4, .inl (G.1.1 100, 24, .inl (fun _ => iI 0))), (q39_5, .inl (G.1.1 100, 24, .inl (fun _ => iI 0))), (q47_6, .inl (G.1.1 100, 6, .inl (fun j => iI (fr_ 6 (-15) (j : Nat))))), (q55_7, .inl (G.1.1 100, 12, .inl (fun _ => iI 0))), (q61_8, .inr (9, [.ref (u65_9 1), .int (iI 0)])), ((u65_9 1), .inl (G.1.1 100, 24, .inl (fun _ => iI 0))), (q72_10, .inr (9, [.ref (u76_11 1), .int (iI 0)])), ((u76_11 1), .inl (G.1.1 100, 24, .inl (fun _ => iI 0)))]) 11 262 153 [(0, .ref q)] [.ref q31_4]
  refine xx_iconst C 154 rfl dX2_init_153 ?_
  refine xv_fill C 157 rfl 4 rfl ca_J7_fill_53178 w_81 w_80 ⟨(Nat.le_of_ble_eq_true rfl), (Nat.le_of_ble_eq_true rfl)⟩ ⟨(Nat.le_of_ble_eq_true rfl), (Nat.le_of_ble_eq_true rfl)⟩ (Nat.le_of_ble_eq_true rfl) dX2_init_154 (i_fill 24 (by decide) (-1)) ?_
  show wv_ G X ([(q, .inr (3, [.ref q7_1, .ref q15_2, .ref q23_3, .ref q31_4, .ref q39_5, .ref q47_6, .ref q55_7, .ref q61_8, .ref q72_10, .int (iI 0), .int (iI 0), .int (iI 0), .int (iI 0), .int (iI 0), .int (iI 0), .int (iI 0), .int (iI 0)])), (q7_1, .inl (G.1.1 100, 96, .inl (fun j => iI (fr_ 96 (-15) (j : Nat))))), (q15_2, .inl (G.1.1 100, 24, .inl (fun j => iI (fr_ 24 (-15) (j : Nat))))), (q23_3, .inl (G.1.1 100, 24, .inl (fun _ => iI 0))), (q31_4, .inl (G.1.1 100, 24, .inl (fun j => iI (fr_ 24 (-1) (j : Nat))))), (q39_5, .inl (G.1.1 100, 24, .inl (fun _ => iI 0))), (q47_6, .inl (G.1.1 100, 6, .inl (fun j => iI (fr_ 6 (-15) (j : Nat))))), (q55_7, .inl (G.1.1 100, 12, .inl (fun _ => iI 0))), (q61_8, .inr (9, [.ref (u65_9 1), .int (iI 0)])), ((u65_9 1), .inl (G.1.1 100, 24, .inl (fun _ => iI 0))), (q72_10, .inr (9, [.ref (u76_11 1), .int (iI 0)])), ((u76_11 1), .inl (G.1.1 100, 24, .inl (fun _ => iI 0)))]) 11 262 157 [(0, .ref q)] []
  show wv_ G X ((fun (q : Nat) (u : Nat → Nat) => hX2_ G q u) q (fun j => ([q, q7_1, q15_2, q23_3, q31_4, q39_5, q47_6, q55_7, q61_8, (u65_9 1), q72_10, (u76_11 1)] : List Nat).getD j 0)) 11 262 157 [(0, .ref q)] []
  exact xv_ret (w := (fun (q : Nat) (u : Nat → Nat) => hX2_ G q u) q) (k := 11) (n := 262) C E rfl (fun j => ([q, q7_1, q15_2, q23_3, q31_4, q39_5, q47_6, q55_7, q61_8, (u65_9 1), q72_10, (u76_11 1)] : List Nat).getD j 0) ⟨(Nat.le_of_ble_eq_true rfl), (Nat.le_of_ble_eq_true rfl)⟩ dX2_init_157

theorem dX6_init_0 : decode cX6_init 0 = .ok (.aload_n 0, 1) := by decide +kernel
theorem dX6_init_1 : decode cX6_init 1 = .ok (.invokespecial 3, 3) := by decide +kernel
theorem dX6_init_4 : decode cX6_init 4 = .ok (.aload_n 0, 1) := by decide +kernel
theorem dX6_init_5 : decode cX6_init 5 = .ok (.new 9, 3) := by decide +kernel
theorem dX6_init_8 : decode cX6_init 8 = .ok (.dup, 1) := by decide +kernel
theorem dX6_init_9 : decode cX6_init 9 = .ok (.invokespecial 11, 3) := by decide +kernel
theorem dX6_init_12 : decode cX6_init 12 = .ok (.putfield 12, 3) := by decide +kernel
theorem dX6_init_15 : decode cX6_init 15 = .ok (.aload_n 0, 1) := by decide +kernel
theorem dX6_init_16 : decode cX6_init 16 = .ok (.bipush 60, 2) := by decide +kernel
theorem dX6_init_18 : decode cX6_init 18 = .ok (.anewarray 18, 3) := by decide +kernel
theorem dX6_init_21 : decode cX6_init 21 = .ok (.putfield 20, 3) := by decide +kernel
theorem dX6_init_24 : decode cX6_init 24 = .ok (.aload_n 0, 1) := by decide +kernel
theorem dX6_init_25 : decode cX6_init 25 = .ok (.bipush 60, 2) := by decide +kernel
theorem dX6_init_27 : decode cX6_init 27 = .ok (.newarray .int, 2) := by decide +kernel
theorem dX6_init_29 : decode cX6_init 29 = .ok (.putfield 24, 3) := by decide +kernel
theorem dX6_init_32 : decode cX6_init 32 = .ok (.aload_n 0, 1) := by decide +kernel
theorem dX6_init_33 : decode cX6_init 33 = .ok (.bipush 60, 2) := by decide +kernel
theorem dX6_init_35 : decode cX6_init 35 = .ok (.newarray .int, 2) := by decide +kernel
theorem dX6_init_37 : decode cX6_init 37 = .ok (.putfield 28, 3) := by decide +kernel
theorem dX6_init_40 : decode cX6_init 40 = .ok (.aload_n 0, 1) := by decide +kernel
theorem dX6_init_41 : decode cX6_init 41 = .ok (.bipush 60, 2) := by decide +kernel
theorem dX6_init_43 : decode cX6_init 43 = .ok (.newarray .int, 2) := by decide +kernel
theorem dX6_init_45 : decode cX6_init 45 = .ok (.putfield 31, 3) := by decide +kernel
theorem dX6_init_48 : decode cX6_init 48 = .ok (.aload_n 0, 1) := by decide +kernel
theorem dX6_init_49 : decode cX6_init 49 = .ok (.iconst 0, 1) := by decide +kernel
theorem dX6_init_50 : decode cX6_init 50 = .ok (.putfield 34, 3) := by decide +kernel
theorem dX6_init_53 : decode cX6_init 53 = .ok (.aload_n 0, 1) := by decide +kernel
theorem dX6_init_54 : decode cX6_init 54 = .ok (.iconst 3, 1) := by decide +kernel
theorem dX6_init_55 : decode cX6_init 55 = .ok (.newarray .int, 2) := by decide +kernel
theorem dX6_init_57 : decode cX6_init 57 = .ok (.putfield 38, 3) := by decide +kernel
theorem dX6_init_60 : decode cX6_init 60 = .ok (.aload_n 0, 1) := by decide +kernel
theorem dX6_init_61 : decode cX6_init 61 = .ok (.iconst 0, 1) := by decide +kernel
theorem dX6_init_62 : decode cX6_init 62 = .ok (.putfield 41, 3) := by decide +kernel
theorem dX6_init_65 : decode cX6_init 65 = .ok (.return_, 1) := by decide +kernel
set_option maxHeartbeats 4000000 in
set_option maxRecDepth 100000 in
theorem i_X6 {G : gp_} : mc_ yX6_init cX6_init 1 ({ frames := 3, cells := 7, slots := 263, locals := 53 } : Room) G [] (.inr (6, [.null, .null, .null, .null, .null, .int (iI 0), .null, .int (iI 0)])) (S := Nat → Nat) (fun (q : Nat) (u : Nat → Nat) => [(q, .inr (6, [.ref (u 1), .ref (u 3), .ref (u 4), .ref (u 5), .ref (u 6), .int (iI 0), .ref (u 7), .int (iI 0)])), ((u 1), .inr (1, [.ref (u 2), .int (iI 0), .int (iI 0), .int (iI 0)])), ((u 2), .inl (G.1.1 101, (br_ 16 (-1)).toNat, .inl (fun j => iI (br_ 16 (j : Nat))))), ((u 3), .inl (G.1.1 103, 60, .inr (.inr (.inr (.inr (fun _ => none)))))), ((u 4), .inl (G.1.1 100, 60, .inl (fun _ => iI 0))), ((u 5), .inl (G.1.1 100, 60, .inl (fun _ => iI 0))), ((u 6), .inl (G.1.1 100, 60, .inl (fun _ => iI 0))), ((u 7), .inl (G.1.1 100, 3, .inl (fun _ => iI 0)))]) := by
  refine mc_in (own := "UrnHeap$Orders") (by decide) rfl (fun _ => (Nat.le_of_ble_eq_true rfl)) (fun X q C NI E => ?_)
  have NI := NI rfl
  show wv_ G X [(q, .inr (6, [.null, .null, .null, .null, .null, .int (iI 0), .null, .int (iI 0)]))] 0 0 0 [(0, .ref q)] []
  refine xx_aload_n C 1 rfl 0 dX6_init_0 rfl rfl ?_
  refine xx_obj C 4 rfl ⟨w_262, w_56, w_57⟩ ⟨(Nat.le_of_ble_eq_true rfl), (Nat.le_of_ble_eq_true rfl)⟩ dX6_init_1 ?_
  refine xx_aload_n C 5 rfl 0 dX6_init_4 rfl rfl ?_
  refine xv_new (ci := 1) (fs := [.null, .int (iI 0), .int (iI 0), .int (iI 0)]) C 8 rfl in_J4 tyJ4 tyJ4_ok rfl (fun j hj => by rcases (show j = 0 ∨ j = 1 ∨ j = 2 ∨ j = 3 by omega) with rfl | rfl | rfl | rfl <;> rfl) ⟨w_263, w_264, w_36⟩ ⟨(Nat.le_of_ble_eq_true rfl), (Nat.le_of_ble_eq_true rfl)⟩ dX6_init_5 (fun q5_1 => ?_)
  show wv_ G X ([(q, .inr (6, [.null, .null, .null, .null, .null, .int (iI 0), .null, .int (iI 0)])), (q5_1, .inr (1, [.null, .int (iI 0), .int (iI 0), .int (iI 0)]))]) 1 4 8 [(0, .ref q)] [.ref q5_1, .ref q]
  refine xx_dup C 9 rfl dX6_init_8 rfl ?_
  refine xv_ctor (k := 1) (n := 4) (e := .inr (1, [.null, .int (iI 0), .int (iI 0), .int (iI 0)])) (ws := [(q, .inr (6, [.null, .null, .null, .null, .null, .int (iI 0), .null, .int (iI 0)]))]) (q := q5_1) (st := [.ref q5_1, .ref q]) (As := []) C 12 rfl ca_J4_init_da8c8 ⟨rfl, w_266⟩ w_265 rfl ⟨(Nat.le_of_ble_eq_true rfl), (Nat.le_of_ble_eq_true rfl)⟩ ⟨(Nat.le_of_ble_eq_true rfl), (Nat.le_of_ble_eq_true rfl)⟩ (Nat.le_of_ble_eq_true rfl) dX6_init_9 (i_J4) (fun u9_2 => ?_) rfl
  refine wv_eq (k2 := 2) (n2 := 20) rfl (Nat.eq_of_beq_eq_true rfl) (Nat.eq_of_beq_eq_true rfl) ?_
  show wv_ G X ([(q, .inr (6, [.null, .null, .null, .null, .null, .int (iI 0), .null, .int (iI 0)])), (q5_1, .inr (1, [.ref (u9_2 1), .int (iI 0), .int (iI 0), .int (iI 0)])), ((u9_2 1), .inl (G.1.1 101, (br_ 16 (-1)).toNat, .inl (fun j => iI (br_ 16 (j : Nat)))))]) 2 20 12 [(0, .ref q)] [.ref q5_1, .ref q]
  refine xv_putF (fi := 0) C NI 15 rfl 0 (fs := [.null, .null, .null, .null, .null, .int (iI 0), .null, .int (iI 0)]) rfl rfl in_X6 tyX6 tyX6_ok nmX6 (by decide) (Nat.le_of_ble_eq_true rfl) ⟨rfl, rfl, rfl⟩ rfl rfl w_298 dX6_init_12 ?_
  show wv_ G X ([(q, .inr (6, [.ref q5_1, .null, .null, .null, .null, .int (iI 0), .null, .int (iI 0)])), (q5_1, .inr (1, [.ref (u9_2 1), .int (iI 0), .int (iI 0), .int (iI 0)])), ((u9_2 1), .inl (G.1.1 101, (br_ 16 (-1)).toNat, .inl (fun j => iI (br_ 16 (j : Nat)))))]) 2 20 15 [(0, .ref q)] []
  refine xx_aload_n C 16 rfl 0 dX6_init_15 rfl rfl ?_
  refine xx_bipush C 18 rfl dX6_init_16 (by decide) ?_
  refine xv_newq (z := 60) (Cn := "UrnHeap$Kind") (ti := 3) (cid := G.1.1 103) C 21 rfl (by decide) (by decide) rfl (fun hg => hg.2.2.2.2.2.2.2.2.1) w_296 ⟨(Nat.le_of_ble_eq_true rfl), (Nat.le_of_ble_eq_true rfl)⟩ dX6_init_18 (fun q18_3 => ?_)
  refine wv_eq (k2 := 3) (n2 := 80) rfl (Nat.eq_of_beq_eq_true rfl) (Nat.eq_of_beq_eq_true rfl) ?_
  show wv_ G X ([(q, .inr (6, [.ref q5_1, .null, .null, .null, .null, .int (iI 0), .null, .int (iI 0)])), (q5_1, .inr (1, [.ref (u9_2 1), .int (iI 0), .int (iI 0), .int (iI 0)])), ((u9_2 1), .inl (G.1.1 101, (br_ 16 (-1)).toNat, .inl (fun j => iI (br_ 16 (j : Nat))))), (q18_3, .inl (G.1.1 103, 60, .inr (.inr (.inr (.inr (fun _ => none))))))]) 3 80 21 [(0, .ref q)] [.ref q18_3, .ref q]
  refine xv_putF (fi := 1) C NI 24 rfl 0 (fs := [.ref q5_1, .null, .null, .null, .null, .int (iI 0), .null, .int (iI 0)]) rfl rfl in_X6 tyX6 tyX6_ok nmX6 (by decide) (Nat.le_of_ble_eq_true rfl) ⟨rfl, rfl, rfl⟩ rfl rfl w_299 dX6_init_21 ?_
  show wv_ G X ([(q, .inr (6, [.ref q5_1, .ref q18_3, .null, .null, .null, .int (iI 0), .null, .int (iI 0)])), (q5_1, .inr (1, [.ref (u9_2 1), .int (iI 0), .int (iI 0), .int (iI 0)])), ((u9_2 1), .inl (G.1.1 101, (br_ 16 (-1)).toNat, .inl (fun j => iI (br_ 16 (j : Nat))))), (q18_3, .inl (G.1.1 103, 60, .inr (.inr (.inr (.inr (fun _ => none))))))]) 3 80 24 [(0, .ref q)] []
  refine xx_aload_n C 25 rfl 0 dX6_init_24 rfl rfl ?_
  refine xx_bipush C 27 rfl dX6_init_25 (by decide) ?_
  refine xv_newi (z := 60) C 29 rfl (by decide) (by decide) w_79 ⟨(Nat.le_of_ble_eq_true rfl), (Nat.le_of_ble_eq_true rfl)⟩ dX6_init_27 (fun q27_4 => ?_)
  refine wv_eq (k2 := 4) (n2 := 140) rfl (Nat.eq_of_beq_eq_true rfl) (Nat.eq_of_beq_eq_true rfl) ?_
  show wv_ G X ([(q, .inr (6, [.ref q5_1, .ref q18_3, .null, .null, .null, .int (iI 0), .null, .int (iI 0)])), (q5_1, .inr (1, [.ref (u9_2 1), .int (iI 0), .int (iI 0), .int (iI 0)])), ((u9_2 1), .inl (G.1.1 101, (br_ 16 (-1)).toNat, .inl (fun j => iI (br_ 16 (j : Nat))))), (q18_3, .inl (G.1.1 103, 60, .inr (.inr (.inr (.inr (fun _ => none)))))), (q27_4, .inl (G.1.1 100, 60, .inl (fun _ => iI 0)))]) 4 140 29 [(0, .ref q)] [.ref q27_4, .ref q]
  refine xv_putF (fi := 2) C NI 32 rfl 0 (fs := [.ref q5_1, .ref q18_3, .null, .null, .null, .int (iI 0), .null, .int (iI 0)]) rfl rfl in_X6 tyX6 tyX6_ok nmX6 (by decide) (Nat.le_of_ble_eq_true rfl) ⟨rfl, rfl, rfl⟩ rfl rfl w_301 dX6_init_29 ?_
  show wv_ G X ([(q, .inr (6, [.ref q5_1, .ref q18_3, .ref q27_4, .null, .null, .int (iI 0), .null, .int (iI 0)])), (q5_1, .inr (1, [.ref (u9_2 1), .int (iI 0), .int (iI 0), .int (iI 0)])), ((u9_2 1), .inl (G.1.1 101, (br_ 16 (-1)).toNat, .inl (fun j => iI (br_ 16 (j : Nat))))), (q18_3, .inl (G.1.1 103, 60, .inr (.inr (.inr (.inr (fun _ => none)))))), (q27_4, .inl (G.1.1 100, 60, .inl (fun _ => iI 0)))]) 4 140 32 [(0, .ref q)] []
  refine xx_aload_n C 33 rfl 0 dX6_init_32 rfl rfl ?_
  refine xx_bipush C 35 rfl dX6_init_33 (by decide) ?_
  refine xv_newi (z := 60) C 37 rfl (by decide) (by decide) w_79 ⟨(Nat.le_of_ble_eq_true rfl), (Nat.le_of_ble_eq_true rfl)⟩ dX6_init_35 (fun q35_5 => ?_)
  refine wv_eq (k2 := 5) (n2 := 200) rfl (Nat.eq_of_beq_eq_true rfl) (Nat.eq_of_beq_eq_true rfl) ?_
  show wv_ G X ([(q, .inr (6, [.ref q5_1, .ref q18_3, .ref q27_4, .null, .null, .int (iI 0), .null, .int (iI 0)])), (q5_1, .inr (1, [.ref (u9_2 1), .int (iI 0), .int (iI 0), .int (iI 0)])), ((u9_2 1), .inl (G.1.1 101, (br_ 16 (-1)).toNat, .inl (fun j => iI (br_ 16 (j : Nat))))), (q18_3, .inl (G.1.1 103, 60, .inr (.inr (.inr (.inr (fun _ => none)))))), (q27_4, .inl (G.1.1 100, 60, .inl (fun _ => iI 0))), (q35_5, .inl (G.1.1 100, 60, .inl (fun _ => iI 0)))]) 5 200 37 [(0, .ref q)] [.ref q35_5, .ref q]
  refine xv_putF (fi := 3) C NI 40 rfl 0 (fs := [.ref q5_1, .ref q18_3, .ref q27_4, .null, .null, .int (iI 0), .null, .int (iI 0)]) rfl rfl in_X6 tyX6 tyX6_ok nmX6 (by decide) (Nat.le_of_ble_eq_true rfl) ⟨rfl, rfl, rfl⟩ rfl rfl w_303 dX6_init_37 ?_
  show wv_ G X ([(q, .inr (6, [.ref q5_1, .ref q18_3, .ref q27_4, .ref q35_5, .null, .int (iI 0), .null, .int (iI 0)])), (q5_1, .inr (1, [.ref (u9_2 1), .int (iI 0), .int (iI 0), .int (iI 0)])), ((u9_2 1), .inl (G.1.1 101, (br_ 16 (-1)).toNat, .inl (fun j => iI (br_ 16 (j : Nat))))), (q18_3, .inl (G.1.1 103, 60, .inr (.inr (.inr (.inr (fun _ => none)))))), (q27_4, .inl (G.1.1 100, 60, .inl (fun _ => iI 0))), (q35_5, .inl (G.1.1 100, 60, .inl (fun _ => iI 0)))]) 5 200 40 [(0, .ref q)] []
  refine xx_aload_n C 41 rfl 0 dX6_init_40 rfl rfl ?_
  refine xx_bipush C 43 rfl dX6_init_41 (by decide) ?_
  refine xv_newi (z := 60) C 45 rfl (by decide) (by decide) w_79 ⟨(Nat.le_of_ble_eq_true rfl), (Nat.le_of_ble_eq_true rfl)⟩ dX6_init_43 (fun q43_6 => ?_)
  refine wv_eq (k2 := 6) (n2 := 260) rfl (Nat.eq_of_beq_eq_true rfl) (Nat.eq_of_beq_eq_true rfl) ?_
  show wv_ G X ([(q, .inr (6, [.ref q5_1, .ref q18_3, .ref q27_4, .ref q35_5, .null, .int (iI 0), .null, .int (iI 0)])), (q5_1, .inr (1, [.ref (u9_2 1), .int (iI 0), .int (iI 0), .int (iI 0)])), ((u9_2 1), .inl (G.1.1 101, (br_ 16 (-1)).toNat, .inl (fun j => iI (br_ 16 (j : Nat))))), (q18_3, .inl (G.1.1 103, 60, .inr (.inr (.inr (.inr (fun _ => none)))))), (q27_4, .inl (G.1.1 100, 60, .inl (fun _ => iI 0))), (q35_5, .inl (G.1.1 100, 60, .inl (fun _ => iI 0))), (q43_6, .inl (G.1.1 100, 60, .inl (fun _ => iI 0)))]) 6 260 45 [(0, .ref q)] [.ref q43_6, .ref q]
  refine xv_putF (fi := 4) C NI 48 rfl 0 (fs := [.ref q5_1, .ref q18_3, .ref q27_4, .ref q35_5, .null, .int (iI 0), .null, .int (iI 0)]) rfl rfl in_X6 tyX6 tyX6_ok nmX6 (by decide) (Nat.le_of_ble_eq_true rfl) ⟨rfl, rfl, rfl⟩ rfl rfl w_305 dX6_init_45 ?_
  show wv_ G X ([(q, .inr (6, [.ref q5_1, .ref q18_3, .ref q27_4, .ref q35_5, .ref q43_6, .int (iI 0), .null, .int (iI 0)])), (q5_1, .inr (1, [.ref (u9_2 1), .int (iI 0), .int (iI 0), .int (iI 0)])), ((u9_2 1), .inl (G.1.1 101, (br_ 16 (-1)).toNat, .inl (fun j => iI (br_ 16 (j : Nat))))), (q18_3, .inl (G.1.1 103, 60, .inr (.inr (.inr (.inr (fun _ => none)))))), (q27_4, .inl (G.1.1 100, 60, .inl (fun _ => iI 0))), (q35_5, .inl (G.1.1 100, 60, .inl (fun _ => iI 0))), (q43_6, .inl (G.1.1 100, 60, .inl (fun _ => iI 0)))]) 6 260 48 [(0, .ref q)] []
  refine xx_aload_n C 49 rfl 0 dX6_init_48 rfl rfl ?_
  refine xx_iconst C 50 rfl dX6_init_49 ?_
  refine xv_put (fi := 5) C 53 rfl 0 (fs := [.ref q5_1, .ref q18_3, .ref q27_4, .ref q35_5, .ref q43_6, .int (iI 0), .null, .int (iI 0)]) rfl rfl in_X6 tyX6 tyX6_ok nmX6 (by decide) (Nat.le_of_ble_eq_true rfl) ⟨rfl, rfl⟩ rfl rfl w_307 dX6_init_50 ?_
  show wv_ G X ([(q, .inr (6, [.ref q5_1, .ref q18_3, .ref q27_4, .ref q35_5, .ref q43_6, .int (iI 0), .null, .int (iI 0)])), (q5_1, .inr (1, [.ref (u9_2 1), .int (iI 0), .int (iI 0), .int (iI 0)])), ((u9_2 1), .inl (G.1.1 101, (br_ 16 (-1)).toNat, .inl (fun j => iI (br_ 16 (j : Nat))))), (q18_3, .inl (G.1.1 103, 60, .inr (.inr (.inr (.inr (fun _ => none)))))), (q27_4, .inl (G.1.1 100, 60, .inl (fun _ => iI 0))), (q35_5, .inl (G.1.1 100, 60, .inl (fun _ => iI 0))), (q43_6, .inl (G.1.1 100, 60, .inl (fun _ => iI 0)))]) 6 260 53 [(0, .ref q)] []
  refine xx_aload_n C 54 rfl 0 dX6_init_53 rfl rfl ?_
  refine xx_iconst C 55 rfl dX6_init_54 ?_
  refine xv_newi (z := 3) C 57 rfl (by decide) (by decide) w_79 ⟨(Nat.le_of_ble_eq_true rfl), (Nat.le_of_ble_eq_true rfl)⟩ dX6_init_55 (fun q55_7 => ?_)
  refine wv_eq (k2 := 7) (n2 := 263) rfl (Nat.eq_of_beq_eq_true rfl) (Nat.eq_of_beq_eq_true rfl) ?_
  show wv_ G X ([(q, .inr (6, [.ref q5_1, .ref q18_3, .ref q27_4, .ref q35_5, .ref q43_6, .int (iI 0), .null, .int (iI 0)])), (q5_1, .inr (1, [.ref (u9_2 1), .int (iI 0), .int (iI 0), .int (iI 0)])), ((u9_2 1), .inl (G.1.1 101, (br_ 16 (-1)).toNat, .inl (fun j => iI (br_ 16 (j : Nat))))), (q18_3, .inl (G.1.1 103, 60, .inr (.inr (.inr (.inr (fun _ => none)))))), (q27_4, .inl (G.1.1 100, 60, .inl (fun _ => iI 0))), (q35_5, .inl (G.1.1 100, 60, .inl (fun _ => iI 0))), (q43_6, .inl (G.1.1 100, 60, .inl (fun _ => iI 0))), (q55_7, .inl (G.1.1 100, 3, .inl (fun _ => iI 0)))]) 7 263 57 [(0, .ref q)] [.ref q55_7, .ref q]
  refine xv_putF (fi := 6) C NI 60 rfl 0 (fs := [.ref q5_1, .ref q18_3, .ref q27_4, .ref q35_5, .ref q43_6, .int (iI 0), .null, .int (iI 0)]) rfl rfl in_X6 tyX6 tyX6_ok nmX6 (by decide) (Nat.le_of_ble_eq_true rfl) ⟨rfl, rfl, rfl⟩ rfl rfl w_309 dX6_init_57 ?_
  show wv_ G X ([(q, .inr (6, [.ref q5_1, .ref q18_3, .ref q27_4, .ref q35_5, .ref q43_6, .int (iI 0), .ref q55_7, .int (iI 0)])), (q5_1, .inr (1, [.ref (u9_2 1), .int (iI 0), .int (iI 0), .int (iI 0)])), ((u9_2 1), .inl (G.1.1 101, (br_ 16 (-1)).toNat, .inl (fun j => iI (br_ 16 (j : Nat))))), (q18_3, .inl (G.1.1 103, 60, .inr (.inr (.inr (.inr (fun _ => none)))))), (q27_4, .inl (G.1.1 100, 60, .inl (fun _ => iI 0))), (q35_5, .inl (G.1.1 100, 60, .inl (fun _ => iI 0))), (q43_6, .inl (G.1.1 100, 60, .inl (fun _ => iI 0))), (q55_7, .inl (G.1.1 100, 3, .inl (fun _ => iI 0)))]) 7 263 60 [(0, .ref q)] []
  refine xx_aload_n C 61 rfl 0 dX6_init_60 rfl rfl ?_
  refine xx_iconst C 62 rfl dX6_init_61 ?_
  refine xv_put (fi := 7) C 65 rfl 0 (fs := [.ref q5_1, .ref q18_3, .ref q27_4, .ref q35_5, .ref q43_6, .int (iI 0), .ref q55_7, .int (iI 0)]) rfl rfl in_X6 tyX6 tyX6_ok nmX6 (by decide) (Nat.le_of_ble_eq_true rfl) ⟨rfl, rfl⟩ rfl rfl w_310 dX6_init_62 ?_
  show wv_ G X ([(q, .inr (6, [.ref q5_1, .ref q18_3, .ref q27_4, .ref q35_5, .ref q43_6, .int (iI 0), .ref q55_7, .int (iI 0)])), (q5_1, .inr (1, [.ref (u9_2 1), .int (iI 0), .int (iI 0), .int (iI 0)])), ((u9_2 1), .inl (G.1.1 101, (br_ 16 (-1)).toNat, .inl (fun j => iI (br_ 16 (j : Nat))))), (q18_3, .inl (G.1.1 103, 60, .inr (.inr (.inr (.inr (fun _ => none)))))), (q27_4, .inl (G.1.1 100, 60, .inl (fun _ => iI 0))), (q35_5, .inl (G.1.1 100, 60, .inl (fun _ => iI 0))), (q43_6, .inl (G.1.1 100, 60, .inl (fun _ => iI 0))), (q55_7, .inl (G.1.1 100, 3, .inl (fun _ => iI 0)))]) 7 263 65 [(0, .ref q)] []
  show wv_ G X ((fun (q : Nat) (u : Nat → Nat) => [(q, .inr (6, [.ref (u 1), .ref (u 3), .ref (u 4), .ref (u 5), .ref (u 6), .int (iI 0), .ref (u 7), .int (iI 0)])), ((u 1), .inr (1, [.ref (u 2), .int (iI 0), .int (iI 0), .int (iI 0)])), ((u 2), .inl (G.1.1 101, (br_ 16 (-1)).toNat, .inl (fun j => iI (br_ 16 (j : Nat))))), ((u 3), .inl (G.1.1 103, 60, .inr (.inr (.inr (.inr (fun _ => none)))))), ((u 4), .inl (G.1.1 100, 60, .inl (fun _ => iI 0))), ((u 5), .inl (G.1.1 100, 60, .inl (fun _ => iI 0))), ((u 6), .inl (G.1.1 100, 60, .inl (fun _ => iI 0))), ((u 7), .inl (G.1.1 100, 3, .inl (fun _ => iI 0)))]) q (fun j => ([q, q5_1, (u9_2 1), q18_3, q27_4, q35_5, q43_6, q55_7] : List Nat).getD j 0)) 7 263 65 [(0, .ref q)] []
  exact xv_ret (w := (fun (q : Nat) (u : Nat → Nat) => [(q, .inr (6, [.ref (u 1), .ref (u 3), .ref (u 4), .ref (u 5), .ref (u 6), .int (iI 0), .ref (u 7), .int (iI 0)])), ((u 1), .inr (1, [.ref (u 2), .int (iI 0), .int (iI 0), .int (iI 0)])), ((u 2), .inl (G.1.1 101, (br_ 16 (-1)).toNat, .inl (fun j => iI (br_ 16 (j : Nat))))), ((u 3), .inl (G.1.1 103, 60, .inr (.inr (.inr (.inr (fun _ => none)))))), ((u 4), .inl (G.1.1 100, 60, .inl (fun _ => iI 0))), ((u 5), .inl (G.1.1 100, 60, .inl (fun _ => iI 0))), ((u 6), .inl (G.1.1 100, 60, .inl (fun _ => iI 0))), ((u 7), .inl (G.1.1 100, 3, .inl (fun _ => iI 0)))]) q) (k := 7) (n := 263) C E rfl (fun j => ([q, q5_1, (u9_2 1), q18_3, q27_4, q35_5, q43_6, q55_7] : List Nat).getD j 0) ⟨(Nat.le_of_ble_eq_true rfl), (Nat.le_of_ble_eq_true rfl)⟩ dX6_init_65

theorem dX5_init_0 : decode cX5_init 0 = .ok (.aload_n 0, 1) := by decide +kernel
theorem dX5_init_1 : decode cX5_init 1 = .ok (.invokespecial 3, 3) := by decide +kernel
theorem dX5_init_4 : decode cX5_init 4 = .ok (.aload_n 0, 1) := by decide +kernel
theorem dX5_init_5 : decode cX5_init 5 = .ok (.new 9, 3) := by decide +kernel
theorem dX5_init_8 : decode cX5_init 8 = .ok (.dup, 1) := by decide +kernel
theorem dX5_init_9 : decode cX5_init 9 = .ok (.invokespecial 11, 3) := by decide +kernel
theorem dX5_init_12 : decode cX5_init 12 = .ok (.putfield 12, 3) := by decide +kernel
theorem dX5_init_15 : decode cX5_init 15 = .ok (.return_, 1) := by decide +kernel
set_option maxHeartbeats 4000000 in
set_option maxRecDepth 100000 in
theorem i_X5 {G : gp_} : mc_ yX5_init cX5_init 1 ({ frames := 3, cells := 2, slots := 20, locals := 53 } : Room) G [] (.inr (5, [.null])) (S := Nat → Nat) (fun (q : Nat) (u : Nat → Nat) => [(q, .inr (5, [.ref (u 1)])), ((u 1), .inr (1, [.ref (u 2), .int (iI 0), .int (iI 0), .int (iI 0)])), ((u 2), .inl (G.1.1 101, (br_ 16 (-1)).toNat, .inl (fun j => iI (br_ 16 (j : Nat)))))]) := by
  refine mc_in (own := "UrnHeap$Line") (by decide) rfl (fun _ => (Nat.le_of_ble_eq_true rfl)) (fun X q C NI E => ?_)
  have NI := NI rfl
  show wv_ G X [(q, .inr (5, [.null]))] 0 0 0 [(0, .ref q)] []
  refine xx_aload_n C 1 rfl 0 dX5_init_0 rfl rfl ?_
  refine xx_obj C 4 rfl ⟨w_333, w_56, w_57⟩ ⟨(Nat.le_of_ble_eq_true rfl), (Nat.le_of_ble_eq_true rfl)⟩ dX5_init_1 ?_
  refine xx_aload_n C 5 rfl 0 dX5_init_4 rfl rfl ?_
  refine xv_new (ci := 1) (fs := [.null, .int (iI 0), .int (iI 0), .int (iI 0)]) C 8 rfl in_J4 tyJ4 tyJ4_ok rfl (fun j hj => by rcases (show j = 0 ∨ j = 1 ∨ j = 2 ∨ j = 3 by omega) with rfl | rfl | rfl | rfl <;> rfl) ⟨w_334, w_264, w_36⟩ ⟨(Nat.le_of_ble_eq_true rfl), (Nat.le_of_ble_eq_true rfl)⟩ dX5_init_5 (fun q5_1 => ?_)
  show wv_ G X ([(q, .inr (5, [.null])), (q5_1, .inr (1, [.null, .int (iI 0), .int (iI 0), .int (iI 0)]))]) 1 4 8 [(0, .ref q)] [.ref q5_1, .ref q]
  refine xx_dup C 9 rfl dX5_init_8 rfl ?_
  refine xv_ctor (k := 1) (n := 4) (e := .inr (1, [.null, .int (iI 0), .int (iI 0), .int (iI 0)])) (ws := [(q, .inr (5, [.null]))]) (q := q5_1) (st := [.ref q5_1, .ref q]) (As := []) C 12 rfl ca_J4_init_da8c8 ⟨rfl, w_266⟩ w_335 rfl ⟨(Nat.le_of_ble_eq_true rfl), (Nat.le_of_ble_eq_true rfl)⟩ ⟨(Nat.le_of_ble_eq_true rfl), (Nat.le_of_ble_eq_true rfl)⟩ (Nat.le_of_ble_eq_true rfl) dX5_init_9 (i_J4) (fun u9_2 => ?_) rfl
  refine wv_eq (k2 := 2) (n2 := 20) rfl (Nat.eq_of_beq_eq_true rfl) (Nat.eq_of_beq_eq_true rfl) ?_
  show wv_ G X ([(q, .inr (5, [.null])), (q5_1, .inr (1, [.ref (u9_2 1), .int (iI 0), .int (iI 0), .int (iI 0)])), ((u9_2 1), .inl (G.1.1 101, (br_ 16 (-1)).toNat, .inl (fun j => iI (br_ 16 (j : Nat)))))]) 2 20 12 [(0, .ref q)] [.ref q5_1, .ref q]
  refine xv_putF (fi := 0) C NI 15 rfl 0 (fs := [.null]) rfl rfl in_X5 tyX5 tyX5_ok nmX5 (by decide) (Nat.le_of_ble_eq_true rfl) ⟨rfl, rfl, rfl⟩ rfl rfl w_336 dX5_init_12 ?_
  show wv_ G X ([(q, .inr (5, [.ref q5_1])), (q5_1, .inr (1, [.ref (u9_2 1), .int (iI 0), .int (iI 0), .int (iI 0)])), ((u9_2 1), .inl (G.1.1 101, (br_ 16 (-1)).toNat, .inl (fun j => iI (br_ 16 (j : Nat)))))]) 2 20 15 [(0, .ref q)] []
  show wv_ G X ((fun (q : Nat) (u : Nat → Nat) => [(q, .inr (5, [.ref (u 1)])), ((u 1), .inr (1, [.ref (u 2), .int (iI 0), .int (iI 0), .int (iI 0)])), ((u 2), .inl (G.1.1 101, (br_ 16 (-1)).toNat, .inl (fun j => iI (br_ 16 (j : Nat)))))]) q (fun j => ([q, q5_1, (u9_2 1)] : List Nat).getD j 0)) 2 20 15 [(0, .ref q)] []
  exact xv_ret (w := (fun (q : Nat) (u : Nat → Nat) => [(q, .inr (5, [.ref (u 1)])), ((u 1), .inr (1, [.ref (u 2), .int (iI 0), .int (iI 0), .int (iI 0)])), ((u 2), .inl (G.1.1 101, (br_ 16 (-1)).toNat, .inl (fun j => iI (br_ 16 (j : Nat)))))]) q) (k := 2) (n := 20) C E rfl (fun j => ([q, q5_1, (u9_2 1)] : List Nat).getD j 0) ⟨(Nat.le_of_ble_eq_true rfl), (Nat.le_of_ble_eq_true rfl)⟩ dX5_init_15

