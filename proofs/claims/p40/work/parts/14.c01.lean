/-! a text builder becomes a string (written by wip/gen40/strgen.py) -/
theorem w_650 : Cond.methodLink "java/util/Arrays" 310 ⟨"[B", "clone", "()Ljava/lang/Object;"⟩ ∈ gT_ := gm_ 650 (by decide +kernel)
theorem w_651 : Cond.sameMethod "[B" "java/lang/Object" "clone" "()Ljava/lang/Object;" ∈ gT_ := gm_ 651 (by decide +kernel)
theorem w_652 : Cond.native ⟨"java/lang/Object", "clone", "()Ljava/lang/Object;"⟩ ∈ gT_ := gm_ 652 (by decide +kernel)
theorem w_653 : Cond.instanceMethod ⟨"java/lang/Object", "clone", "()Ljava/lang/Object;"⟩ ∈ gT_ := gm_ 653 (by decide +kernel)
theorem w_654 : Cond.selects "[B" ⟨"[B", "clone", "()Ljava/lang/Object;"⟩ ⟨"java/lang/Object", "clone", "()Ljava/lang/Object;"⟩ ∈ gT_ := gm_ 654 (by decide +kernel)
theorem w_656 : Cond.classLink "java/util/Arrays" 311 "[B" ∈ gT_ := gm_ 656 (by decide +kernel)
theorem w_789 : Cond.methodLink "java/util/Arrays" 343 yJ7_checkLength_df160 ∈ gT_ := gm_ 789 (by decide +kernel)
theorem w_786 : Cond.methodLink "java/util/Arrays" 339 yJ7_copyOfRangeByte_39247 ∈ gT_ := gm_ 786 (by decide +kernel)
theorem w_775 : Cond.methodLink "java/lang/String" 1 Lib.objectInit ∈ gT_ := gm_ 775 (by decide +kernel)
theorem w_776 : Cond.methodLink "java/lang/String" 552 yJ5_getValue_6d5f1 ∈ gT_ := gm_ 776 (by decide +kernel)
theorem w_1194 : Cond.selects "java/lang/StringBuilder" yJ5_length_8abf5 yJ4_length_8abf5 ∈ gT_ := gm_ 1194 (by decide +kernel)
theorem w_781 : Cond.methodLink "java/lang/String" 549 yJ5_length_8abf5 ∈ gT_ := gm_ 781 (by decide +kernel)
theorem w_782 : Cond.methodLink "java/lang/String" 1047 yJ5_isLatin1_aae02 ∈ gT_ := gm_ 782 (by decide +kernel)
theorem w_783 : Cond.methodLink "java/lang/String" 54 yJ7_copyOfRange_39247 ∈ gT_ := gm_ 783 (by decide +kernel)
theorem w_773 : Cond.instanceMethod yJ0_init_db425 ∈ gT_ := gm_ 773 (by decide +kernel)
theorem w_772 : Cond.methodLink "java/lang/String" 489 yJ0_init_db425 ∈ gT_ := gm_ 772 (by decide +kernel)
theorem w_767 : Cond.classLink "java/lang/StringBuilder" 18 "java/lang/String" ∈ gT_ := gm_ 767 (by decide +kernel)
theorem w_768 : Cond.instantiable "java/lang/String" 4 ∈ gT_ := gm_ 768 (by decide +kernel)
theorem w_770 : Cond.instanceMethod yJ0_init_81219 ∈ gT_ := gm_ 770 (by decide +kernel)
theorem w_769 : Cond.methodLink "java/lang/StringBuilder" 137 yJ0_init_81219 ∈ gT_ := gm_ 769 (by decide +kernel)
theorem w_791 : Cond.code yJ7_checkLength_df160 cJ7_checkLength_df160 2 none ∈ gT_ := gm_ 791 (by decide +kernel)
theorem w_790 : Cond.static yJ7_checkLength_df160 ∈ gT_ := gm_ 790 (by decide +kernel)
theorem w_788 : Cond.code yJ7_copyOfRangeByte_39247 cJ7_copyOfRangeByte_39247 5 (some (Jvm.ClassFile.FieldType.array Jvm.ClassFile.FieldType.byte)) ∈ gT_ := gm_ 788 (by decide +kernel)
theorem w_787 : Cond.static yJ7_copyOfRangeByte_39247 ∈ gT_ := gm_ 787 (by decide +kernel)
theorem w_785 : Cond.code yJ7_copyOfRange_39247 cJ7_copyOfRange_39247 3 (some (Jvm.ClassFile.FieldType.array Jvm.ClassFile.FieldType.byte)) ∈ gT_ := gm_ 785 (by decide +kernel)
theorem w_784 : Cond.static yJ7_copyOfRange_39247 ∈ gT_ := gm_ 784 (by decide +kernel)
theorem w_774 : Cond.code yJ0_init_db425 cJ0_init_db425 5 none ∈ gT_ := gm_ 774 (by decide +kernel)
theorem w_771 : Cond.code yJ0_init_81219 cJ0_init_81219 2 none ∈ gT_ := gm_ 771 (by decide +kernel)
theorem w_766 : Cond.code yJ4_toString_0e30d cJ4_toString_0e30d 1 (some (Jvm.ClassFile.FieldType.object "java/lang/String")) ∈ gT_ := gm_ 766 (by decide +kernel)
theorem w_764 : Cond.instanceMethod yJ4_toString_0e30d ∈ gT_ := gm_ 764 (by decide +kernel)
theorem w_765 : Cond.selects "java/lang/StringBuilder" yJ4_toString_0e30d yJ4_toString_0e30d ∈ gT_ := gm_ 765 (by decide +kernel)
theorem w_780 : Cond.code yJ5_getValue_6d5f1 cJ5_getValue_6d5f1 1 (some (Jvm.ClassFile.FieldType.array Jvm.ClassFile.FieldType.byte)) ∈ gT_ := gm_ 780 (by decide +kernel)
theorem w_778 : Cond.sameMethod "java/lang/AbstractStringBuilder" "java/lang/AbstractStringBuilder" "getValue" "()[B" ∈ gT_ := gm_ 778 (by decide +kernel)
theorem w_777 : Cond.instanceMethod yJ5_getValue_6d5f1 ∈ gT_ := gm_ 777 (by decide +kernel)
theorem w_779 : Cond.selects "java/lang/StringBuilder" yJ5_getValue_6d5f1 yJ5_getValue_6d5f1 ∈ gT_ := gm_ 779 (by decide +kernel)
theorem ca_J7_checkLength_df160 : ca_ yJ7_checkLength_df160 cJ7_checkLength_df160 2 none 2 := ⟨w_28, w_791, by decide, by decide, by decide +kernel⟩
theorem cs_J7_checkLength_df160 : Cond.static yJ7_checkLength_df160 ∈ gT_ := w_790
theorem ca_J7_copyOfRangeByte_39247 : ca_ yJ7_copyOfRangeByte_39247 cJ7_copyOfRangeByte_39247 5 (some (Jvm.ClassFile.FieldType.array Jvm.ClassFile.FieldType.byte)) 3 := ⟨w_28, w_788, by decide, by decide, by decide +kernel⟩
theorem cs_J7_copyOfRangeByte_39247 : Cond.static yJ7_copyOfRangeByte_39247 ∈ gT_ := w_787
theorem ca_J7_copyOfRange_39247 : ca_ yJ7_copyOfRange_39247 cJ7_copyOfRange_39247 3 (some (Jvm.ClassFile.FieldType.array Jvm.ClassFile.FieldType.byte)) 3 := ⟨w_28, w_785, by decide, by decide, by decide +kernel⟩
theorem cs_J7_copyOfRange_39247 : Cond.static yJ7_copyOfRange_39247 ∈ gT_ := w_784
theorem ca_J0_init_db425 : ca_ yJ0_init_db425 cJ0_init_db425 5 none 2 := ⟨w_37, w_774, by decide, by decide, by decide +kernel⟩
theorem ca_J0_init_81219 : ca_ yJ0_init_81219 cJ0_init_81219 2 none 1 := ⟨w_37, w_771, by decide, by decide, by decide +kernel⟩
theorem ca_J4_toString_0e30d : ca_ yJ4_toString_0e30d cJ4_toString_0e30d 1 (some (Jvm.ClassFile.FieldType.object "java/lang/String")) 0 := ⟨w_36, w_766, by decide, by decide, by decide +kernel⟩
theorem cv_J4_toString_0e30d : cv_ yJ4_toString_0e30d := ⟨w_764, w_765⟩
theorem ca_J5_getValue_6d5f1 : ca_ yJ5_getValue_6d5f1 cJ5_getValue_6d5f1 1 (some (Jvm.ClassFile.FieldType.array Jvm.ClassFile.FieldType.byte)) 0 := ⟨w_35, w_780, by decide, by decide, by decide +kernel⟩
theorem cu_J5_getValue_6d5f1 : cu_ yJ5_getValue_6d5f1 := ⟨w_778, w_777, by decide⟩
theorem se_J5_getValue_6d5f1 {G : gp_} : se_ G "java/lang/StringBuilder" yJ5_getValue_6d5f1 yJ5_getValue_6d5f1 := se_w w_779
theorem wS_1 {G : gp_} {ad : Nat → Nat} {μ : mu_T} (hcap : μ 1 (-1) = 16) : (wl_ 2 ad (ceS G ad) μ)[1]? = some (ad 1, .inl (G.1.1 101, 16, .inl (fun j => iI (μ 1 (j : Nat))))) := by
  rw [wl_get (by decide)]
  show some (ad 1, (.inl (G.1.1 101, (μ 1 (-1)).toNat, .inl (fun j => iI (μ 1 (j : Nat)))) : va_E)) = _
  rw [hcap]
  rfl
theorem wS_0 {G : gp_} {ad : Nat → Nat} {μ : mu_T} : (wl_ 2 ad (ceS G ad) μ)[0]? = some (ad 0, .inr (1, [.ref (ad 1), .int (iI (μ 0 1)), .int (iI (μ 0 2)), .int (iI (μ 0 3))])) := rfl
theorem dJ7_copyOfRangeByte_39247_0 : decode cJ7_copyOfRangeByte_39247 0 = .ok (.iload_n 1, 1) := by decide +kernel
theorem dJ7_copyOfRangeByte_39247_1 : decode cJ7_copyOfRangeByte_39247 1 = .ok (.iload_n 2, 1) := by decide +kernel
theorem dJ7_copyOfRangeByte_39247_2 : decode cJ7_copyOfRangeByte_39247 2 = .ok (.invokestatic 343, 3) := by decide +kernel
theorem dJ7_copyOfRangeByte_39247_5 : decode cJ7_copyOfRangeByte_39247 5 = .ok (.iload_n 2, 1) := by decide +kernel
theorem dJ7_copyOfRangeByte_39247_6 : decode cJ7_copyOfRangeByte_39247 6 = .ok (.iload_n 1, 1) := by decide +kernel
theorem dJ7_copyOfRangeByte_39247_7 : decode cJ7_copyOfRangeByte_39247 7 = .ok (.isub, 1) := by decide +kernel
theorem dJ7_copyOfRangeByte_39247_8 : decode cJ7_copyOfRangeByte_39247 8 = .ok (.istore_n 3, 1) := by decide +kernel
theorem dJ7_copyOfRangeByte_39247_9 : decode cJ7_copyOfRangeByte_39247 9 = .ok (.iload_n 3, 1) := by decide +kernel
theorem dJ7_copyOfRangeByte_39247_10 : decode cJ7_copyOfRangeByte_39247 10 = .ok (.newarray .byte, 2) := by decide +kernel
theorem dJ7_copyOfRangeByte_39247_12 : decode cJ7_copyOfRangeByte_39247 12 = .ok (.astore 4, 2) := by decide +kernel
theorem dJ7_copyOfRangeByte_39247_14 : decode cJ7_copyOfRangeByte_39247 14 = .ok (.aload_n 0, 1) := by decide +kernel
theorem dJ7_copyOfRangeByte_39247_15 : decode cJ7_copyOfRangeByte_39247 15 = .ok (.iload_n 1, 1) := by decide +kernel
theorem dJ7_copyOfRangeByte_39247_16 : decode cJ7_copyOfRangeByte_39247 16 = .ok (.aload 4, 2) := by decide +kernel
theorem dJ7_copyOfRangeByte_39247_18 : decode cJ7_copyOfRangeByte_39247 18 = .ok (.iconst 0, 1) := by decide +kernel
theorem dJ7_copyOfRangeByte_39247_19 : decode cJ7_copyOfRangeByte_39247 19 = .ok (.aload_n 0, 1) := by decide +kernel
theorem dJ7_copyOfRangeByte_39247_20 : decode cJ7_copyOfRangeByte_39247 20 = .ok (.arraylength, 1) := by decide +kernel
theorem dJ7_copyOfRangeByte_39247_21 : decode cJ7_copyOfRangeByte_39247 21 = .ok (.iload_n 1, 1) := by decide +kernel
theorem dJ7_copyOfRangeByte_39247_22 : decode cJ7_copyOfRangeByte_39247 22 = .ok (.isub, 1) := by decide +kernel
theorem dJ7_copyOfRangeByte_39247_23 : decode cJ7_copyOfRangeByte_39247 23 = .ok (.iload_n 3, 1) := by decide +kernel
theorem dJ7_copyOfRangeByte_39247_24 : decode cJ7_copyOfRangeByte_39247 24 = .ok (.invokestatic 304, 3) := by decide +kernel
theorem dJ7_copyOfRangeByte_39247_27 : decode cJ7_copyOfRangeByte_39247 27 = .ok (.invokestatic 150, 3) := by decide +kernel
theorem dJ7_copyOfRangeByte_39247_30 : decode cJ7_copyOfRangeByte_39247 30 = .ok (.aload 4, 2) := by decide +kernel
theorem dJ7_copyOfRangeByte_39247_32 : decode cJ7_copyOfRangeByte_39247 32 = .ok (.areturn, 1) := by decide +kernel
set_option maxHeartbeats 4000000 in
set_option maxRecDepth 100000 in
theorem c_cprB {G : gp_} {ad : Nat → Nat} {μ : mu_T} (hcap : μ 1 (-1) = 16) (hb : ∀ q : Nat, q < 16 → -128 ≤ μ 1 q ∧ μ 1 q ≤ 127) {n : Nat} (hn : n ≤ 16) : mw_ yJ7_copyOfRangeByte_39247 cJ7_copyOfRangeByte_39247 5 (some (.array .byte)) ({ frames := 1, cells := 1, slots := 16, locals := 41 } : Room) G [.ref (ad 1), .int (iI 0), .int (iI (n : Nat))] (wl_ 2 ad (ceS G ad) μ) (fun A => qwr_ G A (fun (v : Nat) => v) (fun (v : Nat) => wl_ 2 ad (ceS G ad) μ ++ [(v, .inl (G.1.1 101, n, .inl (fun j => iI (μ 1 (j : Nat)))))])) := by
  refine mw_in (own := "java/util/Arrays") (by decide) rfl (by exact Nat.le_of_ble_eq_true rfl) (fun X C _ E => ?_)
  show wv_ G X (wl_ 2 ad (ceS G ad) μ) 0 0 0 [(0, .ref (ad 1)), (1, .int (iI 0)), (2, .int (iI (n : Nat)))] []
  refine xx_iload_n C 1 rfl 1 dJ7_copyOfRangeByte_39247_0 rfl rfl ?_
  refine xx_iload_n C 2 rfl 2 dJ7_copyOfRangeByte_39247_1 rfl rfl ?_
  refine xw_cSv (As := [.int (iI 0), .int (iI (n : Nat))]) (st := []) C 5 rfl sw_a ca_J7_checkLength_df160 cs_J7_checkLength_df160 w_789 rfl ⟨(by exact Nat.le_of_ble_eq_true rfl), (by exact Nat.le_of_ble_eq_true rfl)⟩ ⟨(by exact Nat.le_of_ble_eq_true rfl), (by exact Nat.le_of_ble_eq_true rfl)⟩ (by exact Nat.le_of_ble_eq_true rfl) dJ7_copyOfRangeByte_39247_2 (mw_v (c_J7_checkLength_df160 (G := G) (ad := ad) μ 0 (n : Int) μ ?_)) (fun _ => ?_) rfl
  · unfold f_J7_checkLength_df160 lt_
    rw [if_pos ⟨⟨by omega, by omega⟩, by decide⟩, if_neg (by omega)]
  show wv_ G X (wl_ 2 ad (ceS G ad) μ) 0 0 5 [(0, .ref (ad 1)), (1, .int (iI 0)), (2, .int (iI (n : Nat)))] []
  refine xx_iload_n C 6 rfl 2 dJ7_copyOfRangeByte_39247_5 rfl rfl ?_
  refine xx_iload_n C 7 rfl 1 dJ7_copyOfRangeByte_39247_6 rfl rfl ?_
  refine xx_isub C 8 rfl dJ7_copyOfRangeByte_39247_7 ?_
  rw [Int.sub_zero]
  refine xx_istore_n (lv1 := [(3, .int (iI (n : Nat))), (0, .ref (ad 1)), (1, .int (iI 0)), (2, .int (iI (n : Nat)))]) C 9 rfl (by decide) dJ7_copyOfRangeByte_39247_8 rfl rfl ?_
  refine xx_iload_n C 10 rfl 0 dJ7_copyOfRangeByte_39247_9 rfl rfl ?_
  refine xv_newb (z := (n : Int)) C 12 rfl (by omega) (by omega) w_295 ⟨(by exact Nat.le_of_ble_eq_true rfl), (by show 0 + (n : Int).toNat ≤ 16; omega)⟩ dJ7_copyOfRangeByte_39247_10 (fun q => ?_)
  have e9 : (br_ (n : Int) (-1)).toNat = n := by show (if (-1 : Int) = -1 then (n : Int) else 0).toNat = n; rw [if_pos rfl]; omega
  rw [e9]
  refine xx_astore (lv1 := [(4, .ref q), (3, .int (iI (n : Nat))), (0, .ref (ad 1)), (1, .int (iI 0)), (2, .int (iI (n : Nat)))]) C 14 rfl (by decide) dJ7_copyOfRangeByte_39247_12 rfl ?_
  refine xx_aload_n C 15 rfl 2 dJ7_copyOfRangeByte_39247_14 rfl rfl ?_
  refine xx_iload_n C 16 rfl 3 dJ7_copyOfRangeByte_39247_15 rfl rfl ?_
  refine xx_aload C 18 rfl 0 dJ7_copyOfRangeByte_39247_16 rfl ?_
  refine xx_iconst C 19 rfl dJ7_copyOfRangeByte_39247_18 ?_
  refine xx_aload_n C 20 rfl 2 dJ7_copyOfRangeByte_39247_19 rfl rfl ?_
  refine xw_alen C 21 rfl 1 (yapp_l (wS_1 hcap)) dJ7_copyOfRangeByte_39247_20 ?_
  refine xx_iload_n C 22 rfl 3 dJ7_copyOfRangeByte_39247_21 rfl rfl ?_
  refine xx_isub C 23 rfl dJ7_copyOfRangeByte_39247_22 ?_
  refine xx_iload_n C 24 rfl 1 dJ7_copyOfRangeByte_39247_23 rfl rfl ?_
  refine xx_mmin (f := fun v => if v = (n : Int) then some () else none) (r := ()) C 27 rfl ⟨w_657, w_451, w_41, w_452⟩ ⟨(by exact Nat.le_of_ble_eq_true rfl), (by exact Nat.le_of_ble_eq_true rfl)⟩ ⟨(by exact Nat.le_of_ble_eq_true rfl), (by show 0 + (n : Int).toNat ≤ 16; omega)⟩ dJ7_copyOfRangeByte_39247_24 (by unfold mn_; rw [if_pos ⟨by decide, by omega, by omega⟩]; show (if (if (n : Int) < ((16 : Nat) : Int) - 0 then (n : Int) else ((16 : Nat) : Int) - 0) = (n : Int) then some () else none) = some (); rw [if_pos (by split <;> omega)]) (fun v hv => ?_)
  obtain rfl := (ck_e hv).1
  refine xw_copyb C 30 rfl 1 2 (yapp_l (wS_1 hcap)) rfl (by omega) (by omega) (by decide) (fun q9 h9 => fits_b (hb q9 (by omega))) ⟨w_658, w_421, w_420, w_40⟩ ⟨(by exact Nat.le_of_ble_eq_true rfl), (by exact Nat.le_of_ble_eq_true rfl)⟩ dJ7_copyOfRangeByte_39247_27 ?_
  refine xx_aload C 32 rfl 0 dJ7_copyOfRangeByte_39247_30 rfl ?_
  refine xw_ext (g := fun j => iI (μ 1 (j : Nat))) 2 rfl (fun j hj => if_pos hj) ?_
  exact xw_retr (o := fun (v : Nat) => v) (w := (fun (v : Nat) => wl_ 2 ad (ceS G ad) μ ++ [(v, .inl (G.1.1 101, n, .inl (fun j => iI (μ 1 (j : Nat)))))])) C E (Or.inr rfl) q rfl rfl ⟨(by exact Nat.le_of_ble_eq_true rfl), (by show 0 + (n : Int).toNat ≤ 16; omega)⟩ dJ7_copyOfRangeByte_39247_32
theorem dJ7_copyOfRange_39247_0 : decode cJ7_copyOfRange_39247 0 = .ok (.iload_n 1, 1) := by decide +kernel
theorem dJ7_copyOfRange_39247_1 : decode cJ7_copyOfRange_39247 1 = .ok (.ifCond .ne 9, 3) := by decide +kernel
theorem dJ7_copyOfRange_39247_4 : decode cJ7_copyOfRange_39247 4 = .ok (.iload_n 2, 1) := by decide +kernel
theorem dJ7_copyOfRange_39247_5 : decode cJ7_copyOfRange_39247 5 = .ok (.aload_n 0, 1) := by decide +kernel
theorem dJ7_copyOfRange_39247_6 : decode cJ7_copyOfRange_39247 6 = .ok (.arraylength, 1) := by decide +kernel
theorem dJ7_copyOfRange_39247_7 : decode cJ7_copyOfRange_39247 7 = .ok (.if_icmp .eq 10, 3) := by decide +kernel
theorem dJ7_copyOfRange_39247_10 : decode cJ7_copyOfRange_39247 10 = .ok (.aload_n 0, 1) := by decide +kernel
theorem dJ7_copyOfRange_39247_11 : decode cJ7_copyOfRange_39247 11 = .ok (.iload_n 1, 1) := by decide +kernel
theorem dJ7_copyOfRange_39247_12 : decode cJ7_copyOfRange_39247 12 = .ok (.iload_n 2, 1) := by decide +kernel
theorem dJ7_copyOfRange_39247_13 : decode cJ7_copyOfRange_39247 13 = .ok (.invokestatic 339, 3) := by decide +kernel
theorem dJ7_copyOfRange_39247_16 : decode cJ7_copyOfRange_39247 16 = .ok (.areturn, 1) := by decide +kernel
theorem dJ7_copyOfRange_39247_17 : decode cJ7_copyOfRange_39247 17 = .ok (.aload_n 0, 1) := by decide +kernel
theorem dJ7_copyOfRange_39247_18 : decode cJ7_copyOfRange_39247 18 = .ok (.invokevirtual 310, 3) := by decide +kernel
theorem dJ7_copyOfRange_39247_21 : decode cJ7_copyOfRange_39247 21 = .ok (.checkcast 311, 3) := by decide +kernel
theorem dJ7_copyOfRange_39247_24 : decode cJ7_copyOfRange_39247 24 = .ok (.areturn, 1) := by decide +kernel
set_option maxHeartbeats 4000000 in
set_option maxRecDepth 100000 in
theorem c_cpr {G : gp_} {ad : Nat → Nat} {μ : mu_T} (hcap : μ 1 (-1) = 16) (hb : ∀ q : Nat, q < 16 → -128 ≤ μ 1 q ∧ μ 1 q ≤ 127) {n : Nat} (hn : n ≤ 16) : mw_ yJ7_copyOfRange_39247 cJ7_copyOfRange_39247 3 (some (.array .byte)) ({ frames := 2, cells := 1, slots := 16, locals := 65 } : Room) G [.ref (ad 1), .int (iI 0), .int (iI (n : Nat))] (wl_ 2 ad (ceS G ad) μ) (fun A => qwr_ G A (fun (v : Nat) => v) (fun (v : Nat) => wl_ 2 ad (ceS G ad) μ ++ [(v, .inl (G.1.1 101, n, .inl (fun j => iI (μ 1 (j : Nat)))))])) := by
  refine mw_in (own := "java/util/Arrays") (by decide) rfl (by exact Nat.le_of_ble_eq_true rfl) (fun X C _ E => ?_)
  show wv_ G X (wl_ 2 ad (ceS G ad) μ) 0 0 0 [(0, .ref (ad 1)), (1, .int (iI 0)), (2, .int (iI (n : Nat)))] []
  refine xx_iload_n C 1 rfl 1 dJ7_copyOfRange_39247_0 rfl rfl ?_
  refine xx_if_ne (tgt := 10) (t := none) (f := some ()) (r := ()) C 4 rfl dJ7_copyOfRange_39247_1 (by decide) (by decide) (fun h => nn_ h) (fun _ => ?_)
  refine xx_iload_n C 5 rfl 2 dJ7_copyOfRange_39247_4 rfl rfl ?_
  refine xx_aload_n C 6 rfl 0 dJ7_copyOfRange_39247_5 rfl rfl ?_
  refine xw_alen C 7 rfl 1 (wS_1 hcap) dJ7_copyOfRange_39247_6 ?_
  by_cases h16 : n = 16
  · subst h16
    refine xx_icmp_eq (tgt := 17) (t := some ()) (f := none) (r := ()) C 10 rfl dJ7_copyOfRange_39247_7 (by decide) (by decide) (fun _ => ?_) (fun h => nn_ h)
    refine xx_aload_n C 18 rfl 0 dJ7_copyOfRange_39247_17 rfl rfl ?_
    refine xw_clone (n0 := 16) C 21 rfl 1 (wS_1 hcap) (fun q h9 => fits_b (hb q h9)) ⟨w_650, w_651, w_652, w_653, w_654⟩ ⟨(by exact Nat.le_of_ble_eq_true rfl), (by exact Nat.le_of_ble_eq_true rfl)⟩ ⟨(by exact Nat.le_of_ble_eq_true rfl), (by exact Nat.le_of_ble_eq_true rfl)⟩ dJ7_copyOfRange_39247_18 (fun q => ?_)
    refine xw_cast C 24 rfl 2 rfl w_656 dJ7_copyOfRange_39247_21 ?_
    exact xw_retr (o := fun (v : Nat) => v) (w := (fun (v : Nat) => wl_ 2 ad (ceS G ad) μ ++ [(v, .inl (G.1.1 101, 16, .inl (fun j => iI (μ 1 (j : Nat)))))])) C E (Or.inr rfl) q rfl rfl ⟨(by exact Nat.le_of_ble_eq_true rfl), (by exact Nat.le_of_ble_eq_true rfl)⟩ dJ7_copyOfRange_39247_24
  · refine xx_icmp_eq (tgt := 17) (t := none) (f := some ()) (r := ()) C 10 rfl dJ7_copyOfRange_39247_7 (by decide) (by unfold eq_; rw [if_neg (by omega)]; exact if_pos ⟨⟨by omega, by omega⟩, by decide⟩) (fun h => nn_ h) (fun _ => ?_)
    refine xx_aload_n C 11 rfl 0 dJ7_copyOfRange_39247_10 rfl rfl ?_
    refine xx_iload_n C 12 rfl 1 dJ7_copyOfRange_39247_11 rfl rfl ?_
    refine xx_iload_n C 13 rfl 2 dJ7_copyOfRange_39247_12 rfl rfl ?_
    refine xw_cSr (rm2 := ({ frames := 1, cells := 1, slots := 16, locals := 41 } : Room)) (As := [.ref (ad 1), .int (iI 0), .int (iI (n : Nat))]) (st := []) C 16 rfl sw_a ca_J7_copyOfRangeByte_39247 cs_J7_copyOfRangeByte_39247 w_786 rfl ⟨(by exact Nat.le_of_ble_eq_true rfl), (by exact Nat.le_of_ble_eq_true rfl)⟩ ⟨(by exact Nat.le_of_ble_eq_true rfl), (by exact Nat.le_of_ble_eq_true rfl)⟩ (by exact Nat.le_of_ble_eq_true rfl) dJ7_copyOfRange_39247_13 (c_cprB hcap hb hn) (fun q => ?_) rfl
    exact xw_retr (o := fun (v : Nat) => v) (w := (fun (v : Nat) => wl_ 2 ad (ceS G ad) μ ++ [(v, .inl (G.1.1 101, n, .inl (fun j => iI (μ 1 (j : Nat)))))])) C E (Or.inr rfl) q rfl rfl ⟨(by exact Nat.le_of_ble_eq_true rfl), (by exact Nat.le_of_ble_eq_true rfl)⟩ dJ7_copyOfRange_39247_16
theorem dJ0_init_db425_0 : decode cJ0_init_db425 0 = .ok (.aload_n 0, 1) := by decide +kernel
theorem dJ0_init_db425_1 : decode cJ0_init_db425 1 = .ok (.invokespecial 1, 3) := by decide +kernel
theorem dJ0_init_db425_4 : decode cJ0_init_db425 4 = .ok (.aload_n 1, 1) := by decide +kernel
theorem dJ0_init_db425_5 : decode cJ0_init_db425 5 = .ok (.invokevirtual 552, 3) := by decide +kernel
theorem dJ0_init_db425_8 : decode cJ0_init_db425 8 = .ok (.astore_n 3, 1) := by decide +kernel
theorem dJ0_init_db425_9 : decode cJ0_init_db425 9 = .ok (.aload_n 1, 1) := by decide +kernel
theorem dJ0_init_db425_10 : decode cJ0_init_db425 10 = .ok (.invokevirtual 549, 3) := by decide +kernel
theorem dJ0_init_db425_13 : decode cJ0_init_db425 13 = .ok (.istore 4, 2) := by decide +kernel
theorem dJ0_init_db425_15 : decode cJ0_init_db425 15 = .ok (.aload_n 1, 1) := by decide +kernel
theorem dJ0_init_db425_16 : decode cJ0_init_db425 16 = .ok (.invokevirtual 1047, 3) := by decide +kernel
theorem dJ0_init_db425_19 : decode cJ0_init_db425 19 = .ok (.ifCond .eq 22, 3) := by decide +kernel
theorem dJ0_init_db425_22 : decode cJ0_init_db425 22 = .ok (.aload_n 0, 1) := by decide +kernel
theorem dJ0_init_db425_23 : decode cJ0_init_db425 23 = .ok (.iconst 0, 1) := by decide +kernel
theorem dJ0_init_db425_24 : decode cJ0_init_db425 24 = .ok (.putfield 15, 3) := by decide +kernel
theorem dJ0_init_db425_27 : decode cJ0_init_db425 27 = .ok (.aload_n 0, 1) := by decide +kernel
theorem dJ0_init_db425_28 : decode cJ0_init_db425 28 = .ok (.aload_n 3, 1) := by decide +kernel
theorem dJ0_init_db425_29 : decode cJ0_init_db425 29 = .ok (.iconst 0, 1) := by decide +kernel
theorem dJ0_init_db425_30 : decode cJ0_init_db425 30 = .ok (.iload 4, 2) := by decide +kernel
theorem dJ0_init_db425_32 : decode cJ0_init_db425 32 = .ok (.invokestatic 54, 3) := by decide +kernel
theorem dJ0_init_db425_35 : decode cJ0_init_db425 35 = .ok (.putfield 9, 3) := by decide +kernel
theorem dJ0_init_db425_38 : decode cJ0_init_db425 38 = .ok (.goto 59, 3) := by decide +kernel
theorem dJ0_init_db425_41 : decode cJ0_init_db425 41 = .ok (.getstatic 38, 3) := by decide +kernel
theorem dJ0_init_db425_44 : decode cJ0_init_db425 44 = .ok (.ifCond .eq 35, 3) := by decide +kernel
theorem dJ0_init_db425_47 : decode cJ0_init_db425 47 = .ok (.aload_n 1, 1) := by decide +kernel
theorem dJ0_init_db425_48 : decode cJ0_init_db425 48 = .ok (.getfield 1048, 3) := by decide +kernel
theorem dJ0_init_db425_51 : decode cJ0_init_db425 51 = .ok (.ifCond .eq 28, 3) := by decide +kernel
theorem dJ0_init_db425_54 : decode cJ0_init_db425 54 = .ok (.aload_n 0, 1) := by decide +kernel
theorem dJ0_init_db425_55 : decode cJ0_init_db425 55 = .ok (.aload_n 3, 1) := by decide +kernel
theorem dJ0_init_db425_56 : decode cJ0_init_db425 56 = .ok (.iconst 0, 1) := by decide +kernel
theorem dJ0_init_db425_57 : decode cJ0_init_db425 57 = .ok (.iload 4, 2) := by decide +kernel
theorem dJ0_init_db425_59 : decode cJ0_init_db425 59 = .ok (.invokestatic 1051, 3) := by decide +kernel
theorem dJ0_init_db425_62 : decode cJ0_init_db425 62 = .ok (.putfield 9, 3) := by decide +kernel
theorem dJ0_init_db425_65 : decode cJ0_init_db425 65 = .ok (.aload_n 0, 1) := by decide +kernel
theorem dJ0_init_db425_66 : decode cJ0_init_db425 66 = .ok (.aload_n 0, 1) := by decide +kernel
theorem dJ0_init_db425_67 : decode cJ0_init_db425 67 = .ok (.getfield 9, 3) := by decide +kernel
theorem dJ0_init_db425_70 : decode cJ0_init_db425 70 = .ok (.iload 4, 2) := by decide +kernel
theorem dJ0_init_db425_72 : decode cJ0_init_db425 72 = .ok (.invokestatic 47, 3) := by decide +kernel
theorem dJ0_init_db425_75 : decode cJ0_init_db425 75 = .ok (.putfield 15, 3) := by decide +kernel
theorem dJ0_init_db425_78 : decode cJ0_init_db425 78 = .ok (.return_, 1) := by decide +kernel
theorem dJ0_init_db425_79 : decode cJ0_init_db425 79 = .ok (.aload_n 0, 1) := by decide +kernel
theorem dJ0_init_db425_80 : decode cJ0_init_db425 80 = .ok (.iconst 1, 1) := by decide +kernel
theorem dJ0_init_db425_81 : decode cJ0_init_db425 81 = .ok (.putfield 15, 3) := by decide +kernel
theorem dJ0_init_db425_84 : decode cJ0_init_db425 84 = .ok (.aload_n 0, 1) := by decide +kernel
theorem dJ0_init_db425_85 : decode cJ0_init_db425 85 = .ok (.aload_n 3, 1) := by decide +kernel
theorem dJ0_init_db425_86 : decode cJ0_init_db425 86 = .ok (.iconst 0, 1) := by decide +kernel
theorem dJ0_init_db425_87 : decode cJ0_init_db425 87 = .ok (.iload 4, 2) := by decide +kernel
theorem dJ0_init_db425_89 : decode cJ0_init_db425 89 = .ok (.iconst 1, 1) := by decide +kernel
theorem dJ0_init_db425_90 : decode cJ0_init_db425 90 = .ok (.ishl, 1) := by decide +kernel
theorem dJ0_init_db425_91 : decode cJ0_init_db425 91 = .ok (.invokestatic 54, 3) := by decide +kernel
theorem dJ0_init_db425_94 : decode cJ0_init_db425 94 = .ok (.putfield 9, 3) := by decide +kernel
theorem dJ0_init_db425_97 : decode cJ0_init_db425 97 = .ok (.return_, 1) := by decide +kernel
set_option maxHeartbeats 4000000 in
set_option maxRecDepth 100000 in
theorem c_strI {G : gp_} {ad : Nat → Nat} {μ : mu_T} (hcap : μ 1 (-1) = 16) (hb : ∀ q : Nat, q < 16 → -128 ≤ μ 1 q ∧ μ 1 q ≤ 127) {n : Nat} (hn : n ≤ 16) (hco : μ 0 1 = 0) (hct : μ 0 3 = (n : Int)) {q : Nat} : mw_ yJ0_init_db425 cJ0_init_db425 5 none ({ frames := 3, cells := 1, slots := 16, locals := 98 } : Room) G [.ref q, .ref (ad 0), .null] (wl_ 2 ad (ceS G ad) μ ++ [(q, .inr (0, [.null, .int (iI 0), .int (iI 0), .int (iI 0)]))]) (fun A => qwv_ G A (fun (v : Nat) => (wl_ 2 ad (ceS G ad) μ ++ [(v, .inl (G.1.1 101, n, .inl (fun j => iI (μ 1 (j : Nat)))))]) ++ [(q, .inr (0, [.ref v, .int (iI 0), .int (iI 0), .int (iI 0)]))])) := by
  refine mw_in (own := "java/lang/String") (by decide) rfl (by exact Nat.le_of_ble_eq_true rfl) (fun X C NI E => ?_)
  have NI := NI rfl
  show wv_ G X (wl_ 2 ad (ceS G ad) μ ++ [(q, .inr (0, [.null, .int (iI 0), .int (iI 0), .int (iI 0)]))]) 0 0 0 [(0, .ref q), (1, .ref (ad 0)), (2, .null)] []
  refine xx_aload_n C 1 rfl 0 dJ0_init_db425_0 rfl rfl ?_
  refine xx_obj C 4 rfl ⟨w_775, w_56, w_57⟩ ⟨(by exact Nat.le_of_ble_eq_true rfl), (by exact Nat.le_of_ble_eq_true rfl)⟩ dJ0_init_db425_1 ?_
  refine xx_aload_n C 5 rfl 1 dJ0_init_db425_4 rfl rfl ?_
  refine xw_cUr (As := []) (st := []) C 8 rfl sw_l (i0 := 0) (yapp_l wS_0) rfl ca_J5_getValue_6d5f1 cu_J5_getValue_6d5f1 se_J5_getValue_6d5f1 w_776 rfl ⟨(by exact Nat.le_of_ble_eq_true rfl), (by exact Nat.le_of_ble_eq_true rfl)⟩ ⟨(by exact Nat.le_of_ble_eq_true rfl), (by exact Nat.le_of_ble_eq_true rfl)⟩ (by exact Nat.le_of_ble_eq_true rfl) dJ0_init_db425_5 (mw_o (c_J5_getValue_6d5f1_o0 (G := G) (ad := ad) μ μ rfl)) (fun _ => ?_) rfl
  show wv_ G X (wl_ 2 ad (ceS G ad) μ ++ [(q, .inr (0, [.null, .int (iI 0), .int (iI 0), .int (iI 0)]))]) 0 0 8 [(0, .ref q), (1, .ref (ad 0)), (2, .null)] [.ref (ad 1)]
  refine xx_astore_n (lv1 := [(3, .ref (ad 1)), (0, .ref q), (1, .ref (ad 0)), (2, .null)]) C 9 rfl (by decide) dJ0_init_db425_8 rfl rfl ?_
  refine xx_aload_n C 10 rfl 2 dJ0_init_db425_9 rfl rfl ?_
  refine xw_cOi (As := []) (st := []) C 13 rfl sw_l (i0 := 0) (yapp_l wS_0) rfl ca_J5_length_8abf5 cu_J5_length_8abf5 ca_J4_length_8abf5 w_1194 w_387 w_781 rfl ⟨(by exact Nat.le_of_ble_eq_true rfl), (by exact Nat.le_of_ble_eq_true rfl)⟩ ⟨(by exact Nat.le_of_ble_eq_true rfl), (by exact Nat.le_of_ble_eq_true rfl)⟩ (by exact Nat.le_of_ble_eq_true rfl) dJ0_init_db425_10 (mw_i (c_J4_length_8abf5_o0 (G := G) (ad := ad) μ (n : Int) (by unfold f_J4_length_8abf5_o0 f_J5_length_8abf5_o0 nm_; rw [hct]; rfl))) (fun _ => ?_) rfl
  show wv_ G X (wl_ 2 ad (ceS G ad) μ ++ [(q, .inr (0, [.null, .int (iI 0), .int (iI 0), .int (iI 0)]))]) 0 0 13 [(3, .ref (ad 1)), (0, .ref q), (1, .ref (ad 0)), (2, .null)] [.int (iI (n : Nat))]
  refine xx_istore (lv1 := [(4, .int (iI (n : Nat))), (3, .ref (ad 1)), (0, .ref q), (1, .ref (ad 0)), (2, .null)]) C 15 rfl (by decide) dJ0_init_db425_13 rfl ?_
  refine xx_aload_n C 16 rfl 3 dJ0_init_db425_15 rfl rfl ?_
  refine xw_cUi (As := []) (st := []) C 19 rfl sw_l (i0 := 0) (yapp_l wS_0) rfl ca_J5_isLatin1_aae02 cu_J5_isLatin1_aae02 se_J5_isLatin1_aae02 w_782 rfl ⟨(by exact Nat.le_of_ble_eq_true rfl), (by exact Nat.le_of_ble_eq_true rfl)⟩ ⟨(by exact Nat.le_of_ble_eq_true rfl), (by exact Nat.le_of_ble_eq_true rfl)⟩ (by exact Nat.le_of_ble_eq_true rfl) dJ0_init_db425_16 (mw_i (c_J5_isLatin1_aae02_o0 (G := G) (ad := ad) μ 1 (by unfold f_J5_isLatin1_aae02_o0 nm_; rw [hco]; decide))) (fun _ => ?_) rfl
  show wv_ G X (wl_ 2 ad (ceS G ad) μ ++ [(q, .inr (0, [.null, .int (iI 0), .int (iI 0), .int (iI 0)]))]) 0 0 19 [(4, .int (iI (n : Nat))), (3, .ref (ad 1)), (0, .ref q), (1, .ref (ad 0)), (2, .null)] [.int (iI 1)]
  refine xx_if_eq (tgt := 41) (t := none) (f := some ()) (r := ()) C 22 rfl dJ0_init_db425_19 (by decide) (by decide) (fun h => nn_ h) (fun _ => ?_)
  refine xx_aload_n C 23 rfl 2 dJ0_init_db425_22 rfl rfl ?_
  refine xx_iconst C 24 rfl dJ0_init_db425_23 ?_
  refine xv_putF (fi := 1) C NI 27 rfl 2 (fs := [.null, .int (iI 0), .int (iI 0), .int (iI 0)]) rfl rfl in_J0 tyJ0 tyJ0_ok nmJ0 (by decide) (by exact Nat.le_of_ble_eq_true rfl) ⟨rfl, rfl, rfl⟩ rfl rfl w_806 dJ0_init_db425_24 ?_
  show wv_ G X (wl_ 2 ad (ceS G ad) μ ++ [(q, .inr (0, [.null, .int (iI 0), .int (iI 0), .int (iI 0)]))]) 0 0 27 [(4, .int (iI (n : Nat))), (3, .ref (ad 1)), (0, .ref q), (1, .ref (ad 0)), (2, .null)] []
  refine xx_aload_n C 28 rfl 2 dJ0_init_db425_27 rfl rfl ?_
  refine xx_aload_n C 29 rfl 1 dJ0_init_db425_28 rfl rfl ?_
  refine xx_iconst C 30 rfl dJ0_init_db425_29 ?_
  refine xx_iload C 32 rfl 0 dJ0_init_db425_30 rfl ?_
  refine xw_cSr (rm2 := ({ frames := 2, cells := 1, slots := 16, locals := 65 } : Room)) (As := [.ref (ad 1), .int (iI 0), .int (iI (n : Nat))]) (st := [.ref q]) C 35 rfl sw_l ca_J7_copyOfRange_39247 cs_J7_copyOfRange_39247 w_783 rfl ⟨(by exact Nat.le_of_ble_eq_true rfl), (by exact Nat.le_of_ble_eq_true rfl)⟩ ⟨(by exact Nat.le_of_ble_eq_true rfl), (by exact Nat.le_of_ble_eq_true rfl)⟩ (by exact Nat.le_of_ble_eq_true rfl) dJ0_init_db425_32 (c_cpr hcap hb hn) (fun v => ?_) rfl
  refine xv_putF (fi := 0) C NI 38 rfl 3 (fs := [.null, .int (iI 0), .int (iI 0), .int (iI 0)]) rfl rfl in_J0 tyJ0 tyJ0_ok nmJ0 (by decide) (by exact Nat.le_of_ble_eq_true rfl) ⟨rfl, rfl, rfl⟩ rfl rfl w_805 dJ0_init_db425_35 ?_
  refine xx_goto C 97 dJ0_init_db425_38 (by decide) ?_
  exact xw_retv (w := (fun (v : Nat) => (wl_ 2 ad (ceS G ad) μ ++ [(v, .inl (G.1.1 101, n, .inl (fun j => iI (μ 1 (j : Nat)))))]) ++ [(q, .inr (0, [.ref v, .int (iI 0), .int (iI 0), .int (iI 0)]))])) C E rfl v rfl ⟨(by exact Nat.le_of_ble_eq_true rfl), (by exact Nat.le_of_ble_eq_true rfl)⟩ dJ0_init_db425_97
theorem dJ0_init_81219_0 : decode cJ0_init_81219 0 = .ok (.aload_n 0, 1) := by decide +kernel
theorem dJ0_init_81219_1 : decode cJ0_init_81219 1 = .ok (.aload_n 1, 1) := by decide +kernel
theorem dJ0_init_81219_2 : decode cJ0_init_81219 2 = .ok (.aconst_null, 1) := by decide +kernel
theorem dJ0_init_81219_3 : decode cJ0_init_81219 3 = .ok (.invokespecial 489, 3) := by decide +kernel
theorem dJ0_init_81219_6 : decode cJ0_init_81219 6 = .ok (.return_, 1) := by decide +kernel
set_option maxHeartbeats 4000000 in
set_option maxRecDepth 100000 in
theorem c_strB {G : gp_} {ad : Nat → Nat} {μ : mu_T} (hcap : μ 1 (-1) = 16) (hb : ∀ q : Nat, q < 16 → -128 ≤ μ 1 q ∧ μ 1 q ≤ 127) {n : Nat} (hn : n ≤ 16) (hco : μ 0 1 = 0) (hct : μ 0 3 = (n : Int)) {q : Nat} : mw_ yJ0_init_81219 cJ0_init_81219 2 none ({ frames := 4, cells := 1, slots := 16, locals := 122 } : Room) G [.ref q, .ref (ad 0)] (wl_ 2 ad (ceS G ad) μ ++ [(q, .inr (0, [.null, .int (iI 0), .int (iI 0), .int (iI 0)]))]) (fun A => qwv_ G A (fun (v : Nat) => (wl_ 2 ad (ceS G ad) μ ++ [(v, .inl (G.1.1 101, n, .inl (fun j => iI (μ 1 (j : Nat)))))]) ++ [(q, .inr (0, [.ref v, .int (iI 0), .int (iI 0), .int (iI 0)]))])) := by
  refine mw_in (own := "java/lang/String") (by decide) rfl (by exact Nat.le_of_ble_eq_true rfl) (fun X C NI E => ?_)
  show wv_ G X (wl_ 2 ad (ceS G ad) μ ++ [(q, .inr (0, [.null, .int (iI 0), .int (iI 0), .int (iI 0)]))]) 0 0 0 [(0, .ref q), (1, .ref (ad 0))] []
  refine xx_aload_n C 1 rfl 0 dJ0_init_81219_0 rfl rfl ?_
  refine xx_aload_n C 2 rfl 1 dJ0_init_81219_1 rfl rfl ?_
  refine xw_null C 3 rfl dJ0_init_81219_2 ?_
  refine xw_cIv (rm2 := ({ frames := 3, cells := 1, slots := 16, locals := 98 } : Room)) (As := [.ref (ad 0), .null]) (st := []) C 6 rfl sw_a ca_J0_init_db425 ⟨rfl, w_773⟩ w_772 rfl ⟨(by exact Nat.le_of_ble_eq_true rfl), (by exact Nat.le_of_ble_eq_true rfl)⟩ ⟨(by exact Nat.le_of_ble_eq_true rfl), (by exact Nat.le_of_ble_eq_true rfl)⟩ (by exact Nat.le_of_ble_eq_true rfl) dJ0_init_81219_3 (c_strI hcap hb hn hco hct) (fun v => ?_) rfl
  exact xw_retv (w := (fun (v : Nat) => (wl_ 2 ad (ceS G ad) μ ++ [(v, .inl (G.1.1 101, n, .inl (fun j => iI (μ 1 (j : Nat)))))]) ++ [(q, .inr (0, [.ref v, .int (iI 0), .int (iI 0), .int (iI 0)]))])) C E rfl v rfl ⟨(by exact Nat.le_of_ble_eq_true rfl), (by exact Nat.le_of_ble_eq_true rfl)⟩ dJ0_init_81219_6
theorem dJ4_toString_0e30d_0 : decode cJ4_toString_0e30d 0 = .ok (.new 18, 3) := by decide +kernel
theorem dJ4_toString_0e30d_3 : decode cJ4_toString_0e30d 3 = .ok (.dup, 1) := by decide +kernel
theorem dJ4_toString_0e30d_4 : decode cJ4_toString_0e30d 4 = .ok (.aload_n 0, 1) := by decide +kernel
theorem dJ4_toString_0e30d_5 : decode cJ4_toString_0e30d 5 = .ok (.invokespecial 137, 3) := by decide +kernel
theorem dJ4_toString_0e30d_8 : decode cJ4_toString_0e30d 8 = .ok (.areturn, 1) := by decide +kernel
set_option maxHeartbeats 4000000 in
set_option maxRecDepth 100000 in
theorem c_toStr {G : gp_} {ad : Nat → Nat} {μ : mu_T} (hcap : μ 1 (-1) = 16) (hb : ∀ q : Nat, q < 16 → -128 ≤ μ 1 q ∧ μ 1 q ≤ 127) {n : Nat} (hn : n ≤ 16) (hco : μ 0 1 = 0) (hct : μ 0 3 = (n : Int)) : mw_ yJ4_toString_0e30d cJ4_toString_0e30d 1 (some (.object "java/lang/String")) ({ frames := 5, cells := 2, slots := 20, locals := 143 } : Room) G [.ref (ad 0)] (wl_ 2 ad (ceS G ad) μ) (fun A => qwr_ G A (fun (u : Nat × Nat) => u.2) (fun (u : Nat × Nat) => (wl_ 2 ad (ceS G ad) μ ++ [(u.1, .inl (G.1.1 101, n, .inl (fun j => iI (μ 1 (j : Nat)))))]) ++ [(u.2, .inr (0, [.ref u.1, .int (iI 0), .int (iI 0), .int (iI 0)]))])) := by
  refine mw_in (own := "java/lang/StringBuilder") (by decide) rfl (by exact Nat.le_of_ble_eq_true rfl) (fun X C NI E => ?_)
  show wv_ G X (wl_ 2 ad (ceS G ad) μ) 0 0 0 [(0, .ref (ad 0))] []
  refine xv_new (ci := 0) (fs := [.null, .int (iI 0), .int (iI 0), .int (iI 0)]) C 3 rfl in_J0 tyJ0 tyJ0_ok rfl (fun j hj => by rcases (show j = 0 ∨ j = 1 ∨ j = 2 ∨ j = 3 by omega) with rfl | rfl | rfl | rfl <;> rfl) ⟨w_767, w_768, w_37⟩ ⟨(by exact Nat.le_of_ble_eq_true rfl), (by exact Nat.le_of_ble_eq_true rfl)⟩ dJ4_toString_0e30d_0 (fun q => ?_)
  refine xx_dup C 4 rfl dJ4_toString_0e30d_3 rfl ?_
  refine xx_aload_n C 5 rfl 0 dJ4_toString_0e30d_4 rfl rfl ?_
  refine xw_cIv (rm2 := ({ frames := 4, cells := 1, slots := 16, locals := 122 } : Room)) (As := [.ref (ad 0)]) (st := [.ref q]) C 8 rfl sw_a ca_J0_init_81219 ⟨rfl, w_770⟩ w_769 rfl ⟨(by exact Nat.le_of_ble_eq_true rfl), (by exact Nat.le_of_ble_eq_true rfl)⟩ ⟨(by exact Nat.le_of_ble_eq_true rfl), (by exact Nat.le_of_ble_eq_true rfl)⟩ (by exact Nat.le_of_ble_eq_true rfl) dJ4_toString_0e30d_5 (c_strB hcap hb hn hco hct) (fun v => ?_) rfl
  exact xw_retr (o := fun (u : Nat × Nat) => u.2) (w := (fun (u : Nat × Nat) => (wl_ 2 ad (ceS G ad) μ ++ [(u.1, .inl (G.1.1 101, n, .inl (fun j => iI (μ 1 (j : Nat)))))]) ++ [(u.2, .inr (0, [.ref u.1, .int (iI 0), .int (iI 0), .int (iI 0)]))])) C E (Or.inl ⟨_, rfl⟩) (v, q) rfl rfl ⟨(by exact Nat.le_of_ble_eq_true rfl), (by exact Nat.le_of_ble_eq_true rfl)⟩ dJ4_toString_0e30d_8
