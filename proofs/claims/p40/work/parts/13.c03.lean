theorem dX3_init_0 : decode cX3_init 0 = .ok (.aload_n 0, 1) := by decide +kernel
theorem dX3_init_1 : decode cX3_init 1 = .ok (.invokespecial 3, 3) := by decide +kernel
theorem dX3_init_4 : decode cX3_init 4 = .ok (.aload_n 0, 1) := by decide +kernel
theorem dX3_init_5 : decode cX3_init 5 = .ok (.bipush 9, 2) := by decide +kernel
theorem dX3_init_7 : decode cX3_init 7 = .ok (.anewarray 9, 3) := by decide +kernel
theorem dX3_init_10 : decode cX3_init 10 = .ok (.putfield 11, 3) := by decide +kernel
theorem dX3_init_13 : decode cX3_init 13 = .ok (.aload_n 0, 1) := by decide +kernel
theorem dX3_init_14 : decode cX3_init 14 = .ok (.new 9, 3) := by decide +kernel
theorem dX3_init_17 : decode cX3_init 17 = .ok (.dup, 1) := by decide +kernel
theorem dX3_init_18 : decode cX3_init 18 = .ok (.invokespecial 17, 3) := by decide +kernel
theorem dX3_init_21 : decode cX3_init 21 = .ok (.putfield 18, 3) := by decide +kernel
theorem dX3_init_24 : decode cX3_init 24 = .ok (.aload_n 0, 1) := by decide +kernel
theorem dX3_init_25 : decode cX3_init 25 = .ok (.iconst 0, 1) := by decide +kernel
theorem dX3_init_26 : decode cX3_init 26 = .ok (.putfield 22, 3) := by decide +kernel
theorem dX3_init_29 : decode cX3_init 29 = .ok (.aload_n 0, 1) := by decide +kernel
theorem dX3_init_30 : decode cX3_init 30 = .ok (.iconst 0, 1) := by decide +kernel
theorem dX3_init_31 : decode cX3_init 31 = .ok (.putfield 26, 3) := by decide +kernel
theorem dX3_init_34 : decode cX3_init 34 = .ok (.aload_n 0, 1) := by decide +kernel
theorem dX3_init_35 : decode cX3_init 35 = .ok (.iconst 0, 1) := by decide +kernel
theorem dX3_init_36 : decode cX3_init 36 = .ok (.putfield 30, 3) := by decide +kernel
theorem dX3_init_39 : decode cX3_init 39 = .ok (.aload_n 0, 1) := by decide +kernel
theorem dX3_init_40 : decode cX3_init 40 = .ok (.aload_n 1, 1) := by decide +kernel
theorem dX3_init_41 : decode cX3_init 41 = .ok (.putfield 33, 3) := by decide +kernel
theorem dX3_init_44 : decode cX3_init 44 = .ok (.iconst 0, 1) := by decide +kernel
theorem dX3_init_45 : decode cX3_init 45 = .ok (.istore_n 2, 1) := by decide +kernel
theorem dX3_init_46 : decode cX3_init 46 = .ok (.iload_n 2, 1) := by decide +kernel
theorem dX3_init_47 : decode cX3_init 47 = .ok (.aload_n 0, 1) := by decide +kernel
theorem dX3_init_48 : decode cX3_init 48 = .ok (.getfield 11, 3) := by decide +kernel
theorem dX3_init_51 : decode cX3_init 51 = .ok (.arraylength, 1) := by decide +kernel
theorem dX3_init_52 : decode cX3_init 52 = .ok (.if_icmp .ge 22, 3) := by decide +kernel
theorem dX3_init_55 : decode cX3_init 55 = .ok (.aload_n 0, 1) := by decide +kernel
theorem dX3_init_56 : decode cX3_init 56 = .ok (.getfield 11, 3) := by decide +kernel
theorem dX3_init_59 : decode cX3_init 59 = .ok (.iload_n 2, 1) := by decide +kernel
theorem dX3_init_60 : decode cX3_init 60 = .ok (.new 9, 3) := by decide +kernel
theorem dX3_init_63 : decode cX3_init 63 = .ok (.dup, 1) := by decide +kernel
theorem dX3_init_64 : decode cX3_init 64 = .ok (.invokespecial 17, 3) := by decide +kernel
theorem dX3_init_67 : decode cX3_init 67 = .ok (.aastore, 1) := by decide +kernel
theorem dX3_init_68 : decode cX3_init 68 = .ok (.iinc 2 1, 3) := by decide +kernel
theorem dX3_init_71 : decode cX3_init 71 = .ok (.goto (-25), 3) := by decide +kernel
theorem dX3_init_74 : decode cX3_init 74 = .ok (.return_, 1) := by decide +kernel
set_option maxHeartbeats 4000000 in
set_option maxRecDepth 100000 in
theorem l_X3 {G : gp_} {r1 q p : Nat} {X : ct_} (C : cx_ G X cX3_init "UrnHeap$History" ({ frames := 3, cells := 121, slots := 2799, locals := 55 } : Room) none 3) (E : eg_ X ({ frames := 3, cells := 121, slots := 2799, locals := 55 } : Room) (fun A => qc_ G A ((fun (q : Nat) (u : Nat × (Nat → Nat → Nat)) => hX3_ G r1 q u.1 u.2) q))) : ∀ (m i : Nat) (f : Nat → Option Nat) (V : Nat → Nat → Nat), i + m = 9 → (∀ j, j < i → f j = some (V (j + 1) 0)) → wv_ G X ([(q, .inr (4, [.ref r1, .ref p, .ref (V 10 0), .int (iI 0), .int (iI 0), .int (iI 0)])), (p, .inl (G.1.1 102, 9, .inr (.inr (.inr (.inr (f))))))] ++ hL_ G V i) (13 + 12 * i) (288 + 279 * i) 46 [(2, .int (iI i)), (0, .ref q), (1, .ref r1)] [] := by
  intro m
  induction m with
  | zero =>
    intro i f V hi hf
    have hi9 : i = 9 := by omega
    subst hi9
    refine xx_iload_n C 47 rfl 0 dX3_init_46 rfl rfl ?_
    refine xx_aload_n C 48 rfl 1 dX3_init_47 rfl rfl ?_
    refine xx_getr (q := 0) (fi := 1) C 51 rfl (by rw [List.length_append]; show 0 < 2 + _; omega) rfl rfl in_X3 (by decide) rfl w_238 dX3_init_48 ?_
    refine xx_plen (q := 1) (nA := 9) C 52 rfl (by rw [List.length_append]; show 1 < 2 + _; omega) (fun _ => rfl) dX3_init_51 ?_
    refine xx_icmp_ge (a := (9 : Nat)) (b := (9 : Nat)) (tgt := 74) (t := some ()) (f := none) (r := ()) C 55 rfl dX3_init_52 (by decide) (by decide) (fun _ => ?_) (fun h => nn_ h)
    refine xv_ext 1 (g := fun j => some (V (j + 1) 0)) rfl hf ?_
    exact xv_ret (w := (fun (q : Nat) (u : Nat × (Nat → Nat → Nat)) => hX3_ G r1 q u.1 u.2) q) (k := 121) (n := 2799) C E rfl (p, V) ⟨(Nat.le_of_ble_eq_true rfl), (Nat.le_of_ble_eq_true rfl)⟩ dX3_init_74
  | succ m ih =>
    intro i f V hi hf
    refine xx_iload_n C 47 rfl 0 dX3_init_46 rfl rfl ?_
    refine xx_aload_n C 48 rfl 1 dX3_init_47 rfl rfl ?_
    refine xx_getr (q := 0) (fi := 1) C 51 rfl (by rw [List.length_append]; show 0 < 2 + _; omega) rfl rfl in_X3 (by decide) rfl w_238 dX3_init_48 ?_
    refine xx_plen (q := 1) (nA := 9) C 52 rfl (by rw [List.length_append]; show 1 < 2 + _; omega) (fun _ => rfl) dX3_init_51 ?_
    refine xx_icmp_ge (a := i) (b := (9 : Nat)) (tgt := 74) (t := none) (f := some ()) (r := ()) C 55 rfl dX3_init_52 (by decide) (by unfold lt_; rw [if_pos ⟨⟨by omega, by omega⟩, by omega, by omega⟩, if_pos (by omega)]) (fun h => nn_ h) (fun _ => ?_)
    refine xx_aload_n C 56 rfl 1 dX3_init_55 rfl rfl ?_
    refine xx_getr (q := 0) (fi := 1) C 59 rfl (by rw [List.length_append]; show 0 < 2 + _; omega) rfl rfl in_X3 (by decide) rfl w_238 dX3_init_56 ?_
    refine xx_iload_n C 60 rfl 0 dX3_init_59 rfl rfl ?_
    refine xv_new (ci := 3) (fs := [.null, .null, .null, .null, .null, .null, .null, .null, .null, .int (iI 0), .int (iI 0), .int (iI 0), .int (iI 0), .int (iI 0), .int (iI 0), .int (iI 0), .int (iI 0)]) C 63 rfl in_X2 tyX2 tyX2_ok rfl (fun j hj => by rcases (show j = 0 ∨ j = 1 ∨ j = 2 ∨ j = 3 ∨ j = 4 ∨ j = 5 ∨ j = 6 ∨ j = 7 ∨ j = 8 ∨ j = 9 ∨ j = 10 ∨ j = 11 ∨ j = 12 ∨ j = 13 ∨ j = 14 ∨ j = 15 ∨ j = 16 by omega) with rfl | rfl | rfl | rfl | rfl | rfl | rfl | rfl | rfl | rfl | rfl | rfl | rfl | rfl | rfl | rfl | rfl <;> rfl) ⟨w_234, w_59, w_26⟩ ⟨by show 13 + 12 * i + 1 ≤ 121; omega, by show 288 + 279 * i + 17 ≤ 2799; omega⟩ dX3_init_60 (fun q1 => ?_)
    refine xx_dup C 64 rfl dX3_init_63 rfl ?_
    refine xv_ctor (k := 13 + 12 * i + 1) (n := 288 + 279 * i + 17) (e := .inr (3, [.null, .null, .null, .null, .null, .null, .null, .null, .null, .int (iI 0), .int (iI 0), .int (iI 0), .int (iI 0), .int (iI 0), .int (iI 0), .int (iI 0), .int (iI 0)])) (ws := [(q, .inr (4, [.ref r1, .ref p, .ref (V 10 0), .int (iI 0), .int (iI 0), .int (iI 0)])), (p, .inl (G.1.1 102, 9, .inr (.inr (.inr (.inr (f))))))] ++ hL_ G V i) (q := q1) (st := [.ref q1, .int (iI i), .ref p]) (As := []) C 67 rfl ca_X2_init ⟨rfl, w_61⟩ w_236 rfl ⟨(Nat.le_of_ble_eq_true rfl), (Nat.le_of_ble_eq_true rfl)⟩ ⟨by show 13 + 12 * i + 1 + 11 ≤ 121; omega, by show 288 + 279 * i + 17 + 262 ≤ 2799; omega⟩ (Nat.le_of_ble_eq_true rfl) dX3_init_64 i_X2 (fun u => ?_) rfl
    refine xv_aast (i := i) (v := q1) C 68 rfl 1 (([(q, .inr (4, [.ref r1, .ref p, .ref (V 10 0), .int (iI 0), .int (iI 0), .int (iI 0)])), (p, .inl (G.1.1 102, 9, .inr (.inr (.inr (.inr (f))))))] : va_W) ++ hL_ G V i).length rfl (by rw [List.getElem?_append_right (Nat.le_refl _), Nat.sub_self]; rfl) rfl (by omega) (by omega) (by decide) dX3_init_67 ?_
    refine xx_iincn (f := fun z => if z = (i + 1 : Nat) then some () else none) (r := ()) C 71 rfl 0 (by decide) dX3_init_68 rfl (by unfold nm_; exact if_pos (by omega)) (fun z hz => ?_)
    obtain rfl := (ck_e hz).1
    refine xx_lv (lv1 := [(2, .int (iI (i + 1 : Nat))), (0, .ref q), (1, .ref r1)]) rfl ?_
    refine xx_goto C 46 dX3_init_71 (by decide) ?_
    have h9 := ih (i + 1) (va_up f (Int.toNat (i : Int)) (some q1)) (fun h => if h = i + 1 then cq_ q1 u else V h) (by omega) (fun j hj => by
      by_cases hji : j = i
      · subst hji
        show (if j = Int.toNat (j : Int) then some q1 else f j) = some ((if j + 1 = j + 1 then cq_ q1 u else V (j + 1)) 0)
        rw [if_pos (by omega), if_pos rfl]
        rfl
      · show (if j = Int.toNat (i : Int) then some q1 else f j) = some ((if j + 1 = i + 1 then cq_ q1 u else V (j + 1)) 0)
        rw [if_neg (by omega), if_neg (by omega)]
        exact hf j (by omega))
    have e10 : (if 10 = i + 1 then cq_ q1 u else V 10) = V 10 := if_neg (by omega)
    have e1 : hL_ G (fun h => if h = i + 1 then cq_ q1 u else V h) (i + 1) = hL_ G V i ++ hX2_ G q1 u := by
      show hL_ G (fun h => if h = i + 1 then cq_ q1 u else V h) i ++ hX2_ G ((if i + 1 = i + 1 then cq_ q1 u else V (i + 1)) 0) (if i + 1 = i + 1 then cq_ q1 u else V (i + 1)) = _
      rw [if_pos rfl, hL_eq (V := fun h => if h = i + 1 then cq_ q1 u else V h) (V2 := V) i (if_neg (by omega)) (fun h a b => if_neg (by omega))]
      rfl
    refine wv_eq ?_ (by show 13 + 12 * i + 1 + 11 = 13 + 12 * (i + 1); omega) (by show 288 + 279 * i + 17 + 262 = 288 + 279 * (i + 1); omega) h9
    rw [e1, e10]
    rw [← List.append_assoc]
    rfl
set_option maxHeartbeats 4000000 in
set_option maxRecDepth 100000 in
theorem i_X3 {G : gp_} (r1 : Nat) : mc_ yX3_init cX3_init 3 ({ frames := 3, cells := 121, slots := 2799, locals := 55 } : Room) G [.ref r1] (.inr (4, [.null, .null, .null, .int (iI 0), .int (iI 0), .int (iI 0)])) (S := Nat × (Nat → Nat → Nat)) (fun (q : Nat) (u : Nat × (Nat → Nat → Nat)) => hX3_ G r1 q u.1 u.2) := by
  refine mc_in (own := "UrnHeap$History") (by decide) rfl (fun _ => (Nat.le_of_ble_eq_true rfl)) (fun X q C NI E => ?_)
  have NI := NI rfl
  show wv_ G X [(q, .inr (4, [.null, .null, .null, .int (iI 0), .int (iI 0), .int (iI 0)]))] 0 0 0 [(0, .ref q), (1, .ref r1)] []
  refine xx_aload_n C 1 rfl 0 dX3_init_0 rfl rfl ?_
  refine xx_obj C 4 rfl ⟨w_233, w_56, w_57⟩ ⟨(Nat.le_of_ble_eq_true rfl), (Nat.le_of_ble_eq_true rfl)⟩ dX3_init_1 ?_
  refine xx_aload_n C 5 rfl 0 dX3_init_4 rfl rfl ?_
  refine xx_bipush C 7 rfl dX3_init_5 (by decide) ?_
  refine xv_newq (z := 9) (Cn := "UrnHeap$Heap") (ti := 2) (cid := G.1.1 102) C 10 rfl (by decide) (by decide) rfl (fun hg => hg.2.2.2.2.2.2.2.1) w_234 ⟨(Nat.le_of_ble_eq_true rfl), (Nat.le_of_ble_eq_true rfl)⟩ dX3_init_7 (fun q7_1 => ?_)
  refine wv_eq (k2 := 1) (n2 := 9) rfl (Nat.eq_of_beq_eq_true rfl) (Nat.eq_of_beq_eq_true rfl) ?_
  show wv_ G X ([(q, .inr (4, [.null, .null, .null, .int (iI 0), .int (iI 0), .int (iI 0)])), (q7_1, .inl (G.1.1 102, 9, .inr (.inr (.inr (.inr (fun _ => none))))))]) 1 9 10 [(0, .ref q), (1, .ref r1)] [.ref q7_1, .ref q]
  refine xv_putF (fi := 1) C NI 13 rfl 0 (fs := [.null, .null, .null, .int (iI 0), .int (iI 0), .int (iI 0)]) rfl rfl in_X3 tyX3 tyX3_ok nmX3 (by decide) (Nat.le_of_ble_eq_true rfl) ⟨rfl, rfl, rfl⟩ rfl rfl w_238 dX3_init_10 ?_
  show wv_ G X ([(q, .inr (4, [.null, .ref q7_1, .null, .int (iI 0), .int (iI 0), .int (iI 0)])), (q7_1, .inl (G.1.1 102, 9, .inr (.inr (.inr (.inr (fun _ => none))))))]) 1 9 13 [(0, .ref q), (1, .ref r1)] []
  refine xx_aload_n C 14 rfl 0 dX3_init_13 rfl rfl ?_
  refine xv_new (ci := 3) (fs := [.null, .null, .null, .null, .null, .null, .null, .null, .null, .int (iI 0), .int (iI 0), .int (iI 0), .int (iI 0), .int (iI 0), .int (iI 0), .int (iI 0), .int (iI 0)]) C 17 rfl in_X2 tyX2 tyX2_ok rfl (fun j hj => by rcases (show j = 0 ∨ j = 1 ∨ j = 2 ∨ j = 3 ∨ j = 4 ∨ j = 5 ∨ j = 6 ∨ j = 7 ∨ j = 8 ∨ j = 9 ∨ j = 10 ∨ j = 11 ∨ j = 12 ∨ j = 13 ∨ j = 14 ∨ j = 15 ∨ j = 16 by omega) with rfl | rfl | rfl | rfl | rfl | rfl | rfl | rfl | rfl | rfl | rfl | rfl | rfl | rfl | rfl | rfl | rfl <;> rfl) ⟨w_234, w_59, w_26⟩ ⟨(Nat.le_of_ble_eq_true rfl), (Nat.le_of_ble_eq_true rfl)⟩ dX3_init_14 (fun q14_2 => ?_)
  show wv_ G X ([(q, .inr (4, [.null, .ref q7_1, .null, .int (iI 0), .int (iI 0), .int (iI 0)])), (q7_1, .inl (G.1.1 102, 9, .inr (.inr (.inr (.inr (fun _ => none)))))), (q14_2, .inr (3, [.null, .null, .null, .null, .null, .null, .null, .null, .null, .int (iI 0), .int (iI 0), .int (iI 0), .int (iI 0), .int (iI 0), .int (iI 0), .int (iI 0), .int (iI 0)]))]) 2 26 17 [(0, .ref q), (1, .ref r1)] [.ref q14_2, .ref q]
  refine xx_dup C 18 rfl dX3_init_17 rfl ?_
  refine xv_ctor (k := 2) (n := 26) (e := .inr (3, [.null, .null, .null, .null, .null, .null, .null, .null, .null, .int (iI 0), .int (iI 0), .int (iI 0), .int (iI 0), .int (iI 0), .int (iI 0), .int (iI 0), .int (iI 0)])) (ws := [(q, .inr (4, [.null, .ref q7_1, .null, .int (iI 0), .int (iI 0), .int (iI 0)])), (q7_1, .inl (G.1.1 102, 9, .inr (.inr (.inr (.inr (fun _ => none))))))]) (q := q14_2) (st := [.ref q14_2, .ref q]) (As := []) C 21 rfl ca_X2_init ⟨rfl, w_61⟩ w_236 rfl ⟨(Nat.le_of_ble_eq_true rfl), (Nat.le_of_ble_eq_true rfl)⟩ ⟨(Nat.le_of_ble_eq_true rfl), (Nat.le_of_ble_eq_true rfl)⟩ (Nat.le_of_ble_eq_true rfl) dX3_init_18 (i_X2) (fun u18_3 => ?_) rfl
  refine wv_eq (k2 := 13) (n2 := 288) rfl (Nat.eq_of_beq_eq_true rfl) (Nat.eq_of_beq_eq_true rfl) ?_
  show wv_ G X ([(q, .inr (4, [.null, .ref q7_1, .null, .int (iI 0), .int (iI 0), .int (iI 0)])), (q7_1, .inl (G.1.1 102, 9, .inr (.inr (.inr (.inr (fun _ => none))))))] ++ hX2_ G q14_2 u18_3) 13 288 21 [(0, .ref q), (1, .ref r1)] [.ref q14_2, .ref q]
  refine xv_putF (fi := 2) C NI 24 rfl 0 (fs := [.null, .ref q7_1, .null, .int (iI 0), .int (iI 0), .int (iI 0)]) rfl rfl in_X3 tyX3 tyX3_ok nmX3 (by decide) (Nat.le_of_ble_eq_true rfl) ⟨rfl, rfl, rfl⟩ rfl rfl w_239 dX3_init_21 ?_
  show wv_ G X ([(q, .inr (4, [.null, .ref q7_1, .ref q14_2, .int (iI 0), .int (iI 0), .int (iI 0)])), (q7_1, .inl (G.1.1 102, 9, .inr (.inr (.inr (.inr (fun _ => none))))))] ++ hX2_ G q14_2 u18_3) 13 288 24 [(0, .ref q), (1, .ref r1)] []
  refine xx_aload_n C 25 rfl 0 dX3_init_24 rfl rfl ?_
  refine xx_iconst C 26 rfl dX3_init_25 ?_
  refine xv_put (fi := 3) C 29 rfl 0 (fs := [.null, .ref q7_1, .ref q14_2, .int (iI 0), .int (iI 0), .int (iI 0)]) rfl rfl in_X3 tyX3 tyX3_ok nmX3 (by decide) (Nat.le_of_ble_eq_true rfl) ⟨rfl, rfl⟩ rfl rfl w_240 dX3_init_26 ?_
  show wv_ G X ([(q, .inr (4, [.null, .ref q7_1, .ref q14_2, .int (iI 0), .int (iI 0), .int (iI 0)])), (q7_1, .inl (G.1.1 102, 9, .inr (.inr (.inr (.inr (fun _ => none))))))] ++ hX2_ G q14_2 u18_3) 13 288 29 [(0, .ref q), (1, .ref r1)] []
  refine xx_aload_n C 30 rfl 0 dX3_init_29 rfl rfl ?_
  refine xx_iconst C 31 rfl dX3_init_30 ?_
  refine xv_put (fi := 4) C 34 rfl 0 (fs := [.null, .ref q7_1, .ref q14_2, .int (iI 0), .int (iI 0), .int (iI 0)]) rfl rfl in_X3 tyX3 tyX3_ok nmX3 (by decide) (Nat.le_of_ble_eq_true rfl) ⟨rfl, rfl⟩ rfl rfl w_241 dX3_init_31 ?_
  show wv_ G X ([(q, .inr (4, [.null, .ref q7_1, .ref q14_2, .int (iI 0), .int (iI 0), .int (iI 0)])), (q7_1, .inl (G.1.1 102, 9, .inr (.inr (.inr (.inr (fun _ => none))))))] ++ hX2_ G q14_2 u18_3) 13 288 34 [(0, .ref q), (1, .ref r1)] []
  refine xx_aload_n C 35 rfl 0 dX3_init_34 rfl rfl ?_
  refine xx_iconst C 36 rfl dX3_init_35 ?_
  refine xv_put (fi := 5) C 39 rfl 0 (fs := [.null, .ref q7_1, .ref q14_2, .int (iI 0), .int (iI 0), .int (iI 0)]) rfl rfl in_X3 tyX3 tyX3_ok nmX3 (by decide) (Nat.le_of_ble_eq_true rfl) ⟨rfl, rfl⟩ rfl rfl w_242 dX3_init_36 ?_
  show wv_ G X ([(q, .inr (4, [.null, .ref q7_1, .ref q14_2, .int (iI 0), .int (iI 0), .int (iI 0)])), (q7_1, .inl (G.1.1 102, 9, .inr (.inr (.inr (.inr (fun _ => none))))))] ++ hX2_ G q14_2 u18_3) 13 288 39 [(0, .ref q), (1, .ref r1)] []
  refine xx_aload_n C 40 rfl 0 dX3_init_39 rfl rfl ?_
  refine xx_aload_n C 41 rfl 1 dX3_init_40 rfl rfl ?_
  refine xv_putF (fi := 0) C NI 44 rfl 0 (fs := [.null, .ref q7_1, .ref q14_2, .int (iI 0), .int (iI 0), .int (iI 0)]) rfl rfl in_X3 tyX3 tyX3_ok nmX3 (by decide) (Nat.le_of_ble_eq_true rfl) ⟨rfl, rfl, rfl⟩ rfl rfl w_237 dX3_init_41 ?_
  show wv_ G X ([(q, .inr (4, [.ref r1, .ref q7_1, .ref q14_2, .int (iI 0), .int (iI 0), .int (iI 0)])), (q7_1, .inl (G.1.1 102, 9, .inr (.inr (.inr (.inr (fun _ => none))))))] ++ hX2_ G q14_2 u18_3) 13 288 44 [(0, .ref q), (1, .ref r1)] []
  refine xx_iconst C 45 rfl dX3_init_44 ?_
  refine xx_istore_n (lv1 := [(2, .int (iI 0)), (0, .ref q), (1, .ref r1)]) C 46 rfl (by decide) dX3_init_45 rfl rfl ?_
  have h9 := l_X3 (r1 := r1) (p := q7_1) C E 9 0 (fun _ => none) (fun h => if h = 10 then cq_ q14_2 u18_3 else fun _ => 0) rfl (fun j hj => absurd hj (by omega))
  exact h9

